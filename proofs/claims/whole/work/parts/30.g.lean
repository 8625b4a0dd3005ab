-- X9_errors
def J_X9_errors_104 (rec : Int32 → Int32 → xMem → Option (Int32 × xMem)) (x1 : Int32) (x2 : Int32) (x3 : Int32) (x4 : Int32) (x5 : Int32) (m : xMem) : Option (Int32 × xMem) :=
  rec (x4) (x5 + 1) m
def J_X9_errors_78 (rec : Int32 → Int32 → xMem → Option (Int32 × xMem)) (x1 : Int32) (x2 : Int32) (x3 : Int32) (x4 : Int32) (x5 : Int32) (s0 : Int32) (m : xMem) : Option (Int32 × xMem) :=
  if s0 = 0 then (
    J_X9_errors_104 rec (x1) (x2) (x3) (x4) (x5) m)
  else (
    if xin x1 10 = true then (
    if xin x5 60 = true then (
    if (m.1 (59 + (x1).toNatClampNeg) x5.toNatClampNeg) = (2 : Int32) then (
      J_X9_errors_104 rec (x1) (x2) (x3) (x4 + 1) (x5) m)
    else (
      J_X9_errors_104 rec (x1) (x2) (x3) (x4) (x5) m))
    else none)
    else none)
def J_X9_errors_73 (rec : Int32 → Int32 → xMem → Option (Int32 × xMem)) (x1 : Int32) (x2 : Int32) (x3 : Int32) (x4 : Int32) (x5 : Int32) (m : xMem) : Option (Int32 × xMem) :=
  J_X9_errors_78 rec (x1) (x2) (x3) (x4) (x5) ((1 : Int32)) m
def L_X9_errors_41 (x1 : Int32) (x2 : Int32) (x3 : Int32) : Nat → Int32 → Int32 → xMem → Option (Int32 × xMem)
  | 0, _, _, _ => none
  | fk + 1, x4, x5, m =>
    if xin x1 10 = true then (
    if (m.1 ag_editions_facts x1.toNatClampNeg) ≤ x5 then (
      some (x4, m))
    else (
      if x3 = 0 then (
        if xin x5 60 = true then (
        if (m.1 ag_facts_kind x5.toNatClampNeg) = x2 then (
          J_X9_errors_73 (fun y_18 y_19 m_20 => L_X9_errors_41 x1 x2 x3 fk y_18 y_19 m_20) (x1) (x2) (x3) (x4) (x5) m)
        else (
          J_X9_errors_78 (fun y_21 y_22 m_23 => L_X9_errors_41 x1 x2 x3 fk y_21 y_22 m_23) (x1) (x2) (x3) (x4) (x5) ((0 : Int32)) m))
        else none)
      else (
        J_X9_errors_73 (fun y_24 y_25 m_26 => L_X9_errors_41 x1 x2 x3 fk y_24 y_25 m_26) (x1) (x2) (x3) (x4) (x5) m)))
    else none
def J_X9_errors_35 (x1 : Int32) (x2 : Int32) (x3 : Int32) (m : xMem) : Option (Int32 × xMem) :=
  L_X9_errors_41 (x1) (x2) (x3) xfuel ((0 : Int32)) ((0 : Int32)) m
def J_X9_errors_10 (x1 : Int32) (x2 : Int32) (s0 : Int32) (m : xMem) : Option (Int32 × xMem) :=
  (F_X1_has (x1) m).bind fun q_1 => (
  if q_1.1 = 0 then (
    some ((-1 : Int32), q_1.2))
  else (
    if s0 = 0 then (
      (F_X9_isKind (x2) q_1.2).bind fun q_27 => (
      if q_27.1 = 0 then (
        some ((-1 : Int32), q_27.2))
      else (
        J_X9_errors_35 (x1) (x2) (s0) q_27.2)))
    else (
      J_X9_errors_35 (x1) (x2) (s0) q_1.2)))
def F_X9_errors (x1 : Int32) (x2 : Int32) (m : xMem) : Option (Int32 × xMem) :=
  if x2 = (-1 : Int32) then (
    J_X9_errors_10 (x1) (x2) ((1 : Int32)) m)
  else (
    J_X9_errors_10 (x1) (x2) ((0 : Int32)) m)
set_option maxHeartbeats 4000000 in
set_option maxRecDepth 100000 in
theorem pJ_X9_errors_104 {E : xE} {d : Nat} {Q : Option Value → xS → Prop} (hd : 3 ≤ d) (out : Int32 × xMem) (hR : Q (some (.int out.1)) (xf E out.2)) (rec : Int32 → Int32 → xMem → Option (Int32 × xMem)) (x1 : Int32) (x2 : Int32) (x3 : Int32) (x4 : Int32) (x5 : Int32) (hrec : ∀ (x4 : Int32) (x5 : Int32) (m : xMem), rec x4 x5 m = some out → xX E mX9_errors d 0 0 0 0 Q 41 [(0, .ref (xB E + 0)), (1, .int (x1)), (2, .int (x2)), (3, .int (x3)), (4, .int (x4)), (5, .int (x5))] [] (xf E m)) (m : xMem) (hf : J_X9_errors_104 rec x1 x2 x3 x4 x5 m = some out) : xX E mX9_errors d 0 0 0 0 Q 104 [(0, .ref (xB E + 0)), (1, .int (x1)), (2, .int (x2)), (3, .int (x3)), (4, .int (x4)), (5, .int (x5))] [] (xf E m) := by
  unfold J_X9_errors_104 at hf
  refine x_iinc (v := x5 + 1) (lv' := [(0, .ref (xB E + 0)), (1, .int (x1)), (2, .int (x2)), (3, .int (x3)), (4, .int (x4)), (5, .int (x5 + 1))]) dX9_errors_104 5 [1, 2, 3, 4, 5, 0] rfl rfl (by decide) rfl ?_
  refine x_goto 41 dX9_errors_107 (by decide) ?_
  exact hrec _ _ _ hf
set_option maxHeartbeats 4000000 in
set_option maxRecDepth 100000 in
theorem pJ_X9_errors_78 {E : xE} {d : Nat} {Q : Option Value → xS → Prop} (hd : 3 ≤ d) (out : Int32 × xMem) (hR : Q (some (.int out.1)) (xf E out.2)) (rec : Int32 → Int32 → xMem → Option (Int32 × xMem)) (x1 : Int32) (x2 : Int32) (x3 : Int32) (x4 : Int32) (x5 : Int32) (s0 : Int32) (hrec : ∀ (x4 : Int32) (x5 : Int32) (m : xMem), rec x4 x5 m = some out → xX E mX9_errors d 0 0 0 0 Q 41 [(0, .ref (xB E + 0)), (1, .int (x1)), (2, .int (x2)), (3, .int (x3)), (4, .int (x4)), (5, .int (x5))] [] (xf E m)) (m : xMem) (hf : J_X9_errors_78 rec x1 x2 x3 x4 x5 s0 m = some out) : xX E mX9_errors d 0 0 0 0 Q 78 [(0, .ref (xB E + 0)), (1, .int (x1)), (2, .int (x2)), (3, .int (x3)), (4, .int (x4)), (5, .int (x5))] [.int (s0)] (xf E m) := by
  unfold J_X9_errors_78 at hf
  refine x_istore (lv' := [(0, .ref (xB E + 0)), (1, .int (x1)), (2, .int (x2)), (3, .int (x3)), (4, .int (x4)), (5, .int (x5)), (6, .int (s0))]) dX9_errors_78 [1, 2, 3, 4, 5, 6, 0] (by decide) rfl ?_
  refine x_iload dX9_errors_80 rfl ?_
  refine x_if_eq 104 dX9_errors_82 (by decide) (fun hc => ?_) (fun hc => ?_)
  · replace hf := x_ift hc hf
    refine x_lv (lv' := [(0, .ref (xB E + 0)), (1, .int (x1)), (2, .int (x2)), (3, .int (x3)), (4, .int (x4)), (5, .int (x5))]) [0, 1, 2, 3, 4, 5] rfl ?_
    exact pJ_X9_errors_104 hd out hR _ _ _ _ _ _ hrec _ hf
  · replace hf := x_iff hc hf
    refine x_aload_n dX9_errors_85 rfl ?_
    refine f_getR (b := 46) dX9_errors_86 xcl_9 (by decide) fl_RX9_54 (by decide) sh_0 rfl ?_
    refine f_getR (b := 58) dX9_errors_89 xcl_1 (by decide) fl_RX9_227 (by decide) sh_46 rfl ?_
    refine x_iload_n dX9_errors_92 rfl ?_
    have hg_3 := x_gd hf
    replace hf := hg_3.2
    refine f_aald dX9_errors_93 (by decide) sh_58 hg_3.1 ?_
    refine x_iload dX9_errors_94 rfl ?_
    have hg_4 := x_gd hf
    replace hf := hg_4.2
    refine f_iald dX9_errors_96 (shn_58 _ (xin_lt hg_3.1)) (shr_58 _ (xin_lt hg_3.1)) hg_4.1 ?_
    refine x_iconst (v := 2) dX9_errors_97 (by decide) ?_
    refine x_icmp_ne 104 dX9_errors_98 (by decide) (fun hc => ?_) (fun hc => ?_)
    · replace hf := x_iff hc hf
      refine x_lv (lv' := [(0, .ref (xB E + 0)), (1, .int (x1)), (2, .int (x2)), (3, .int (x3)), (4, .int (x4)), (5, .int (x5))]) [0, 1, 2, 3, 4, 5] rfl ?_
      exact pJ_X9_errors_104 hd out hR _ _ _ _ _ _ hrec _ hf
    · replace hf := x_ift hc hf
      refine x_iinc (v := x4 + 1) (lv' := [(0, .ref (xB E + 0)), (1, .int (x1)), (2, .int (x2)), (3, .int (x3)), (4, .int (x4 + 1)), (5, .int (x5))]) dX9_errors_101 4 [1, 2, 3, 4, 0, 5] rfl rfl (by decide) rfl ?_
      exact pJ_X9_errors_104 hd out hR _ _ _ _ _ _ hrec _ hf
set_option maxHeartbeats 4000000 in
set_option maxRecDepth 100000 in
theorem pJ_X9_errors_73 {E : xE} {d : Nat} {Q : Option Value → xS → Prop} (hd : 3 ≤ d) (out : Int32 × xMem) (hR : Q (some (.int out.1)) (xf E out.2)) (rec : Int32 → Int32 → xMem → Option (Int32 × xMem)) (x1 : Int32) (x2 : Int32) (x3 : Int32) (x4 : Int32) (x5 : Int32) (hrec : ∀ (x4 : Int32) (x5 : Int32) (m : xMem), rec x4 x5 m = some out → xX E mX9_errors d 0 0 0 0 Q 41 [(0, .ref (xB E + 0)), (1, .int (x1)), (2, .int (x2)), (3, .int (x3)), (4, .int (x4)), (5, .int (x5))] [] (xf E m)) (m : xMem) (hf : J_X9_errors_73 rec x1 x2 x3 x4 x5 m = some out) : xX E mX9_errors d 0 0 0 0 Q 73 [(0, .ref (xB E + 0)), (1, .int (x1)), (2, .int (x2)), (3, .int (x3)), (4, .int (x4)), (5, .int (x5))] [] (xf E m) := by
  unfold J_X9_errors_73 at hf
  refine x_iconst (v := 1) dX9_errors_73 (by decide) ?_
  refine x_goto 78 dX9_errors_74 (by decide) ?_
  exact pJ_X9_errors_78 hd out hR _ _ _ _ _ _ _ hrec _ hf
set_option maxHeartbeats 4000000 in
set_option maxRecDepth 100000 in
theorem pL_X9_errors_41 {E : xE} {d : Nat} {Q : Option Value → xS → Prop} (hd : 3 ≤ d) (out : Int32 × xMem) (hR : Q (some (.int out.1)) (xf E out.2)) (x1 : Int32) (x2 : Int32) (x3 : Int32) : ∀ (fk : Nat) (x4 : Int32) (x5 : Int32) (m : xMem), L_X9_errors_41 x1 x2 x3 fk x4 x5 m = some out → xX E mX9_errors d 0 0 0 0 Q 41 [(0, .ref (xB E + 0)), (1, .int (x1)), (2, .int (x2)), (3, .int (x3)), (4, .int (x4)), (5, .int (x5))] [] (xf E m) := by
  intro fk
  induction fk with
  | zero => intro x4 x5 m hf; cases hf
  | succ fk ih =>
    intro x4 x5 m hf
    rw [L_X9_errors_41] at hf
    refine x_iload dX9_errors_41 rfl ?_
    refine x_aload_n dX9_errors_43 rfl ?_
    refine f_getR (b := 46) dX9_errors_44 xcl_9 (by decide) fl_RX9_54 (by decide) sh_0 rfl ?_
    refine f_getR (b := 80) dX9_errors_47 xcl_1 (by decide) fl_RX9_222 (by decide) sh_46 rfl ?_
    refine x_iload_n dX9_errors_50 rfl ?_
    have hg_2 := x_gd hf
    replace hf := hg_2.2
    refine f_iald dX9_errors_51 (by decide) sh_80 hg_2.1 ?_
    refine x_icmp_ge 110 dX9_errors_52 (by decide) (fun hc => ?_) (fun hc => ?_)
    · replace hf := x_ift hc hf
      refine x_iload dX9_errors_110 rfl ?_
      exact x_iret dX9_errors_112 rfl (by cases hf; exact hR)
    · replace hf := x_iff hc hf
      refine x_iload_n dX9_errors_55 rfl ?_
      refine x_if_ne 73 dX9_errors_56 (by decide) (fun hc => ?_) (fun hc => ?_)
      · replace hf := x_iff hc hf
        exact pJ_X9_errors_73 hd out hR _ _ _ _ _ _ (fun y0 y1 m9 h9 => ih y0 y1 m9 h9) _ hf
      · replace hf := x_ift hc hf
        refine x_aload_n dX9_errors_59 rfl ?_
        refine f_getR (b := 1) dX9_errors_60 xcl_9 (by decide) fl_RX9_12 (by decide) sh_0 rfl ?_
        refine f_getR (b := 2) dX9_errors_63 xcl_2 (by decide) fl_RX9_224 (by decide) sh_1 rfl ?_
        refine x_iload dX9_errors_66 rfl ?_
        have hg_17 := x_gd hf
        replace hf := hg_17.2
        refine f_iald dX9_errors_68 (by decide) sh_2 hg_17.1 ?_
        refine x_iload_n dX9_errors_69 rfl ?_
        refine x_icmp_ne 77 dX9_errors_70 (by decide) (fun hc => ?_) (fun hc => ?_)
        · replace hf := x_iff hc hf
          refine x_iconst (v := 0) dX9_errors_77 (by decide) ?_
          exact pJ_X9_errors_78 hd out hR _ _ _ _ _ _ _ (fun y0 y1 m9 h9 => ih y0 y1 m9 h9) _ hf
        · replace hf := x_ift hc hf
          exact pJ_X9_errors_73 hd out hR _ _ _ _ _ _ (fun y0 y1 m9 h9 => ih y0 y1 m9 h9) _ hf
set_option maxHeartbeats 4000000 in
set_option maxRecDepth 100000 in
theorem pJ_X9_errors_35 {E : xE} {d : Nat} {Q : Option Value → xS → Prop} (hd : 3 ≤ d) (out : Int32 × xMem) (hR : Q (some (.int out.1)) (xf E out.2)) (x1 : Int32) (x2 : Int32) (x3 : Int32) (m : xMem) (hf : J_X9_errors_35 x1 x2 x3 m = some out) : xX E mX9_errors d 0 0 0 0 Q 35 [(0, .ref (xB E + 0)), (1, .int (x1)), (2, .int (x2)), (3, .int (x3))] [] (xf E m) := by
  unfold J_X9_errors_35 at hf
  refine x_iconst (v := 0) dX9_errors_35 (by decide) ?_
  refine x_istore (lv' := [(0, .ref (xB E + 0)), (1, .int (x1)), (2, .int (x2)), (3, .int (x3)), (4, .int ((0 : Int32)))]) dX9_errors_36 [1, 2, 3, 4, 0] (by decide) rfl ?_
  refine x_iconst (v := 0) dX9_errors_38 (by decide) ?_
  refine x_istore (lv' := [(0, .ref (xB E + 0)), (1, .int (x1)), (2, .int (x2)), (3, .int (x3)), (4, .int ((0 : Int32))), (5, .int ((0 : Int32)))]) dX9_errors_39 [1, 2, 3, 4, 5, 0] (by decide) rfl ?_
  refine pL_X9_errors_41 hd out hR _ _ _ xfuel _ _ _ hf
set_option maxHeartbeats 4000000 in
set_option maxRecDepth 100000 in
theorem pJ_X9_errors_10 {E : xE} {d : Nat} {Q : Option Value → xS → Prop} (hd : 3 ≤ d) (out : Int32 × xMem) (hR : Q (some (.int out.1)) (xf E out.2)) (x1 : Int32) (x2 : Int32) (s0 : Int32) (m : xMem) (hf : J_X9_errors_10 x1 x2 s0 m = some out) : xX E mX9_errors d 0 0 0 0 Q 10 [(0, .ref (xB E + 0)), (1, .int (x1)), (2, .int (x2))] [.int (s0)] (xf E m) := by
  unfold J_X9_errors_10 at hf
  refine x_istore_n (lv' := [(0, .ref (xB E + 0)), (1, .int (x1)), (2, .int (x2)), (3, .int (s0))]) dX9_errors_10 [1, 2, 3, 0] (by decide) rfl ?_
  refine x_aload_n dX9_errors_11 rfl ?_
  refine f_getR (b := 46) dX9_errors_12 xcl_9 (by decide) fl_RX9_54 (by decide) sh_0 rfl ?_
  refine x_iload_n dX9_errors_15 rfl ?_
  obtain ⟨q_1, hq_1, hf⟩ := Option.bind_eq_some_iff.mp hf
  refine f_cVi mX1_has [.int (x1)] [] dX9_errors_16 cs_RX9_218 ⟨w_816, w_54⟩ (ci := 1) rfl (by decide) sh_46 rfl rfl (Nat.le_of_ble_eq_true rfl) (by omega) (c_X1_has (d := d - 1) (by omega) (x1) m q_1 hq_1) ?_
  refine x_if_eq 33 dX9_errors_19 (by decide) (fun hc => ?_) (fun hc => ?_)
  · replace hf := x_ift hc hf
    refine x_iconst (v := (-1)) dX9_errors_33 (by decide) ?_
    exact x_iret dX9_errors_34 rfl (by cases hf; exact hR)
  · replace hf := x_iff hc hf
    refine x_iload_n dX9_errors_22 rfl ?_
    refine x_if_ne 35 dX9_errors_23 (by decide) (fun hc => ?_) (fun hc => ?_)
    · replace hf := x_iff hc hf
      exact pJ_X9_errors_35 hd out hR _ _ _ _ hf
    · replace hf := x_ift hc hf
      refine x_iload_n dX9_errors_26 rfl ?_
      obtain ⟨q_27, hq_27, hf⟩ := Option.bind_eq_some_iff.mp hf
      refine f_cSi mX9_isKind [.int (x2)] [] dX9_errors_27 cs_RX9_90 w_396 rfl rfl (Nat.le_of_ble_eq_true rfl) (by omega) (c_X9_isKind (d := d - 1) (by omega) (x2) q_1.2 q_27 hq_27) ?_
      refine x_if_ne 35 dX9_errors_30 (by decide) (fun hc => ?_) (fun hc => ?_)
      · replace hf := x_iff hc hf
        exact pJ_X9_errors_35 hd out hR _ _ _ _ hf
      · replace hf := x_ift hc hf
        refine x_iconst (v := (-1)) dX9_errors_33 (by decide) ?_
        exact x_iret dX9_errors_34 rfl (by cases hf; exact hR)
set_option maxHeartbeats 4000000 in
set_option maxRecDepth 100000 in
theorem pF_X9_errors {E : xE} {d : Nat} {Q : Option Value → xS → Prop} (hd : 3 ≤ d) (out : Int32 × xMem) (hR : Q (some (.int out.1)) (xf E out.2)) (x1 : Int32) (x2 : Int32) (m : xMem) (hf : F_X9_errors x1 x2 m = some out) : xX E mX9_errors d 0 0 0 0 Q 0 [(0, .ref (xB E + 0)), (1, .int (x1)), (2, .int (x2))] [] (xf E m) := by
  unfold F_X9_errors at hf
  refine x_iload_n dX9_errors_0 rfl ?_
  refine x_iconst (v := (-1)) dX9_errors_1 (by decide) ?_
  refine x_icmp_ne 9 dX9_errors_2 (by decide) (fun hc => ?_) (fun hc => ?_)
  · replace hf := x_iff hc hf
    refine x_iconst (v := 0) dX9_errors_9 (by decide) ?_
    exact pJ_X9_errors_10 hd out hR _ _ _ _ hf
  · replace hf := x_ift hc hf
    refine x_iconst (v := 1) dX9_errors_5 (by decide) ?_
    refine x_goto 10 dX9_errors_6 (by decide) ?_
    exact pJ_X9_errors_10 hd out hR _ _ _ _ hf
theorem c_X9_errors {E : xE} {d : Nat} (hd : 3 ≤ d) (x1 : Int32) (x2 : Int32) (m : xMem) (out : Int32 × xMem) (h : F_X9_errors x1 x2 m = some out) : xCi E mX9_errors d [.ref (xB E + 0), .int x1, .int x2] m out.1 out.2 :=
  x_enter (by decide +kernel) (Nat.le_of_ble_eq_true rfl) (pF_X9_errors hd (Q := _) out ⟨rfl, rfl⟩ x1 x2 m h)
-- X10_errors
def J_X10_errors_78 (rec : Int32 → Int32 → xMem → Option (Int32 × xMem)) (x1 : Int32) (x2 : Int32) (x4 : Int32) (s0 : Int32) (s1 : Int32) (m : xMem) : Option (Int32 × xMem) :=
  rec (s0 + s1) (x4 + 1) m
def J_X10_errors_77 (rec : Int32 → Int32 → xMem → Option (Int32 × xMem)) (x1 : Int32) (x2 : Int32) (x4 : Int32) (s0 : Int32) (m : xMem) : Option (Int32 × xMem) :=
  J_X10_errors_78 rec (x1) (x2) (x4) (s0) ((0 : Int32)) m
def J_X10_errors_73 (rec : Int32 → Int32 → xMem → Option (Int32 × xMem)) (x1 : Int32) (x2 : Int32) (x4 : Int32) (s0 : Int32) (m : xMem) : Option (Int32 × xMem) :=
  J_X10_errors_78 rec (x1) (x2) (x4) (s0) ((1 : Int32)) m
def L_X10_errors_34 (x1 : Int32) (x2 : Int32) : Nat → Int32 → Int32 → xMem → Option (Int32 × xMem)
  | 0, _, _, _ => none
  | fk + 1, x3, x4, m =>
    if (60 : Int32) ≤ x4 then (
      some (x3, m))
    else (
      if xin (((60 : Int32) * x1) + x4) 600 = true then (
      if (m.1 am_proved (((60 : Int32) * x1) + x4).toNatClampNeg) = (2 : Int32) then (
        if x2 < 0 then (
          J_X10_errors_73 (fun y_9 y_10 m_11 => L_X10_errors_34 x1 x2 fk y_9 y_10 m_11) (x1) (x2) (x4) (x3) m)
        else (
          if xin x4 60 = true then (
          if (m.1 am_kindOf x4.toNatClampNeg) = x2 then (
            J_X10_errors_73 (fun y_12 y_13 m_14 => L_X10_errors_34 x1 x2 fk y_12 y_13 m_14) (x1) (x2) (x4) (x3) m)
          else (
            J_X10_errors_77 (fun y_15 y_16 m_17 => L_X10_errors_34 x1 x2 fk y_15 y_16 m_17) (x1) (x2) (x4) (x3) m))
          else none))
      else (
        J_X10_errors_77 (fun y_18 y_19 m_20 => L_X10_errors_34 x1 x2 fk y_18 y_19 m_20) (x1) (x2) (x4) (x3) m))
      else none)
def F_X10_errors (x1 : Int32) (x2 : Int32) (m : xMem) : Option (Int32 × xMem) :=
  if x1 < 0 then (
    some ((-1 : Int32), (xst m.1 am fGuideBookModel_thrown (0 : Int32), m.2)))
  else (
    if ((xst m.1 am fGuideBookModel_thrown (0 : Int32)) am fGuideBookModel_editions) ≤ x1 then (
      some ((-1 : Int32), (xst m.1 am fGuideBookModel_thrown (0 : Int32), m.2)))
    else (
      if x2 < (-1 : Int32) then (
        some ((-1 : Int32), (xst m.1 am fGuideBookModel_thrown (0 : Int32), m.2)))
      else (
        if x2 ≤ (5 : Int32) then (
          L_X10_errors_34 (x1) (x2) xfuel ((0 : Int32)) ((0 : Int32)) (xst m.1 am fGuideBookModel_thrown (0 : Int32), m.2))
        else (
          some ((-1 : Int32), (xst m.1 am fGuideBookModel_thrown (0 : Int32), m.2))))))
set_option maxHeartbeats 4000000 in
set_option maxRecDepth 100000 in
theorem pJ_X10_errors_78 {E : xE} {d : Nat} {Q : Option Value → xS → Prop} (hd : 1 ≤ d) (out : Int32 × xMem) (hR : Q (some (.int out.1)) (xf E out.2)) (rec : Int32 → Int32 → xMem → Option (Int32 × xMem)) (x1 : Int32) (x2 : Int32) (x4 : Int32) (s0 : Int32) (s1 : Int32) (hrec : ∀ (x3 : Int32) (x4 : Int32) (m : xMem), rec x3 x4 m = some out → xX E mX10_errors d 0 0 0 0 Q 34 [(0, .ref (xB E + 87)), (1, .int (x1)), (2, .int (x2)), (3, .int (x3)), (4, .int (x4))] [] (xf E m)) (m : xMem) (hf : J_X10_errors_78 rec x1 x2 x4 s0 s1 m = some out) : xX E mX10_errors d 0 0 0 0 Q 78 [(0, .ref (xB E + 87)), (1, .int (x1)), (2, .int (x2)), (4, .int (x4))] [.int (s1), .int (s0)] (xf E m) := by
  unfold J_X10_errors_78 at hf
  refine x_iadd dX10_errors_78 ?_
  refine x_istore_n (lv' := [(0, .ref (xB E + 87)), (1, .int (x1)), (2, .int (x2)), (3, .int (s0 + s1)), (4, .int (x4))]) dX10_errors_79 [1, 2, 3, 0, 4] (by decide) rfl ?_
  refine x_iinc (v := x4 + 1) (lv' := [(0, .ref (xB E + 87)), (1, .int (x1)), (2, .int (x2)), (3, .int (s0 + s1)), (4, .int (x4 + 1))]) dX10_errors_80 4 [1, 2, 3, 4, 0] rfl rfl (by decide) rfl ?_
  refine x_goto 34 dX10_errors_83 (by decide) ?_
  exact hrec _ _ _ hf
set_option maxHeartbeats 4000000 in
set_option maxRecDepth 100000 in
theorem pJ_X10_errors_77 {E : xE} {d : Nat} {Q : Option Value → xS → Prop} (hd : 1 ≤ d) (out : Int32 × xMem) (hR : Q (some (.int out.1)) (xf E out.2)) (rec : Int32 → Int32 → xMem → Option (Int32 × xMem)) (x1 : Int32) (x2 : Int32) (x4 : Int32) (s0 : Int32) (hrec : ∀ (x3 : Int32) (x4 : Int32) (m : xMem), rec x3 x4 m = some out → xX E mX10_errors d 0 0 0 0 Q 34 [(0, .ref (xB E + 87)), (1, .int (x1)), (2, .int (x2)), (3, .int (x3)), (4, .int (x4))] [] (xf E m)) (m : xMem) (hf : J_X10_errors_77 rec x1 x2 x4 s0 m = some out) : xX E mX10_errors d 0 0 0 0 Q 77 [(0, .ref (xB E + 87)), (1, .int (x1)), (2, .int (x2)), (4, .int (x4))] [.int (s0)] (xf E m) := by
  unfold J_X10_errors_77 at hf
  refine x_iconst (v := 0) dX10_errors_77 (by decide) ?_
  exact pJ_X10_errors_78 hd out hR _ _ _ _ _ _ hrec _ hf
set_option maxHeartbeats 4000000 in
set_option maxRecDepth 100000 in
theorem pJ_X10_errors_73 {E : xE} {d : Nat} {Q : Option Value → xS → Prop} (hd : 1 ≤ d) (out : Int32 × xMem) (hR : Q (some (.int out.1)) (xf E out.2)) (rec : Int32 → Int32 → xMem → Option (Int32 × xMem)) (x1 : Int32) (x2 : Int32) (x4 : Int32) (s0 : Int32) (hrec : ∀ (x3 : Int32) (x4 : Int32) (m : xMem), rec x3 x4 m = some out → xX E mX10_errors d 0 0 0 0 Q 34 [(0, .ref (xB E + 87)), (1, .int (x1)), (2, .int (x2)), (3, .int (x3)), (4, .int (x4))] [] (xf E m)) (m : xMem) (hf : J_X10_errors_73 rec x1 x2 x4 s0 m = some out) : xX E mX10_errors d 0 0 0 0 Q 73 [(0, .ref (xB E + 87)), (1, .int (x1)), (2, .int (x2)), (4, .int (x4))] [.int (s0)] (xf E m) := by
  unfold J_X10_errors_73 at hf
  refine x_iconst (v := 1) dX10_errors_73 (by decide) ?_
  refine x_goto 78 dX10_errors_74 (by decide) ?_
  exact pJ_X10_errors_78 hd out hR _ _ _ _ _ _ hrec _ hf
set_option maxHeartbeats 4000000 in
set_option maxRecDepth 100000 in
theorem pL_X10_errors_34 {E : xE} {d : Nat} {Q : Option Value → xS → Prop} (hd : 1 ≤ d) (out : Int32 × xMem) (hR : Q (some (.int out.1)) (xf E out.2)) (x1 : Int32) (x2 : Int32) : ∀ (fk : Nat) (x3 : Int32) (x4 : Int32) (m : xMem), L_X10_errors_34 x1 x2 fk x3 x4 m = some out → xX E mX10_errors d 0 0 0 0 Q 34 [(0, .ref (xB E + 87)), (1, .int (x1)), (2, .int (x2)), (3, .int (x3)), (4, .int (x4))] [] (xf E m) := by
  intro fk
  induction fk with
  | zero => intro x3 x4 m hf; cases hf
  | succ fk ih =>
    intro x3 x4 m hf
    rw [L_X10_errors_34] at hf
    refine x_iload dX10_errors_34 rfl ?_
    refine x_bipush (v := 60) dX10_errors_36 (by decide) ?_
    refine x_icmp_ge 86 dX10_errors_38 (by decide) (fun hc => ?_) (fun hc => ?_)
    · replace hf := x_ift hc hf
      refine x_iload_n dX10_errors_86 rfl ?_
      exact x_iret dX10_errors_87 rfl (by cases hf; exact hR)
    · replace hf := x_iff hc hf
      refine x_iload_n dX10_errors_41 rfl ?_
      refine x_aload_n dX10_errors_42 rfl ?_
      refine f_getR (b := 123) dX10_errors_43 xcl_10 (by decide) fl_RX10_146 (by decide) sh_87 rfl ?_
      refine x_bipush (v := 60) dX10_errors_46 (by decide) ?_
      refine x_iload_n dX10_errors_48 rfl ?_
      refine x_imul dX10_errors_49 ?_
      refine x_iload dX10_errors_50 rfl ?_
      refine x_iadd dX10_errors_52 ?_
      have hg_1 := x_gd hf
      replace hf := hg_1.2
      refine f_iald dX10_errors_53 (by decide) sh_123 hg_1.1 ?_
      refine x_iconst (v := 2) dX10_errors_54 (by decide) ?_
      refine x_icmp_ne 77 dX10_errors_55 (by decide) (fun hc => ?_) (fun hc => ?_)
      · replace hf := x_iff hc hf
        refine x_lv (lv' := [(0, .ref (xB E + 87)), (1, .int (x1)), (2, .int (x2)), (4, .int (x4))]) [0, 1, 2, 4] rfl ?_
        exact pJ_X10_errors_77 hd out hR _ _ _ _ _ (fun y0 y1 m9 h9 => ih y0 y1 m9 h9) _ hf
      · replace hf := x_ift hc hf
        refine x_iload_n dX10_errors_58 rfl ?_
        refine x_if_lt 73 dX10_errors_59 (by decide) (fun hc => ?_) (fun hc => ?_)
        · replace hf := x_ift hc hf
          refine x_lv (lv' := [(0, .ref (xB E + 87)), (1, .int (x1)), (2, .int (x2)), (4, .int (x4))]) [0, 1, 2, 4] rfl ?_
          exact pJ_X10_errors_73 hd out hR _ _ _ _ _ (fun y0 y1 m9 h9 => ih y0 y1 m9 h9) _ hf
        · replace hf := x_iff hc hf
          refine x_aload_n dX10_errors_62 rfl ?_
          refine f_getR (b := 103) dX10_errors_63 xcl_10 (by decide) fl_RX10_85 (by decide) sh_87 rfl ?_
          refine x_iload dX10_errors_66 rfl ?_
          have hg_8 := x_gd hf
          replace hf := hg_8.2
          refine f_iald dX10_errors_68 (by decide) sh_103 hg_8.1 ?_
          refine x_iload_n dX10_errors_69 rfl ?_
          refine x_icmp_ne 77 dX10_errors_70 (by decide) (fun hc => ?_) (fun hc => ?_)
          · replace hf := x_iff hc hf
            refine x_lv (lv' := [(0, .ref (xB E + 87)), (1, .int (x1)), (2, .int (x2)), (4, .int (x4))]) [0, 1, 2, 4] rfl ?_
            exact pJ_X10_errors_77 hd out hR _ _ _ _ _ (fun y0 y1 m9 h9 => ih y0 y1 m9 h9) _ hf
          · replace hf := x_ift hc hf
            refine x_lv (lv' := [(0, .ref (xB E + 87)), (1, .int (x1)), (2, .int (x2)), (4, .int (x4))]) [0, 1, 2, 4] rfl ?_
            exact pJ_X10_errors_73 hd out hR _ _ _ _ _ (fun y0 y1 m9 h9 => ih y0 y1 m9 h9) _ hf
set_option maxHeartbeats 4000000 in
set_option maxRecDepth 100000 in
theorem pF_X10_errors {E : xE} {d : Nat} {Q : Option Value → xS → Prop} (hd : 1 ≤ d) (out : Int32 × xMem) (hR : Q (some (.int out.1)) (xf E out.2)) (x1 : Int32) (x2 : Int32) (m : xMem) (hf : F_X10_errors x1 x2 m = some out) : xX E mX10_errors d 0 0 0 0 Q 0 [(0, .ref (xB E + 87)), (1, .int (x1)), (2, .int (x2))] [] (xf E m) := by
  unfold F_X10_errors at hf
  refine x_aload_n dX10_errors_0 rfl ?_
  refine x_iconst (v := 0) dX10_errors_1 (by decide) ?_
  refine f_putI dX10_errors_2 xcl_10 (by decide) fl_RX10_1 rfl rfl (by decide) sh_87 rfl ?_
  refine x_iload_n dX10_errors_5 rfl ?_
  refine x_if_lt 27 dX10_errors_6 (by decide) (fun hc => ?_) (fun hc => ?_)
  · replace hf := x_ift hc hf
    refine x_iconst (v := (-1)) dX10_errors_27 (by decide) ?_
    exact x_iret dX10_errors_28 rfl (by cases hf; exact hR)
  · replace hf := x_iff hc hf
    refine x_iload_n dX10_errors_9 rfl ?_
    refine x_aload_n dX10_errors_10 rfl ?_
    refine f_getI dX10_errors_11 xcl_10 (by decide) fl_RX10_312 (by decide) sh_87 rfl ?_
    refine x_icmp_ge 27 dX10_errors_14 (by decide) (fun hc => ?_) (fun hc => ?_)
    · replace hf := x_ift hc hf
      refine x_iconst (v := (-1)) dX10_errors_27 (by decide) ?_
      exact x_iret dX10_errors_28 rfl (by cases hf; exact hR)
    · replace hf := x_iff hc hf
      refine x_iload_n dX10_errors_17 rfl ?_
      refine x_iconst (v := (-1)) dX10_errors_18 (by decide) ?_
      refine x_icmp_lt 27 dX10_errors_19 (by decide) (fun hc => ?_) (fun hc => ?_)
      · replace hf := x_ift hc hf
        refine x_iconst (v := (-1)) dX10_errors_27 (by decide) ?_
        exact x_iret dX10_errors_28 rfl (by cases hf; exact hR)
      · replace hf := x_iff hc hf
        refine x_iload_n dX10_errors_22 rfl ?_
        refine x_iconst (v := 5) dX10_errors_23 (by decide) ?_
        refine x_icmp_le 29 dX10_errors_24 (by decide) (fun hc => ?_) (fun hc => ?_)
        · replace hf := x_ift hc hf
          refine x_iconst (v := 0) dX10_errors_29 (by decide) ?_
          refine x_istore_n (lv' := [(0, .ref (xB E + 87)), (1, .int (x1)), (2, .int (x2)), (3, .int ((0 : Int32)))]) dX10_errors_30 [1, 2, 3, 0] (by decide) rfl ?_
          refine x_iconst (v := 0) dX10_errors_31 (by decide) ?_
          refine x_istore (lv' := [(0, .ref (xB E + 87)), (1, .int (x1)), (2, .int (x2)), (3, .int ((0 : Int32))), (4, .int ((0 : Int32)))]) dX10_errors_32 [1, 2, 3, 4, 0] (by decide) rfl ?_
          refine pL_X10_errors_34 hd out hR _ _ xfuel _ _ _ hf
        · replace hf := x_iff hc hf
          refine x_iconst (v := (-1)) dX10_errors_27 (by decide) ?_
          exact x_iret dX10_errors_28 rfl (by cases hf; exact hR)
theorem c_X10_errors {E : xE} {d : Nat} (hd : 1 ≤ d) (x1 : Int32) (x2 : Int32) (m : xMem) (out : Int32 × xMem) (h : F_X10_errors x1 x2 m = some out) : xCi E mX10_errors d [.ref (xB E + 87), .int x1, .int x2] m out.1 out.2 :=
  x_enter (by decide +kernel) (Nat.le_of_ble_eq_true rfl) (pF_X10_errors hd (Q := _) out ⟨rfl, rfl⟩ x1 x2 m h)
-- X9_count
def F_X9_count (x1 : Int32) (m : xMem) : Option (Int32 × xMem) :=
  if x1 = 0 then (
    some (m.1 ag_facts fFacts_size, m))
  else (
  if x1 = 1 then (
    some (m.1 ag_facts fFacts_now, m))
  else (
  if x1 = 2 then (
    some (m.1 ag_letters fLetters_size, m))
  else (
  if x1 = 3 then (
    some (m.1 ag_letters fLetters_open, m))
  else (
  if x1 = 4 then (
    some (m.1 ag_editions fEditions_size, m))
  else (
  if x1 = 5 then (
    some (m.1 ag_script fScript_lines, m))
  else (
  if x1 = 6 then (
    some (m.1 ag_tape fTape_length, m))
  else (
    some ((-1 : Int32), m))))))))
set_option maxHeartbeats 4000000 in
set_option maxRecDepth 100000 in
theorem pF_X9_count {E : xE} {d : Nat} {Q : Option Value → xS → Prop} (hd : 1 ≤ d) (out : Int32 × xMem) (hR : Q (some (.int out.1)) (xf E out.2)) (x1 : Int32) (m : xMem) (hf : F_X9_count x1 m = some out) : xX E mX9_count d 0 0 0 0 Q 0 [(0, .ref (xB E + 0)), (1, .int (x1))] [] (xf E m) := by
  unfold F_X9_count at hf
  refine x_iload_n dX9_count_0 rfl ?_
  by_cases hc : x1 = 0
  · replace hf := x_ift hc hf
    refine x_tableIn 44 dX9_count_1 (by rw [hc]; decide) (by rw [hc]; decide) (by rw [hc]; rfl) (by decide) ?_
    refine x_aload_n dX9_count_44 rfl ?_
    refine f_getR (b := 1) dX9_count_45 xcl_9 (by decide) fl_RX9_12 (by decide) sh_0 rfl ?_
    refine f_getI dX9_count_48 xcl_2 (by decide) fl_RX9_100 (by decide) sh_1 rfl ?_
    exact x_iret dX9_count_51 rfl (by cases hf; exact hR)
  replace hf := x_iff hc hf
  have hn0 := hc
  by_cases hc : x1 = 1
  · replace hf := x_ift hc hf
    refine x_tableIn 52 dX9_count_1 (by rw [hc]; decide) (by rw [hc]; decide) (by rw [hc]; rfl) (by decide) ?_
    refine x_aload_n dX9_count_52 rfl ?_
    refine f_getR (b := 1) dX9_count_53 xcl_9 (by decide) fl_RX9_12 (by decide) sh_0 rfl ?_
    refine f_getI dX9_count_56 xcl_2 (by decide) fl_RX9_86 (by decide) sh_1 rfl ?_
    exact x_iret dX9_count_59 rfl (by cases hf; exact hR)
  replace hf := x_iff hc hf
  have hn1 := hc
  by_cases hc : x1 = 2
  · replace hf := x_ift hc hf
    refine x_tableIn 60 dX9_count_1 (by rw [hc]; decide) (by rw [hc]; decide) (by rw [hc]; rfl) (by decide) ?_
    refine x_aload_n dX9_count_60 rfl ?_
    refine f_getR (b := 10) dX9_count_61 xcl_9 (by decide) fl_RX9_19 (by decide) sh_0 rfl ?_
    refine f_getI dX9_count_64 xcl_3 (by decide) fl_RX9_142 (by decide) sh_10 rfl ?_
    exact x_iret dX9_count_67 rfl (by cases hf; exact hR)
  replace hf := x_iff hc hf
  have hn2 := hc
  by_cases hc : x1 = 3
  · replace hf := x_ift hc hf
    refine x_tableIn 68 dX9_count_1 (by rw [hc]; decide) (by rw [hc]; decide) (by rw [hc]; rfl) (by decide) ?_
    refine x_aload_n dX9_count_68 rfl ?_
    refine f_getR (b := 10) dX9_count_69 xcl_9 (by decide) fl_RX9_19 (by decide) sh_0 rfl ?_
    refine f_getI dX9_count_72 xcl_3 (by decide) fl_RX9_229 (by decide) sh_10 rfl ?_
    exact x_iret dX9_count_75 rfl (by cases hf; exact hR)
  replace hf := x_iff hc hf
  have hn3 := hc
  by_cases hc : x1 = 4
  · replace hf := x_ift hc hf
    refine x_tableIn 76 dX9_count_1 (by rw [hc]; decide) (by rw [hc]; decide) (by rw [hc]; rfl) (by decide) ?_
    refine x_aload_n dX9_count_76 rfl ?_
    refine f_getR (b := 46) dX9_count_77 xcl_9 (by decide) fl_RX9_54 (by decide) sh_0 rfl ?_
    refine f_getI dX9_count_80 xcl_1 (by decide) fl_RX9_208 (by decide) sh_46 rfl ?_
    exact x_iret dX9_count_83 rfl (by cases hf; exact hR)
  replace hf := x_iff hc hf
  have hn4 := hc
  by_cases hc : x1 = 5
  · replace hf := x_ift hc hf
    refine x_tableIn 84 dX9_count_1 (by rw [hc]; decide) (by rw [hc]; decide) (by rw [hc]; rfl) (by decide) ?_
    refine x_aload_n dX9_count_84 rfl ?_
    refine f_getR (b := 41) dX9_count_85 xcl_9 (by decide) fl_RX9_47 (by decide) sh_0 rfl ?_
    refine f_getI dX9_count_88 xcl_6 (by decide) fl_RX9_232 (by decide) sh_41 rfl ?_
    exact x_iret dX9_count_91 rfl (by cases hf; exact hR)
  replace hf := x_iff hc hf
  have hn5 := hc
  by_cases hc : x1 = 6
  · replace hf := x_ift hc hf
    refine x_tableIn 92 dX9_count_1 (by rw [hc]; decide) (by rw [hc]; decide) (by rw [hc]; rfl) (by decide) ?_
    refine x_aload_n dX9_count_92 rfl ?_
    refine f_getR (b := 29) dX9_count_93 xcl_9 (by decide) fl_RX9_33 (by decide) sh_0 rfl ?_
    refine f_getI dX9_count_96 xcl_7 (by decide) fl_RX9_178 (by decide) sh_29 rfl ?_
    exact x_iret dX9_count_99 rfl (by cases hf; exact hR)
  replace hf := x_iff hc hf
  have hn6 := hc
  refine x_tableOut 100 dX9_count_1 (xtab_out 0 6 [0, 1, 2, 3, 4, 5, 6] (by decide) (by simp only [List.forall_mem_cons, List.not_mem_nil, false_implies, implies_true, and_true]; exact ⟨hn0, hn1, hn2, hn3, hn4, hn5, hn6⟩)) (by decide) ?_
  refine x_iconst (v := (-1)) dX9_count_100 (by decide) ?_
  exact x_iret dX9_count_101 rfl (by cases hf; exact hR)
theorem c_X9_count {E : xE} {d : Nat} (hd : 1 ≤ d) (x1 : Int32) (m : xMem) (out : Int32 × xMem) (h : F_X9_count x1 m = some out) : xCi E mX9_count d [.ref (xB E + 0), .int x1] m out.1 out.2 :=
  x_enter (by decide +kernel) (Nat.le_of_ble_eq_true rfl) (pF_X9_count hd (Q := _) out ⟨rfl, rfl⟩ x1 m h)
-- X10_count
def J_X10_count_32 (rec : Int32 → Int32 → xMem → Option (Int32 × xMem)) (c40 : Int32 → xMem → Option (Int32 × xMem)) (x1 : Int32) (x3 : Int32) (s0 : Int32) (s1 : Int32) (m : xMem) : Option (Int32 × xMem) :=
  rec (s0 + s1) (x3 + 1) m
def L_X10_count_9 (x1 : Int32) (c40 : Int32 → xMem → Option (Int32 × xMem)) : Nat → Int32 → Int32 → xMem → Option (Int32 × xMem)
  | 0, _, _, _ => none
  | fk + 1, x2, x3, m =>
    if (m.1 am fGuideBookModel_letters) ≤ x3 then (
      c40 (x2) m)
    else (
      if xin x3 100 = true then (
      if (m.1 am_proofs x3.toNatClampNeg) = 0 then (
        J_X10_count_32 (fun y_2 y_3 m_4 => L_X10_count_9 x1 c40 fk y_2 y_3 m_4) c40 (x1) (x3) (x2) ((1 : Int32)) m)
      else (
        J_X10_count_32 (fun y_5 y_6 m_7 => L_X10_count_9 x1 c40 fk y_5 y_6 m_7) c40 (x1) (x3) (x2) ((0 : Int32)) m))
      else none)
def F_X10_count (x1 : Int32) (m : xMem) : Option (Int32 × xMem) :=
  L_X10_count_9 (x1) (fun x2_8 m_9 => (
    if x1 = 0 then (
      some (m_9.1 am fGuideBookModel_facts, m_9))
    else (
      if x1 = (1 : Int32) then (
        some (m_9.1 am fGuideBookModel_now, m_9))
      else (
        if x1 = (2 : Int32) then (
          some (m_9.1 am fGuideBookModel_letters, m_9))
        else (
          if x1 = (3 : Int32) then (
            some (x2_8, m_9))
          else (
            if x1 = (4 : Int32) then (
              some (m_9.1 am fGuideBookModel_editions, m_9))
            else (
              if x1 = (5 : Int32) then (
                if xin (m_9.1 am fGuideBookModel_holds) 2 = true then (
                some (m_9.1 am_lines (m_9.1 am fGuideBookModel_holds).toNatClampNeg, m_9))
                else none)
              else (
                if x1 = (6 : Int32) then (
                  some (m_9.1 am fGuideBookModel_taped, m_9))
                else (
                  some ((-1 : Int32), m_9)))))))))) xfuel ((0 : Int32)) ((0 : Int32)) (xst m.1 am fGuideBookModel_thrown (0 : Int32), m.2)
set_option maxHeartbeats 4000000 in
set_option maxRecDepth 100000 in
theorem pJ_X10_count_32 {E : xE} {d : Nat} {Q : Option Value → xS → Prop} (hd : 1 ≤ d) (out : Int32 × xMem) (hR : Q (some (.int out.1)) (xf E out.2)) (rec : Int32 → Int32 → xMem → Option (Int32 × xMem)) (c40 : Int32 → xMem → Option (Int32 × xMem)) (x1 : Int32) (x3 : Int32) (s0 : Int32) (s1 : Int32) (hrec : ∀ (x2 : Int32) (x3 : Int32) (m : xMem), rec x2 x3 m = some out → xX E mX10_count d 0 0 0 0 Q 9 [(0, .ref (xB E + 87)), (1, .int (x1)), (2, .int (x2)), (3, .int (x3))] [] (xf E m)) (hc40 : ∀ (x2 : Int32) (m : xMem), c40 x2 m = some out → xX E mX10_count d 0 0 0 0 Q 40 [(0, .ref (xB E + 87)), (1, .int (x1)), (2, .int (x2))] [] (xf E m)) (m : xMem) (hf : J_X10_count_32 rec c40 x1 x3 s0 s1 m = some out) : xX E mX10_count d 0 0 0 0 Q 32 [(0, .ref (xB E + 87)), (1, .int (x1)), (3, .int (x3))] [.int (s1), .int (s0)] (xf E m) := by
  unfold J_X10_count_32 at hf
  refine x_iadd dX10_count_32 ?_
  refine x_istore_n (lv' := [(0, .ref (xB E + 87)), (1, .int (x1)), (2, .int (s0 + s1)), (3, .int (x3))]) dX10_count_33 [1, 2, 0, 3] (by decide) rfl ?_
  refine x_iinc (v := x3 + 1) (lv' := [(0, .ref (xB E + 87)), (1, .int (x1)), (2, .int (s0 + s1)), (3, .int (x3 + 1))]) dX10_count_34 3 [1, 2, 3, 0] rfl rfl (by decide) rfl ?_
  refine x_goto 9 dX10_count_37 (by decide) ?_
  exact hrec _ _ _ hf
set_option maxHeartbeats 4000000 in
set_option maxRecDepth 100000 in
theorem pL_X10_count_9 {E : xE} {d : Nat} {Q : Option Value → xS → Prop} (hd : 1 ≤ d) (out : Int32 × xMem) (hR : Q (some (.int out.1)) (xf E out.2)) (x1 : Int32) (c40 : Int32 → xMem → Option (Int32 × xMem)) (hc40 : ∀ (x2 : Int32) (m : xMem), c40 x2 m = some out → xX E mX10_count d 0 0 0 0 Q 40 [(0, .ref (xB E + 87)), (1, .int (x1)), (2, .int (x2))] [] (xf E m)) : ∀ (fk : Nat) (x2 : Int32) (x3 : Int32) (m : xMem), L_X10_count_9 x1 c40 fk x2 x3 m = some out → xX E mX10_count d 0 0 0 0 Q 9 [(0, .ref (xB E + 87)), (1, .int (x1)), (2, .int (x2)), (3, .int (x3))] [] (xf E m) := by
  intro fk
  induction fk with
  | zero => intro x2 x3 m hf; cases hf
  | succ fk ih =>
    intro x2 x3 m hf
    rw [L_X10_count_9] at hf
    refine x_iload_n dX10_count_9 rfl ?_
    refine x_aload_n dX10_count_10 rfl ?_
    refine f_getI dX10_count_11 xcl_10 (by decide) fl_RX10_264 (by decide) sh_87 rfl ?_
    refine x_icmp_ge 40 dX10_count_14 (by decide) (fun hc => ?_) (fun hc => ?_)
    · replace hf := x_ift hc hf
      refine x_lv (lv' := [(0, .ref (xB E + 87)), (1, .int (x1)), (2, .int (x2))]) [0, 1, 2] rfl ?_
      exact hc40 _ _ hf
    · replace hf := x_iff hc hf
      refine x_iload_n dX10_count_17 rfl ?_
      refine x_aload_n dX10_count_18 rfl ?_
      refine f_getR (b := 116) dX10_count_19 xcl_10 (by decide) fl_RX10_124 (by decide) sh_87 rfl ?_
      refine x_iload_n dX10_count_22 rfl ?_
      have hg_1 := x_gd hf
      replace hf := hg_1.2
      refine f_iald dX10_count_23 (by decide) sh_116 hg_1.1 ?_
      refine x_if_ne 31 dX10_count_24 (by decide) (fun hc => ?_) (fun hc => ?_)
      · replace hf := x_iff hc hf
        refine x_iconst (v := 0) dX10_count_31 (by decide) ?_
        refine x_lv (lv' := [(0, .ref (xB E + 87)), (1, .int (x1)), (3, .int (x3))]) [0, 1, 3] rfl ?_
        exact pJ_X10_count_32 hd out hR _ _ _ _ _ _ (fun y0 y1 m9 h9 => ih y0 y1 m9 h9) hc40 _ hf
      · replace hf := x_ift hc hf
        refine x_iconst (v := 1) dX10_count_27 (by decide) ?_
        refine x_goto 32 dX10_count_28 (by decide) ?_
        refine x_lv (lv' := [(0, .ref (xB E + 87)), (1, .int (x1)), (3, .int (x3))]) [0, 1, 3] rfl ?_
        exact pJ_X10_count_32 hd out hR _ _ _ _ _ _ (fun y0 y1 m9 h9 => ih y0 y1 m9 h9) hc40 _ hf
set_option maxHeartbeats 4000000 in
set_option maxRecDepth 100000 in
theorem pF_X10_count {E : xE} {d : Nat} {Q : Option Value → xS → Prop} (hd : 1 ≤ d) (out : Int32 × xMem) (hR : Q (some (.int out.1)) (xf E out.2)) (x1 : Int32) (m : xMem) (hf : F_X10_count x1 m = some out) : xX E mX10_count d 0 0 0 0 Q 0 [(0, .ref (xB E + 87)), (1, .int (x1))] [] (xf E m) := by
  unfold F_X10_count at hf
  refine x_aload_n dX10_count_0 rfl ?_
  refine x_iconst (v := 0) dX10_count_1 (by decide) ?_
  refine f_putI dX10_count_2 xcl_10 (by decide) fl_RX10_1 rfl rfl (by decide) sh_87 rfl ?_
  refine x_iconst (v := 0) dX10_count_5 (by decide) ?_
  refine x_istore_n (lv' := [(0, .ref (xB E + 87)), (1, .int (x1)), (2, .int ((0 : Int32)))]) dX10_count_6 [1, 2, 0] (by decide) rfl ?_
  refine x_iconst (v := 0) dX10_count_7 (by decide) ?_
  refine x_istore_n (lv' := [(0, .ref (xB E + 87)), (1, .int (x1)), (2, .int ((0 : Int32))), (3, .int ((0 : Int32)))]) dX10_count_8 [1, 2, 3, 0] (by decide) rfl ?_
  refine pL_X10_count_9 hd out hR _ _ (fun x2_8 m_9 hf => ?_) xfuel _ _ _ hf
  refine x_iload_n dX10_count_40 rfl ?_
  refine x_if_ne 51 dX10_count_41 (by decide) (fun hc => ?_) (fun hc => ?_)
  · replace hf := x_iff hc hf
    refine x_iload_n dX10_count_51 rfl ?_
    refine x_iconst (v := 1) dX10_count_52 (by decide) ?_
    refine x_icmp_ne 63 dX10_count_53 (by decide) (fun hc => ?_) (fun hc => ?_)
    · replace hf := x_iff hc hf
      refine x_iload_n dX10_count_63 rfl ?_
      refine x_iconst (v := 2) dX10_count_64 (by decide) ?_
      refine x_icmp_ne 75 dX10_count_65 (by decide) (fun hc => ?_) (fun hc => ?_)
      · replace hf := x_iff hc hf
        refine x_iload_n dX10_count_75 rfl ?_
        refine x_iconst (v := 3) dX10_count_76 (by decide) ?_
        refine x_icmp_ne 84 dX10_count_77 (by decide) (fun hc => ?_) (fun hc => ?_)
        · replace hf := x_iff hc hf
          refine x_iload_n dX10_count_84 rfl ?_
          refine x_iconst (v := 4) dX10_count_85 (by decide) ?_
          refine x_icmp_ne 96 dX10_count_86 (by decide) (fun hc => ?_) (fun hc => ?_)
          · replace hf := x_iff hc hf
            refine x_iload_n dX10_count_96 rfl ?_
            refine x_iconst (v := 5) dX10_count_97 (by decide) ?_
            refine x_icmp_ne 113 dX10_count_98 (by decide) (fun hc => ?_) (fun hc => ?_)
            · replace hf := x_iff hc hf
              refine x_iload_n dX10_count_113 rfl ?_
              refine x_bipush (v := 6) dX10_count_114 (by decide) ?_
              refine x_icmp_ne 126 dX10_count_116 (by decide) (fun hc => ?_) (fun hc => ?_)
              · replace hf := x_iff hc hf
                refine x_iconst (v := (-1)) dX10_count_126 (by decide) ?_
                exact x_iret dX10_count_127 rfl (by cases hf; exact hR)
              · replace hf := x_ift hc hf
                refine x_aload_n dX10_count_119 rfl ?_
                refine f_getI dX10_count_120 xcl_10 (by decide) fl_RX10_11 (by decide) sh_87 rfl ?_
                refine x_goto 127 dX10_count_123 (by decide) ?_
                exact x_iret dX10_count_127 rfl (by cases hf; exact hR)
            · replace hf := x_ift hc hf
              refine x_aload_n dX10_count_101 rfl ?_
              refine f_getR (b := 93) dX10_count_102 xcl_10 (by decide) fl_RX10_55 (by decide) sh_87 rfl ?_
              refine x_aload_n dX10_count_105 rfl ?_
              refine f_getI dX10_count_106 xcl_10 (by decide) fl_RX10_203 (by decide) sh_87 rfl ?_
              have hg_10 := x_gd hf
              replace hf := hg_10.2
              refine f_iald dX10_count_109 (by decide) sh_93 hg_10.1 ?_
              refine x_goto 127 dX10_count_110 (by decide) ?_
              exact x_iret dX10_count_127 rfl (by cases hf; exact hR)
          · replace hf := x_ift hc hf
            refine x_aload_n dX10_count_89 rfl ?_
            refine f_getI dX10_count_90 xcl_10 (by decide) fl_RX10_312 (by decide) sh_87 rfl ?_
            refine x_goto 127 dX10_count_93 (by decide) ?_
            exact x_iret dX10_count_127 rfl (by cases hf; exact hR)
        · replace hf := x_ift hc hf
          refine x_iload_n dX10_count_80 rfl ?_
          refine x_goto 127 dX10_count_81 (by decide) ?_
          exact x_iret dX10_count_127 rfl (by cases hf; exact hR)
      · replace hf := x_ift hc hf
        refine x_aload_n dX10_count_68 rfl ?_
        refine f_getI dX10_count_69 xcl_10 (by decide) fl_RX10_264 (by decide) sh_87 rfl ?_
        refine x_goto 127 dX10_count_72 (by decide) ?_
        exact x_iret dX10_count_127 rfl (by cases hf; exact hR)
    · replace hf := x_ift hc hf
      refine x_aload_n dX10_count_56 rfl ?_
      refine f_getI dX10_count_57 xcl_10 (by decide) fl_RX10_241 (by decide) sh_87 rfl ?_
      refine x_goto 127 dX10_count_60 (by decide) ?_
      exact x_iret dX10_count_127 rfl (by cases hf; exact hR)
  · replace hf := x_ift hc hf
    refine x_aload_n dX10_count_44 rfl ?_
    refine f_getI dX10_count_45 xcl_10 (by decide) fl_RX10_250 (by decide) sh_87 rfl ?_
    refine x_goto 127 dX10_count_48 (by decide) ?_
    exact x_iret dX10_count_127 rfl (by cases hf; exact hR)
theorem c_X10_count {E : xE} {d : Nat} (hd : 1 ≤ d) (x1 : Int32) (m : xMem) (out : Int32 × xMem) (h : F_X10_count x1 m = some out) : xCi E mX10_count d [.ref (xB E + 87), .int x1] m out.1 out.2 :=
  x_enter (by decide +kernel) (Nat.le_of_ble_eq_true rfl) (pF_X10_count hd (Q := _) out ⟨rfl, rfl⟩ x1 m h)
-- X10_look
def F_X10_look (x1 : Int32) (x2 : Int32) (m : xMem) : Option (Int32 × xMem) :=
  (F_X10_isFact (x1) m).bind fun q_1 => (
  if q_1.1 = 0 then (
    if ((xst q_1.2.1 am fGuideBookModel_thrown (1 : Int32)) am fGuideBookModel_thrown) ≤ 0 then (
      if x2 = 0 then (
        if xin x1 60 = true then (
        some ((xst q_1.2.1 am fGuideBookModel_thrown (1 : Int32)) am_kindOf x1.toNatClampNeg, (xst q_1.2.1 am fGuideBookModel_thrown (1 : Int32), q_1.2.2)))
        else none)
      else (
        if x2 = (1 : Int32) then (
          if xin x1 60 = true then (
          some ((xst q_1.2.1 am fGuideBookModel_thrown (1 : Int32)) am_placeOf x1.toNatClampNeg, (xst q_1.2.1 am fGuideBookModel_thrown (1 : Int32), q_1.2.2)))
          else none)
        else (
          if x2 = (2 : Int32) then (
            if xin x1 60 = true then (
            some ((xst q_1.2.1 am fGuideBookModel_thrown (1 : Int32)) am_worthNow x1.toNatClampNeg, (xst q_1.2.1 am fGuideBookModel_thrown (1 : Int32), q_1.2.2)))
            else none)
          else (
            if x2 = (3 : Int32) then (
              if xin x1 60 = true then (
              some ((xst q_1.2.1 am fGuideBookModel_thrown (1 : Int32)) am_checkedOn x1.toNatClampNeg, (xst q_1.2.1 am fGuideBookModel_thrown (1 : Int32), q_1.2.2)))
              else none)
            else (
              if x2 = (4 : Int32) then (
                if xin x1 60 = true then (
                some ((xst q_1.2.1 am fGuideBookModel_thrown (1 : Int32)) am_lengths x1.toNatClampNeg, (xst q_1.2.1 am fGuideBookModel_thrown (1 : Int32), q_1.2.2)))
                else none)
              else (
                if xin x1 60 = true then (
                some ((xst q_1.2.1 am fGuideBookModel_thrown (1 : Int32)) am_worths x1.toNatClampNeg, (xst q_1.2.1 am fGuideBookModel_thrown (1 : Int32), q_1.2.2)))
                else none))))))
    else (
      some ((0 : Int32), (xst q_1.2.1 am fGuideBookModel_thrown (1 : Int32), q_1.2.2))))
  else (
    if x2 < 0 then (
      if ((xst q_1.2.1 am fGuideBookModel_thrown (1 : Int32)) am fGuideBookModel_thrown) ≤ 0 then (
        if x2 = 0 then (
          if xin x1 60 = true then (
          some ((xst q_1.2.1 am fGuideBookModel_thrown (1 : Int32)) am_kindOf x1.toNatClampNeg, (xst q_1.2.1 am fGuideBookModel_thrown (1 : Int32), q_1.2.2)))
          else none)
        else (
          if x2 = (1 : Int32) then (
            if xin x1 60 = true then (
            some ((xst q_1.2.1 am fGuideBookModel_thrown (1 : Int32)) am_placeOf x1.toNatClampNeg, (xst q_1.2.1 am fGuideBookModel_thrown (1 : Int32), q_1.2.2)))
            else none)
          else (
            if x2 = (2 : Int32) then (
              if xin x1 60 = true then (
              some ((xst q_1.2.1 am fGuideBookModel_thrown (1 : Int32)) am_worthNow x1.toNatClampNeg, (xst q_1.2.1 am fGuideBookModel_thrown (1 : Int32), q_1.2.2)))
              else none)
            else (
              if x2 = (3 : Int32) then (
                if xin x1 60 = true then (
                some ((xst q_1.2.1 am fGuideBookModel_thrown (1 : Int32)) am_checkedOn x1.toNatClampNeg, (xst q_1.2.1 am fGuideBookModel_thrown (1 : Int32), q_1.2.2)))
                else none)
              else (
                if x2 = (4 : Int32) then (
                  if xin x1 60 = true then (
                  some ((xst q_1.2.1 am fGuideBookModel_thrown (1 : Int32)) am_lengths x1.toNatClampNeg, (xst q_1.2.1 am fGuideBookModel_thrown (1 : Int32), q_1.2.2)))
                  else none)
                else (
                  if xin x1 60 = true then (
                  some ((xst q_1.2.1 am fGuideBookModel_thrown (1 : Int32)) am_worths x1.toNatClampNeg, (xst q_1.2.1 am fGuideBookModel_thrown (1 : Int32), q_1.2.2)))
                  else none))))))
      else (
        some ((0 : Int32), (xst q_1.2.1 am fGuideBookModel_thrown (1 : Int32), q_1.2.2))))
    else (
      if (5 : Int32) < x2 then (
        if ((xst q_1.2.1 am fGuideBookModel_thrown (1 : Int32)) am fGuideBookModel_thrown) ≤ 0 then (
          if x2 = 0 then (
            if xin x1 60 = true then (
            some ((xst q_1.2.1 am fGuideBookModel_thrown (1 : Int32)) am_kindOf x1.toNatClampNeg, (xst q_1.2.1 am fGuideBookModel_thrown (1 : Int32), q_1.2.2)))
            else none)
          else (
            if x2 = (1 : Int32) then (
              if xin x1 60 = true then (
              some ((xst q_1.2.1 am fGuideBookModel_thrown (1 : Int32)) am_placeOf x1.toNatClampNeg, (xst q_1.2.1 am fGuideBookModel_thrown (1 : Int32), q_1.2.2)))
              else none)
            else (
              if x2 = (2 : Int32) then (
                if xin x1 60 = true then (
                some ((xst q_1.2.1 am fGuideBookModel_thrown (1 : Int32)) am_worthNow x1.toNatClampNeg, (xst q_1.2.1 am fGuideBookModel_thrown (1 : Int32), q_1.2.2)))
                else none)
              else (
                if x2 = (3 : Int32) then (
                  if xin x1 60 = true then (
                  some ((xst q_1.2.1 am fGuideBookModel_thrown (1 : Int32)) am_checkedOn x1.toNatClampNeg, (xst q_1.2.1 am fGuideBookModel_thrown (1 : Int32), q_1.2.2)))
                  else none)
                else (
                  if x2 = (4 : Int32) then (
                    if xin x1 60 = true then (
                    some ((xst q_1.2.1 am fGuideBookModel_thrown (1 : Int32)) am_lengths x1.toNatClampNeg, (xst q_1.2.1 am fGuideBookModel_thrown (1 : Int32), q_1.2.2)))
                    else none)
                  else (
                    if xin x1 60 = true then (
                    some ((xst q_1.2.1 am fGuideBookModel_thrown (1 : Int32)) am_worths x1.toNatClampNeg, (xst q_1.2.1 am fGuideBookModel_thrown (1 : Int32), q_1.2.2)))
                    else none))))))
        else (
          some ((0 : Int32), (xst q_1.2.1 am fGuideBookModel_thrown (1 : Int32), q_1.2.2))))
      else (
        if ((xst q_1.2.1 am fGuideBookModel_thrown (0 : Int32)) am fGuideBookModel_thrown) ≤ 0 then (
          if x2 = 0 then (
            if xin x1 60 = true then (
            some ((xst q_1.2.1 am fGuideBookModel_thrown (0 : Int32)) am_kindOf x1.toNatClampNeg, (xst q_1.2.1 am fGuideBookModel_thrown (0 : Int32), q_1.2.2)))
            else none)
          else (
            if x2 = (1 : Int32) then (
              if xin x1 60 = true then (
              some ((xst q_1.2.1 am fGuideBookModel_thrown (0 : Int32)) am_placeOf x1.toNatClampNeg, (xst q_1.2.1 am fGuideBookModel_thrown (0 : Int32), q_1.2.2)))
              else none)
            else (
              if x2 = (2 : Int32) then (
                if xin x1 60 = true then (
                some ((xst q_1.2.1 am fGuideBookModel_thrown (0 : Int32)) am_worthNow x1.toNatClampNeg, (xst q_1.2.1 am fGuideBookModel_thrown (0 : Int32), q_1.2.2)))
                else none)
              else (
                if x2 = (3 : Int32) then (
                  if xin x1 60 = true then (
                  some ((xst q_1.2.1 am fGuideBookModel_thrown (0 : Int32)) am_checkedOn x1.toNatClampNeg, (xst q_1.2.1 am fGuideBookModel_thrown (0 : Int32), q_1.2.2)))
                  else none)
                else (
                  if x2 = (4 : Int32) then (
                    if xin x1 60 = true then (
                    some ((xst q_1.2.1 am fGuideBookModel_thrown (0 : Int32)) am_lengths x1.toNatClampNeg, (xst q_1.2.1 am fGuideBookModel_thrown (0 : Int32), q_1.2.2)))
                    else none)
                  else (
                    if xin x1 60 = true then (
                    some ((xst q_1.2.1 am fGuideBookModel_thrown (0 : Int32)) am_worths x1.toNatClampNeg, (xst q_1.2.1 am fGuideBookModel_thrown (0 : Int32), q_1.2.2)))
                    else none))))))
        else (
          some ((0 : Int32), (xst q_1.2.1 am fGuideBookModel_thrown (0 : Int32), q_1.2.2)))))))
set_option maxHeartbeats 4000000 in
set_option maxRecDepth 100000 in
theorem pF_X10_look {E : xE} {d : Nat} {Q : Option Value → xS → Prop} (hd : 2 ≤ d) (out : Int32 × xMem) (hR : Q (some (.int out.1)) (xf E out.2)) (x1 : Int32) (x2 : Int32) (m : xMem) (hf : F_X10_look x1 x2 m = some out) : xX E mX10_look d 0 0 0 0 Q 0 [(0, .ref (xB E + 87)), (1, .int (x1)), (2, .int (x2))] [] (xf E m) := by
  unfold F_X10_look at hf
  refine x_aload_n dX10_look_0 rfl ?_
  refine x_aload_n dX10_look_1 rfl ?_
  refine x_iload_n dX10_look_2 rfl ?_
  obtain ⟨q_1, hq_1, hf⟩ := Option.bind_eq_some_iff.mp hf
  refine f_cVi mX10_isFact [.int (x1)] [.ref (xB E + 87)] dX10_look_3 cs_RX10_253 ⟨w_1187, w_71⟩ (ci := 10) rfl (by decide) sh_87 rfl rfl (Nat.le_of_ble_eq_true rfl) (by omega) (c_X10_isFact (d := d - 1) (by omega) (x1) m q_1 hq_1) ?_
  refine x_if_eq 22 dX10_look_6 (by decide) (fun hc => ?_) (fun hc => ?_)
  · replace hf := x_ift hc hf
    refine x_iconst (v := 1) dX10_look_22 (by decide) ?_
    refine f_putI dX10_look_23 xcl_10 (by decide) fl_RX10_1 rfl rfl (by decide) sh_87 rfl ?_
    refine x_aload_n dX10_look_26 rfl ?_
    refine f_getI dX10_look_27 xcl_10 (by decide) fl_RX10_1 (by decide) sh_87 rfl ?_
    refine x_if_le 35 dX10_look_30 (by decide) (fun hc => ?_) (fun hc => ?_)
    · replace hf := x_ift hc hf
      refine x_iload_n dX10_look_35 rfl ?_
      refine x_if_ne 48 dX10_look_36 (by decide) (fun hc => ?_) (fun hc => ?_)
      · replace hf := x_iff hc hf
        refine x_iload_n dX10_look_48 rfl ?_
        refine x_iconst (v := 1) dX10_look_49 (by decide) ?_
        refine x_icmp_ne 62 dX10_look_50 (by decide) (fun hc => ?_) (fun hc => ?_)
        · replace hf := x_iff hc hf
          refine x_iload_n dX10_look_62 rfl ?_
          refine x_iconst (v := 2) dX10_look_63 (by decide) ?_
          refine x_icmp_ne 76 dX10_look_64 (by decide) (fun hc => ?_) (fun hc => ?_)
          · replace hf := x_iff hc hf
            refine x_iload_n dX10_look_76 rfl ?_
            refine x_iconst (v := 3) dX10_look_77 (by decide) ?_
            refine x_icmp_ne 90 dX10_look_78 (by decide) (fun hc => ?_) (fun hc => ?_)
            · replace hf := x_iff hc hf
              refine x_iload_n dX10_look_90 rfl ?_
              refine x_iconst (v := 4) dX10_look_91 (by decide) ?_
              refine x_icmp_ne 104 dX10_look_92 (by decide) (fun hc => ?_) (fun hc => ?_)
              · replace hf := x_iff hc hf
                refine x_aload_n dX10_look_104 rfl ?_
                refine f_getR (b := 108) dX10_look_105 xcl_10 (by decide) fl_RX10_100 (by decide) sh_87 rfl ?_
                refine x_iload_n dX10_look_108 rfl ?_
                have hg_2 := x_gd hf
                replace hf := hg_2.2
                refine f_iald dX10_look_109 (by decide) sh_108 hg_2.1 ?_
                exact x_iret dX10_look_110 rfl (by cases hf; exact hR)
              · replace hf := x_ift hc hf
                refine x_aload_n dX10_look_95 rfl ?_
                refine f_getR (b := 107) dX10_look_96 xcl_10 (by decide) fl_RX10_97 (by decide) sh_87 rfl ?_
                refine x_iload_n dX10_look_99 rfl ?_
                have hg_3 := x_gd hf
                replace hf := hg_3.2
                refine f_iald dX10_look_100 (by decide) sh_107 hg_3.1 ?_
                refine x_goto 110 dX10_look_101 (by decide) ?_
                exact x_iret dX10_look_110 rfl (by cases hf; exact hR)
            · replace hf := x_ift hc hf
              refine x_aload_n dX10_look_81 rfl ?_
              refine f_getR (b := 106) dX10_look_82 xcl_10 (by decide) fl_RX10_94 (by decide) sh_87 rfl ?_
              refine x_iload_n dX10_look_85 rfl ?_
              have hg_4 := x_gd hf
              replace hf := hg_4.2
              refine f_iald dX10_look_86 (by decide) sh_106 hg_4.1 ?_
              refine x_goto 110 dX10_look_87 (by decide) ?_
              exact x_iret dX10_look_110 rfl (by cases hf; exact hR)
          · replace hf := x_ift hc hf
            refine x_aload_n dX10_look_67 rfl ?_
            refine f_getR (b := 105) dX10_look_68 xcl_10 (by decide) fl_RX10_91 (by decide) sh_87 rfl ?_
            refine x_iload_n dX10_look_71 rfl ?_
            have hg_5 := x_gd hf
            replace hf := hg_5.2
            refine f_iald dX10_look_72 (by decide) sh_105 hg_5.1 ?_
            refine x_goto 110 dX10_look_73 (by decide) ?_
            exact x_iret dX10_look_110 rfl (by cases hf; exact hR)
        · replace hf := x_ift hc hf
          refine x_aload_n dX10_look_53 rfl ?_
          refine f_getR (b := 104) dX10_look_54 xcl_10 (by decide) fl_RX10_88 (by decide) sh_87 rfl ?_
          refine x_iload_n dX10_look_57 rfl ?_
          have hg_6 := x_gd hf
          replace hf := hg_6.2
          refine f_iald dX10_look_58 (by decide) sh_104 hg_6.1 ?_
          refine x_goto 110 dX10_look_59 (by decide) ?_
          exact x_iret dX10_look_110 rfl (by cases hf; exact hR)
      · replace hf := x_ift hc hf
        refine x_aload_n dX10_look_39 rfl ?_
        refine f_getR (b := 103) dX10_look_40 xcl_10 (by decide) fl_RX10_85 (by decide) sh_87 rfl ?_
        refine x_iload_n dX10_look_43 rfl ?_
        have hg_7 := x_gd hf
        replace hf := hg_7.2
        refine f_iald dX10_look_44 (by decide) sh_103 hg_7.1 ?_
        refine x_goto 110 dX10_look_45 (by decide) ?_
        exact x_iret dX10_look_110 rfl (by cases hf; exact hR)
    · replace hf := x_iff hc hf
      refine x_iconst (v := 0) dX10_look_33 (by decide) ?_
      exact x_iret dX10_look_34 rfl (by cases hf; exact hR)
  · replace hf := x_iff hc hf
    refine x_iload_n dX10_look_9 rfl ?_
    refine x_if_lt 22 dX10_look_10 (by decide) (fun hc => ?_) (fun hc => ?_)
    · replace hf := x_ift hc hf
      refine x_iconst (v := 1) dX10_look_22 (by decide) ?_
      refine f_putI dX10_look_23 xcl_10 (by decide) fl_RX10_1 rfl rfl (by decide) sh_87 rfl ?_
      refine x_aload_n dX10_look_26 rfl ?_
      refine f_getI dX10_look_27 xcl_10 (by decide) fl_RX10_1 (by decide) sh_87 rfl ?_
      refine x_if_le 35 dX10_look_30 (by decide) (fun hc => ?_) (fun hc => ?_)
      · replace hf := x_ift hc hf
        refine x_iload_n dX10_look_35 rfl ?_
        refine x_if_ne 48 dX10_look_36 (by decide) (fun hc => ?_) (fun hc => ?_)
        · replace hf := x_iff hc hf
          refine x_iload_n dX10_look_48 rfl ?_
          refine x_iconst (v := 1) dX10_look_49 (by decide) ?_
          refine x_icmp_ne 62 dX10_look_50 (by decide) (fun hc => ?_) (fun hc => ?_)
          · replace hf := x_iff hc hf
            refine x_iload_n dX10_look_62 rfl ?_
            refine x_iconst (v := 2) dX10_look_63 (by decide) ?_
            refine x_icmp_ne 76 dX10_look_64 (by decide) (fun hc => ?_) (fun hc => ?_)
            · replace hf := x_iff hc hf
              refine x_iload_n dX10_look_76 rfl ?_
              refine x_iconst (v := 3) dX10_look_77 (by decide) ?_
              refine x_icmp_ne 90 dX10_look_78 (by decide) (fun hc => ?_) (fun hc => ?_)
              · replace hf := x_iff hc hf
                refine x_iload_n dX10_look_90 rfl ?_
                refine x_iconst (v := 4) dX10_look_91 (by decide) ?_
                refine x_icmp_ne 104 dX10_look_92 (by decide) (fun hc => ?_) (fun hc => ?_)
                · replace hf := x_iff hc hf
                  refine x_aload_n dX10_look_104 rfl ?_
                  refine f_getR (b := 108) dX10_look_105 xcl_10 (by decide) fl_RX10_100 (by decide) sh_87 rfl ?_
                  refine x_iload_n dX10_look_108 rfl ?_
                  have hg_8 := x_gd hf
                  replace hf := hg_8.2
                  refine f_iald dX10_look_109 (by decide) sh_108 hg_8.1 ?_
                  exact x_iret dX10_look_110 rfl (by cases hf; exact hR)
                · replace hf := x_ift hc hf
                  refine x_aload_n dX10_look_95 rfl ?_
                  refine f_getR (b := 107) dX10_look_96 xcl_10 (by decide) fl_RX10_97 (by decide) sh_87 rfl ?_
                  refine x_iload_n dX10_look_99 rfl ?_
                  have hg_9 := x_gd hf
                  replace hf := hg_9.2
                  refine f_iald dX10_look_100 (by decide) sh_107 hg_9.1 ?_
                  refine x_goto 110 dX10_look_101 (by decide) ?_
                  exact x_iret dX10_look_110 rfl (by cases hf; exact hR)
              · replace hf := x_ift hc hf
                refine x_aload_n dX10_look_81 rfl ?_
                refine f_getR (b := 106) dX10_look_82 xcl_10 (by decide) fl_RX10_94 (by decide) sh_87 rfl ?_
                refine x_iload_n dX10_look_85 rfl ?_
                have hg_10 := x_gd hf
                replace hf := hg_10.2
                refine f_iald dX10_look_86 (by decide) sh_106 hg_10.1 ?_
                refine x_goto 110 dX10_look_87 (by decide) ?_
                exact x_iret dX10_look_110 rfl (by cases hf; exact hR)
            · replace hf := x_ift hc hf
              refine x_aload_n dX10_look_67 rfl ?_
              refine f_getR (b := 105) dX10_look_68 xcl_10 (by decide) fl_RX10_91 (by decide) sh_87 rfl ?_
              refine x_iload_n dX10_look_71 rfl ?_
              have hg_11 := x_gd hf
              replace hf := hg_11.2
              refine f_iald dX10_look_72 (by decide) sh_105 hg_11.1 ?_
              refine x_goto 110 dX10_look_73 (by decide) ?_
              exact x_iret dX10_look_110 rfl (by cases hf; exact hR)
          · replace hf := x_ift hc hf
            refine x_aload_n dX10_look_53 rfl ?_
            refine f_getR (b := 104) dX10_look_54 xcl_10 (by decide) fl_RX10_88 (by decide) sh_87 rfl ?_
            refine x_iload_n dX10_look_57 rfl ?_
            have hg_12 := x_gd hf
            replace hf := hg_12.2
            refine f_iald dX10_look_58 (by decide) sh_104 hg_12.1 ?_
            refine x_goto 110 dX10_look_59 (by decide) ?_
            exact x_iret dX10_look_110 rfl (by cases hf; exact hR)
        · replace hf := x_ift hc hf
          refine x_aload_n dX10_look_39 rfl ?_
          refine f_getR (b := 103) dX10_look_40 xcl_10 (by decide) fl_RX10_85 (by decide) sh_87 rfl ?_
          refine x_iload_n dX10_look_43 rfl ?_
          have hg_13 := x_gd hf
          replace hf := hg_13.2
          refine f_iald dX10_look_44 (by decide) sh_103 hg_13.1 ?_
          refine x_goto 110 dX10_look_45 (by decide) ?_
          exact x_iret dX10_look_110 rfl (by cases hf; exact hR)
      · replace hf := x_iff hc hf
        refine x_iconst (v := 0) dX10_look_33 (by decide) ?_
        exact x_iret dX10_look_34 rfl (by cases hf; exact hR)
    · replace hf := x_iff hc hf
      refine x_iload_n dX10_look_13 rfl ?_
      refine x_iconst (v := 5) dX10_look_14 (by decide) ?_
      refine x_icmp_gt 22 dX10_look_15 (by decide) (fun hc => ?_) (fun hc => ?_)
      · replace hf := x_ift hc hf
        refine x_iconst (v := 1) dX10_look_22 (by decide) ?_
        refine f_putI dX10_look_23 xcl_10 (by decide) fl_RX10_1 rfl rfl (by decide) sh_87 rfl ?_
        refine x_aload_n dX10_look_26 rfl ?_
        refine f_getI dX10_look_27 xcl_10 (by decide) fl_RX10_1 (by decide) sh_87 rfl ?_
        refine x_if_le 35 dX10_look_30 (by decide) (fun hc => ?_) (fun hc => ?_)
        · replace hf := x_ift hc hf
          refine x_iload_n dX10_look_35 rfl ?_
          refine x_if_ne 48 dX10_look_36 (by decide) (fun hc => ?_) (fun hc => ?_)
          · replace hf := x_iff hc hf
            refine x_iload_n dX10_look_48 rfl ?_
            refine x_iconst (v := 1) dX10_look_49 (by decide) ?_
            refine x_icmp_ne 62 dX10_look_50 (by decide) (fun hc => ?_) (fun hc => ?_)
            · replace hf := x_iff hc hf
              refine x_iload_n dX10_look_62 rfl ?_
              refine x_iconst (v := 2) dX10_look_63 (by decide) ?_
              refine x_icmp_ne 76 dX10_look_64 (by decide) (fun hc => ?_) (fun hc => ?_)
              · replace hf := x_iff hc hf
                refine x_iload_n dX10_look_76 rfl ?_
                refine x_iconst (v := 3) dX10_look_77 (by decide) ?_
                refine x_icmp_ne 90 dX10_look_78 (by decide) (fun hc => ?_) (fun hc => ?_)
                · replace hf := x_iff hc hf
                  refine x_iload_n dX10_look_90 rfl ?_
                  refine x_iconst (v := 4) dX10_look_91 (by decide) ?_
                  refine x_icmp_ne 104 dX10_look_92 (by decide) (fun hc => ?_) (fun hc => ?_)
                  · replace hf := x_iff hc hf
                    refine x_aload_n dX10_look_104 rfl ?_
                    refine f_getR (b := 108) dX10_look_105 xcl_10 (by decide) fl_RX10_100 (by decide) sh_87 rfl ?_
                    refine x_iload_n dX10_look_108 rfl ?_
                    have hg_14 := x_gd hf
                    replace hf := hg_14.2
                    refine f_iald dX10_look_109 (by decide) sh_108 hg_14.1 ?_
                    exact x_iret dX10_look_110 rfl (by cases hf; exact hR)
                  · replace hf := x_ift hc hf
                    refine x_aload_n dX10_look_95 rfl ?_
                    refine f_getR (b := 107) dX10_look_96 xcl_10 (by decide) fl_RX10_97 (by decide) sh_87 rfl ?_
                    refine x_iload_n dX10_look_99 rfl ?_
                    have hg_15 := x_gd hf
                    replace hf := hg_15.2
                    refine f_iald dX10_look_100 (by decide) sh_107 hg_15.1 ?_
                    refine x_goto 110 dX10_look_101 (by decide) ?_
                    exact x_iret dX10_look_110 rfl (by cases hf; exact hR)
                · replace hf := x_ift hc hf
                  refine x_aload_n dX10_look_81 rfl ?_
                  refine f_getR (b := 106) dX10_look_82 xcl_10 (by decide) fl_RX10_94 (by decide) sh_87 rfl ?_
                  refine x_iload_n dX10_look_85 rfl ?_
                  have hg_16 := x_gd hf
                  replace hf := hg_16.2
                  refine f_iald dX10_look_86 (by decide) sh_106 hg_16.1 ?_
                  refine x_goto 110 dX10_look_87 (by decide) ?_
                  exact x_iret dX10_look_110 rfl (by cases hf; exact hR)
              · replace hf := x_ift hc hf
                refine x_aload_n dX10_look_67 rfl ?_
                refine f_getR (b := 105) dX10_look_68 xcl_10 (by decide) fl_RX10_91 (by decide) sh_87 rfl ?_
                refine x_iload_n dX10_look_71 rfl ?_
                have hg_17 := x_gd hf
                replace hf := hg_17.2
                refine f_iald dX10_look_72 (by decide) sh_105 hg_17.1 ?_
                refine x_goto 110 dX10_look_73 (by decide) ?_
                exact x_iret dX10_look_110 rfl (by cases hf; exact hR)
            · replace hf := x_ift hc hf
              refine x_aload_n dX10_look_53 rfl ?_
              refine f_getR (b := 104) dX10_look_54 xcl_10 (by decide) fl_RX10_88 (by decide) sh_87 rfl ?_
              refine x_iload_n dX10_look_57 rfl ?_
              have hg_18 := x_gd hf
              replace hf := hg_18.2
              refine f_iald dX10_look_58 (by decide) sh_104 hg_18.1 ?_
              refine x_goto 110 dX10_look_59 (by decide) ?_
              exact x_iret dX10_look_110 rfl (by cases hf; exact hR)
          · replace hf := x_ift hc hf
            refine x_aload_n dX10_look_39 rfl ?_
            refine f_getR (b := 103) dX10_look_40 xcl_10 (by decide) fl_RX10_85 (by decide) sh_87 rfl ?_
            refine x_iload_n dX10_look_43 rfl ?_
            have hg_19 := x_gd hf
            replace hf := hg_19.2
            refine f_iald dX10_look_44 (by decide) sh_103 hg_19.1 ?_
            refine x_goto 110 dX10_look_45 (by decide) ?_
            exact x_iret dX10_look_110 rfl (by cases hf; exact hR)
        · replace hf := x_iff hc hf
          refine x_iconst (v := 0) dX10_look_33 (by decide) ?_
          exact x_iret dX10_look_34 rfl (by cases hf; exact hR)
      · replace hf := x_iff hc hf
        refine x_iconst (v := 0) dX10_look_18 (by decide) ?_
        refine x_goto 23 dX10_look_19 (by decide) ?_
        refine f_putI dX10_look_23 xcl_10 (by decide) fl_RX10_1 rfl rfl (by decide) sh_87 rfl ?_
        refine x_aload_n dX10_look_26 rfl ?_
        refine f_getI dX10_look_27 xcl_10 (by decide) fl_RX10_1 (by decide) sh_87 rfl ?_
        refine x_if_le 35 dX10_look_30 (by decide) (fun hc => ?_) (fun hc => ?_)
        · replace hf := x_ift hc hf
          refine x_iload_n dX10_look_35 rfl ?_
          refine x_if_ne 48 dX10_look_36 (by decide) (fun hc => ?_) (fun hc => ?_)
          · replace hf := x_iff hc hf
            refine x_iload_n dX10_look_48 rfl ?_
            refine x_iconst (v := 1) dX10_look_49 (by decide) ?_
            refine x_icmp_ne 62 dX10_look_50 (by decide) (fun hc => ?_) (fun hc => ?_)
            · replace hf := x_iff hc hf
              refine x_iload_n dX10_look_62 rfl ?_
              refine x_iconst (v := 2) dX10_look_63 (by decide) ?_
              refine x_icmp_ne 76 dX10_look_64 (by decide) (fun hc => ?_) (fun hc => ?_)
              · replace hf := x_iff hc hf
                refine x_iload_n dX10_look_76 rfl ?_
                refine x_iconst (v := 3) dX10_look_77 (by decide) ?_
                refine x_icmp_ne 90 dX10_look_78 (by decide) (fun hc => ?_) (fun hc => ?_)
                · replace hf := x_iff hc hf
                  refine x_iload_n dX10_look_90 rfl ?_
                  refine x_iconst (v := 4) dX10_look_91 (by decide) ?_
                  refine x_icmp_ne 104 dX10_look_92 (by decide) (fun hc => ?_) (fun hc => ?_)
                  · replace hf := x_iff hc hf
                    refine x_aload_n dX10_look_104 rfl ?_
                    refine f_getR (b := 108) dX10_look_105 xcl_10 (by decide) fl_RX10_100 (by decide) sh_87 rfl ?_
                    refine x_iload_n dX10_look_108 rfl ?_
                    have hg_20 := x_gd hf
                    replace hf := hg_20.2
                    refine f_iald dX10_look_109 (by decide) sh_108 hg_20.1 ?_
                    exact x_iret dX10_look_110 rfl (by cases hf; exact hR)
                  · replace hf := x_ift hc hf
                    refine x_aload_n dX10_look_95 rfl ?_
                    refine f_getR (b := 107) dX10_look_96 xcl_10 (by decide) fl_RX10_97 (by decide) sh_87 rfl ?_
                    refine x_iload_n dX10_look_99 rfl ?_
                    have hg_21 := x_gd hf
                    replace hf := hg_21.2
                    refine f_iald dX10_look_100 (by decide) sh_107 hg_21.1 ?_
                    refine x_goto 110 dX10_look_101 (by decide) ?_
                    exact x_iret dX10_look_110 rfl (by cases hf; exact hR)
                · replace hf := x_ift hc hf
                  refine x_aload_n dX10_look_81 rfl ?_
                  refine f_getR (b := 106) dX10_look_82 xcl_10 (by decide) fl_RX10_94 (by decide) sh_87 rfl ?_
                  refine x_iload_n dX10_look_85 rfl ?_
                  have hg_22 := x_gd hf
                  replace hf := hg_22.2
                  refine f_iald dX10_look_86 (by decide) sh_106 hg_22.1 ?_
                  refine x_goto 110 dX10_look_87 (by decide) ?_
                  exact x_iret dX10_look_110 rfl (by cases hf; exact hR)
              · replace hf := x_ift hc hf
                refine x_aload_n dX10_look_67 rfl ?_
                refine f_getR (b := 105) dX10_look_68 xcl_10 (by decide) fl_RX10_91 (by decide) sh_87 rfl ?_
                refine x_iload_n dX10_look_71 rfl ?_
                have hg_23 := x_gd hf
                replace hf := hg_23.2
                refine f_iald dX10_look_72 (by decide) sh_105 hg_23.1 ?_
                refine x_goto 110 dX10_look_73 (by decide) ?_
                exact x_iret dX10_look_110 rfl (by cases hf; exact hR)
            · replace hf := x_ift hc hf
              refine x_aload_n dX10_look_53 rfl ?_
              refine f_getR (b := 104) dX10_look_54 xcl_10 (by decide) fl_RX10_88 (by decide) sh_87 rfl ?_
              refine x_iload_n dX10_look_57 rfl ?_
              have hg_24 := x_gd hf
              replace hf := hg_24.2
              refine f_iald dX10_look_58 (by decide) sh_104 hg_24.1 ?_
              refine x_goto 110 dX10_look_59 (by decide) ?_
              exact x_iret dX10_look_110 rfl (by cases hf; exact hR)
          · replace hf := x_ift hc hf
            refine x_aload_n dX10_look_39 rfl ?_
            refine f_getR (b := 103) dX10_look_40 xcl_10 (by decide) fl_RX10_85 (by decide) sh_87 rfl ?_
            refine x_iload_n dX10_look_43 rfl ?_
            have hg_25 := x_gd hf
            replace hf := hg_25.2
            refine f_iald dX10_look_44 (by decide) sh_103 hg_25.1 ?_
            refine x_goto 110 dX10_look_45 (by decide) ?_
            exact x_iret dX10_look_110 rfl (by cases hf; exact hR)
        · replace hf := x_iff hc hf
          refine x_iconst (v := 0) dX10_look_33 (by decide) ?_
          exact x_iret dX10_look_34 rfl (by cases hf; exact hR)
theorem c_X10_look {E : xE} {d : Nat} (hd : 2 ≤ d) (x1 : Int32) (x2 : Int32) (m : xMem) (out : Int32 × xMem) (h : F_X10_look x1 x2 m = some out) : xCi E mX10_look d [.ref (xB E + 87), .int x1, .int x2] m out.1 out.2 :=
  x_enter (by decide +kernel) (Nat.le_of_ble_eq_true rfl) (pF_X10_look hd (Q := _) out ⟨rfl, rfl⟩ x1 x2 m h)
-- X9_shift
def F_X9_shift (x1 : Int32) (m : xMem) : Option (Int32 × xMem) :=
  (F_X9_isWalker (x1) m).bind fun q_1 => (
  if q_1.1 = 0 then (
    none)
  else (
    (F_X4_shiftOf (x1) q_1.2).bind fun q_2 => (
    some (q_2.1, q_2.2))))
set_option maxHeartbeats 4000000 in
set_option maxRecDepth 100000 in
theorem pF_X9_shift {E : xE} {d : Nat} {Q : Option Value → xS → Prop} (hd : 3 ≤ d) (out : Int32 × xMem) (hR : Q (some (.int out.1)) (xf E out.2)) (x1 : Int32) (m : xMem) (hf : F_X9_shift x1 m = some out) : xX E mX9_shift d 0 0 0 0 Q 0 [(0, .ref (xB E + 0)), (1, .int (x1))] [] (xf E m) := by
  unfold F_X9_shift at hf
  refine x_iload_n dX9_shift_0 rfl ?_
  obtain ⟨q_1, hq_1, hf⟩ := Option.bind_eq_some_iff.mp hf
  refine f_cSi mX9_isWalker [.int (x1)] [] dX9_shift_1 cs_RX9_157 w_561 rfl rfl (Nat.le_of_ble_eq_true rfl) (by omega) (c_X9_isWalker (d := d - 1) (by omega) (x1) m q_1 hq_1) ?_
  refine x_if_ne 17 dX9_shift_4 (by decide) (fun hc => ?_) (fun hc => ?_)
  · replace hf := x_iff hc hf
    refine x_aload_n dX9_shift_17 rfl ?_
    refine f_getR (b := 17) dX9_shift_18 xcl_9 (by decide) fl_RX9_26 (by decide) sh_0 rfl ?_
    refine x_iload_n dX9_shift_21 rfl ?_
    obtain ⟨q_2, hq_2, hf⟩ := Option.bind_eq_some_iff.mp hf
    refine f_cVi mX4_shiftOf [.int (x1)] [] dX9_shift_22 cs_RX9_171 ⟨w_764, w_48⟩ (ci := 4) rfl (by decide) sh_17 rfl rfl (Nat.le_of_ble_eq_true rfl) (by omega) (c_X4_shiftOf (d := d - 1) (by omega) (x1) q_1.2 q_2 hq_2) ?_
    exact x_iret dX9_shift_25 rfl (by cases hf; exact hR)
  · replace hf := x_ift hc hf
    cases hf
theorem c_X9_shift {E : xE} {d : Nat} (hd : 3 ≤ d) (x1 : Int32) (m : xMem) (out : Int32 × xMem) (h : F_X9_shift x1 m = some out) : xCi E mX9_shift d [.ref (xB E + 0), .int x1] m out.1 out.2 :=
  x_enter (by decide +kernel) (Nat.le_of_ble_eq_true rfl) (pF_X9_shift hd (Q := _) out ⟨rfl, rfl⟩ x1 m h)
-- X9_look
def F_X9_look (x1 : Int32) (x2 : Int32) (m : xMem) : Option (Int32 × xMem) :=
  (F_X2_has (x1) m).bind fun q_1 => (
  if q_1.1 = 0 then (
    none)
  else (
    if x2 = 0 then (
      if xin x1 60 = true then (
      some (q_1.2.1 ag_facts_kind x1.toNatClampNeg, q_1.2))
      else none)
    else (
    if x2 = 1 then (
      if xin x1 60 = true then (
      some (q_1.2.1 ag_facts_place x1.toNatClampNeg, q_1.2))
      else none)
    else (
    if x2 = 2 then (
      if xin x1 60 = true then (
      some (q_1.2.1 ag_facts_value x1.toNatClampNeg, q_1.2))
      else none)
    else (
    if x2 = 3 then (
      if xin x1 60 = true then (
      some (q_1.2.1 ag_facts_year x1.toNatClampNeg, q_1.2))
      else none)
    else (
    if x2 = 4 then (
      if xin x1 60 = true then (
      some (q_1.2.1 ag_facts_length x1.toNatClampNeg, q_1.2))
      else none)
    else (
    if x2 = 5 then (
      if xin x1 60 = true then (
      some (q_1.2.1 ag_facts_worth x1.toNatClampNeg, q_1.2))
      else none)
    else (
      none))))))))
set_option maxHeartbeats 4000000 in
set_option maxRecDepth 100000 in
theorem pF_X9_look {E : xE} {d : Nat} {Q : Option Value → xS → Prop} (hd : 2 ≤ d) (out : Int32 × xMem) (hR : Q (some (.int out.1)) (xf E out.2)) (x1 : Int32) (x2 : Int32) (m : xMem) (hf : F_X9_look x1 x2 m = some out) : xX E mX9_look d 0 0 0 0 Q 0 [(0, .ref (xB E + 0)), (1, .int (x1)), (2, .int (x2))] [] (xf E m) := by
  unfold F_X9_look at hf
  refine x_aload_n dX9_look_0 rfl ?_
  refine f_getR (b := 1) dX9_look_1 xcl_9 (by decide) fl_RX9_12 (by decide) sh_0 rfl ?_
  refine x_iload_n dX9_look_4 rfl ?_
  obtain ⟨q_1, hq_1, hf⟩ := Option.bind_eq_some_iff.mp hf
  refine f_cVi mX2_has [.int (x1)] [] dX9_look_5 cs_RX9_107 ⟨w_414, w_1⟩ (ci := 2) rfl (by decide) sh_1 rfl rfl (Nat.le_of_ble_eq_true rfl) (by omega) (c_X2_has (d := d - 1) (by omega) (x1) m q_1 hq_1) ?_
  refine x_if_ne 21 dX9_look_8 (by decide) (fun hc => ?_) (fun hc => ?_)
  · replace hf := x_iff hc hf
    refine x_iload_n dX9_look_21 rfl ?_
    by_cases hc : x2 = 0
    · replace hf := x_ift hc hf
      refine x_tableIn 60 dX9_look_22 (by rw [hc]; decide) (by rw [hc]; decide) (by rw [hc]; rfl) (by decide) ?_
      refine x_aload_n dX9_look_60 rfl ?_
      refine f_getR (b := 1) dX9_look_61 xcl_9 (by decide) fl_RX9_12 (by decide) sh_0 rfl ?_
      refine f_getR (b := 2) dX9_look_64 xcl_2 (by decide) fl_RX9_224 (by decide) sh_1 rfl ?_
      refine x_iload_n dX9_look_67 rfl ?_
      have hg_2 := x_gd hf
      replace hf := hg_2.2
      refine f_iald dX9_look_68 (by decide) sh_2 hg_2.1 ?_
      exact x_iret dX9_look_69 rfl (by cases hf; exact hR)
    replace hf := x_iff hc hf
    have hn0 := hc
    by_cases hc : x2 = 1
    · replace hf := x_ift hc hf
      refine x_tableIn 70 dX9_look_22 (by rw [hc]; decide) (by rw [hc]; decide) (by rw [hc]; rfl) (by decide) ?_
      refine x_aload_n dX9_look_70 rfl ?_
      refine f_getR (b := 1) dX9_look_71 xcl_9 (by decide) fl_RX9_12 (by decide) sh_0 rfl ?_
      refine f_getR (b := 3) dX9_look_74 xcl_2 (by decide) fl_RX9_194 (by decide) sh_1 rfl ?_
      refine x_iload_n dX9_look_77 rfl ?_
      have hg_3 := x_gd hf
      replace hf := hg_3.2
      refine f_iald dX9_look_78 (by decide) sh_3 hg_3.1 ?_
      exact x_iret dX9_look_79 rfl (by cases hf; exact hR)
    replace hf := x_iff hc hf
    have hn1 := hc
    by_cases hc : x2 = 2
    · replace hf := x_ift hc hf
      refine x_tableIn 80 dX9_look_22 (by rw [hc]; decide) (by rw [hc]; decide) (by rw [hc]; rfl) (by decide) ?_
      refine x_aload_n dX9_look_80 rfl ?_
      refine f_getR (b := 1) dX9_look_81 xcl_9 (by decide) fl_RX9_12 (by decide) sh_0 rfl ?_
      refine f_getR (b := 4) dX9_look_84 xcl_2 (by decide) fl_RX9_237 (by decide) sh_1 rfl ?_
      refine x_iload_n dX9_look_87 rfl ?_
      have hg_4 := x_gd hf
      replace hf := hg_4.2
      refine f_iald dX9_look_88 (by decide) sh_4 hg_4.1 ?_
      exact x_iret dX9_look_89 rfl (by cases hf; exact hR)
    replace hf := x_iff hc hf
    have hn2 := hc
    by_cases hc : x2 = 3
    · replace hf := x_ift hc hf
      refine x_tableIn 90 dX9_look_22 (by rw [hc]; decide) (by rw [hc]; decide) (by rw [hc]; rfl) (by decide) ?_
      refine x_aload_n dX9_look_90 rfl ?_
      refine f_getR (b := 1) dX9_look_91 xcl_9 (by decide) fl_RX9_12 (by decide) sh_0 rfl ?_
      refine f_getR (b := 5) dX9_look_94 xcl_2 (by decide) fl_RX9_240 (by decide) sh_1 rfl ?_
      refine x_iload_n dX9_look_97 rfl ?_
      have hg_5 := x_gd hf
      replace hf := hg_5.2
      refine f_iald dX9_look_98 (by decide) sh_5 hg_5.1 ?_
      exact x_iret dX9_look_99 rfl (by cases hf; exact hR)
    replace hf := x_iff hc hf
    have hn3 := hc
    by_cases hc : x2 = 4
    · replace hf := x_ift hc hf
      refine x_tableIn 100 dX9_look_22 (by rw [hc]; decide) (by rw [hc]; decide) (by rw [hc]; rfl) (by decide) ?_
      refine x_aload_n dX9_look_100 rfl ?_
      refine f_getR (b := 1) dX9_look_101 xcl_9 (by decide) fl_RX9_12 (by decide) sh_0 rfl ?_
      refine f_getR (b := 6) dX9_look_104 xcl_2 (by decide) fl_RX9_110 (by decide) sh_1 rfl ?_
      refine x_iload_n dX9_look_107 rfl ?_
      have hg_6 := x_gd hf
      replace hf := hg_6.2
      refine f_iald dX9_look_108 (by decide) sh_6 hg_6.1 ?_
      exact x_iret dX9_look_109 rfl (by cases hf; exact hR)
    replace hf := x_iff hc hf
    have hn4 := hc
    by_cases hc : x2 = 5
    · replace hf := x_ift hc hf
      refine x_tableIn 110 dX9_look_22 (by rw [hc]; decide) (by rw [hc]; decide) (by rw [hc]; rfl) (by decide) ?_
      refine x_aload_n dX9_look_110 rfl ?_
      refine f_getR (b := 1) dX9_look_111 xcl_9 (by decide) fl_RX9_12 (by decide) sh_0 rfl ?_
      refine f_getR (b := 7) dX9_look_114 xcl_2 (by decide) fl_RX9_113 (by decide) sh_1 rfl ?_
      refine x_iload_n dX9_look_117 rfl ?_
      have hg_7 := x_gd hf
      replace hf := hg_7.2
      refine f_iald dX9_look_118 (by decide) sh_7 hg_7.1 ?_
      exact x_iret dX9_look_119 rfl (by cases hf; exact hR)
    replace hf := x_iff hc hf
    have hn5 := hc
    refine x_tableOut 120 dX9_look_22 (xtab_out 0 5 [0, 1, 2, 3, 4, 5] (by decide) (by simp only [List.forall_mem_cons, List.not_mem_nil, false_implies, implies_true, and_true]; exact ⟨hn0, hn1, hn2, hn3, hn4, hn5⟩)) (by decide) ?_
    cases hf
  · replace hf := x_ift hc hf
    cases hf
theorem c_X9_look {E : xE} {d : Nat} (hd : 2 ≤ d) (x1 : Int32) (x2 : Int32) (m : xMem) (out : Int32 × xMem) (h : F_X9_look x1 x2 m = some out) : xCi E mX9_look d [.ref (xB E + 0), .int x1, .int x2] m out.1 out.2 :=
  x_enter (by decide +kernel) (Nat.le_of_ble_eq_true rfl) (pF_X9_look hd (Q := _) out ⟨rfl, rfl⟩ x1 x2 m h)
