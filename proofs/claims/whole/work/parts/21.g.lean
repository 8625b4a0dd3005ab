-- X10_check
def J_X10_check_159 (rec : Int32 → xMem → Option (Int32 × xMem)) (c165 : xMem → Option (Int32 × xMem)) (x1 : Int32) (x2 : Int32) (x3 : Int32) (x4 : Int32) (m : xMem) : Option (Int32 × xMem) :=
  rec (x4 + 1) m
def L_X10_check_106 (x1 : Int32) (x2 : Int32) (x3 : Int32) (c165 : xMem → Option (Int32 × xMem)) : Nat → Int32 → xMem → Option (Int32 × xMem)
  | 0, _, _ => none
  | fk + 1, x4, m =>
    if (m.1 am fGuideBookModel_letters) ≤ x4 then (
      c165 m)
    else (
      if xin x4 100 = true then (
      if (m.1 am_about x4.toNatClampNeg) = x1 then (
        if xin x4 100 = true then (
        if (m.1 am_proofs x4.toNatClampNeg) = 0 then (
          if xin x4 100 = true then (
          if (m.1 am_says x4.toNatClampNeg) = x2 then (
            if xin x4 100 = true then (
            J_X10_check_159 (fun y_18 m_19 => L_X10_check_106 x1 x2 x3 c165 fk y_18 m_19) c165 (x1) (x2) (x3) (x4) (xst m.1 am_proofs x4.toNatClampNeg (1 : Int32), m.2))
            else none)
          else (
            if xin x4 100 = true then (
            J_X10_check_159 (fun y_20 m_21 => L_X10_check_106 x1 x2 x3 c165 fk y_20 m_21) c165 (x1) (x2) (x3) (x4) (xst m.1 am_proofs x4.toNatClampNeg (2 : Int32), m.2))
            else none))
          else none)
        else (
          J_X10_check_159 (fun y_22 m_23 => L_X10_check_106 x1 x2 x3 c165 fk y_22 m_23) c165 (x1) (x2) (x3) (x4) m))
        else none)
      else (
        J_X10_check_159 (fun y_24 m_25 => L_X10_check_106 x1 x2 x3 c165 fk y_24 m_25) c165 (x1) (x2) (x3) (x4) m))
      else none)
def J_X10_check_37 (x1 : Int32) (x2 : Int32) (s0 : Int32) (m : xMem) : Option (Int32 × xMem) :=
  if xin x1 60 = true then (
  if xin (m.1 am_kindOf x1.toNatClampNeg) 6 = true then (
  if xin x1 60 = true then (
  if xin (m.1 am_kindOf x1.toNatClampNeg) 6 = true then (
  if xin x1 60 = true then (
  if xin ((xst m.1 am_kindYears (m.1 am_kindOf x1.toNatClampNeg).toNatClampNeg ((m.1 am_kindYears (m.1 am_kindOf x1.toNatClampNeg).toNatClampNeg) + ((m.1 am fGuideBookModel_now) - (m.1 am_checkedOn x1.toNatClampNeg)))) am_kindOf x1.toNatClampNeg) 6 = true then (
  if s0 = 0 then (
    if xin ((xst m.1 am_kindYears (m.1 am_kindOf x1.toNatClampNeg).toNatClampNeg ((m.1 am_kindYears (m.1 am_kindOf x1.toNatClampNeg).toNatClampNeg) + ((m.1 am fGuideBookModel_now) - (m.1 am_checkedOn x1.toNatClampNeg)))) am_kindOf x1.toNatClampNeg) 6 = true then (
    if xin x1 60 = true then (
    if xin x1 60 = true then (
    L_X10_check_106 (x1) (x2) (s0) (fun m_26 => (
      (F_X10_proves (x1) (x2) m_26).bind fun q_27 => (
      if s0 = 0 then (
        some ((0 : Int32), q_27.2))
      else (
        some ((1 : Int32), q_27.2))))) xfuel ((0 : Int32)) (xst (xst (xst (xst m.1 am_kindYears (m.1 am_kindOf x1.toNatClampNeg).toNatClampNeg ((m.1 am_kindYears (m.1 am_kindOf x1.toNatClampNeg).toNatClampNeg) + ((m.1 am fGuideBookModel_now) - (m.1 am_checkedOn x1.toNatClampNeg)))) am_kindChanges ((xst m.1 am_kindYears (m.1 am_kindOf x1.toNatClampNeg).toNatClampNeg ((m.1 am_kindYears (m.1 am_kindOf x1.toNatClampNeg).toNatClampNeg) + ((m.1 am fGuideBookModel_now) - (m.1 am_checkedOn x1.toNatClampNeg)))) am_kindOf x1.toNatClampNeg).toNatClampNeg (((xst m.1 am_kindYears (m.1 am_kindOf x1.toNatClampNeg).toNatClampNeg ((m.1 am_kindYears (m.1 am_kindOf x1.toNatClampNeg).toNatClampNeg) + ((m.1 am fGuideBookModel_now) - (m.1 am_checkedOn x1.toNatClampNeg)))) am_kindChanges ((xst m.1 am_kindYears (m.1 am_kindOf x1.toNatClampNeg).toNatClampNeg ((m.1 am_kindYears (m.1 am_kindOf x1.toNatClampNeg).toNatClampNeg) + ((m.1 am fGuideBookModel_now) - (m.1 am_checkedOn x1.toNatClampNeg)))) am_kindOf x1.toNatClampNeg).toNatClampNeg) + (0 : Int32))) am_worthNow x1.toNatClampNeg x2) am_checkedOn x1.toNatClampNeg ((xst (xst (xst m.1 am_kindYears (m.1 am_kindOf x1.toNatClampNeg).toNatClampNeg ((m.1 am_kindYears (m.1 am_kindOf x1.toNatClampNeg).toNatClampNeg) + ((m.1 am fGuideBookModel_now) - (m.1 am_checkedOn x1.toNatClampNeg)))) am_kindChanges ((xst m.1 am_kindYears (m.1 am_kindOf x1.toNatClampNeg).toNatClampNeg ((m.1 am_kindYears (m.1 am_kindOf x1.toNatClampNeg).toNatClampNeg) + ((m.1 am fGuideBookModel_now) - (m.1 am_checkedOn x1.toNatClampNeg)))) am_kindOf x1.toNatClampNeg).toNatClampNeg (((xst m.1 am_kindYears (m.1 am_kindOf x1.toNatClampNeg).toNatClampNeg ((m.1 am_kindYears (m.1 am_kindOf x1.toNatClampNeg).toNatClampNeg) + ((m.1 am fGuideBookModel_now) - (m.1 am_checkedOn x1.toNatClampNeg)))) am_kindChanges ((xst m.1 am_kindYears (m.1 am_kindOf x1.toNatClampNeg).toNatClampNeg ((m.1 am_kindYears (m.1 am_kindOf x1.toNatClampNeg).toNatClampNeg) + ((m.1 am fGuideBookModel_now) - (m.1 am_checkedOn x1.toNatClampNeg)))) am_kindOf x1.toNatClampNeg).toNatClampNeg) + (0 : Int32))) am_worthNow x1.toNatClampNeg x2) am fGuideBookModel_now), m.2))
    else none)
    else none)
    else none)
  else (
    if xin ((xst m.1 am_kindYears (m.1 am_kindOf x1.toNatClampNeg).toNatClampNeg ((m.1 am_kindYears (m.1 am_kindOf x1.toNatClampNeg).toNatClampNeg) + ((m.1 am fGuideBookModel_now) - (m.1 am_checkedOn x1.toNatClampNeg)))) am_kindOf x1.toNatClampNeg) 6 = true then (
    if xin x1 60 = true then (
    if xin x1 60 = true then (
    L_X10_check_106 (x1) (x2) (s0) (fun m_31 => (
      (F_X10_proves (x1) (x2) m_31).bind fun q_32 => (
      if s0 = 0 then (
        some ((0 : Int32), q_32.2))
      else (
        some ((1 : Int32), q_32.2))))) xfuel ((0 : Int32)) (xst (xst (xst (xst m.1 am_kindYears (m.1 am_kindOf x1.toNatClampNeg).toNatClampNeg ((m.1 am_kindYears (m.1 am_kindOf x1.toNatClampNeg).toNatClampNeg) + ((m.1 am fGuideBookModel_now) - (m.1 am_checkedOn x1.toNatClampNeg)))) am_kindChanges ((xst m.1 am_kindYears (m.1 am_kindOf x1.toNatClampNeg).toNatClampNeg ((m.1 am_kindYears (m.1 am_kindOf x1.toNatClampNeg).toNatClampNeg) + ((m.1 am fGuideBookModel_now) - (m.1 am_checkedOn x1.toNatClampNeg)))) am_kindOf x1.toNatClampNeg).toNatClampNeg (((xst m.1 am_kindYears (m.1 am_kindOf x1.toNatClampNeg).toNatClampNeg ((m.1 am_kindYears (m.1 am_kindOf x1.toNatClampNeg).toNatClampNeg) + ((m.1 am fGuideBookModel_now) - (m.1 am_checkedOn x1.toNatClampNeg)))) am_kindChanges ((xst m.1 am_kindYears (m.1 am_kindOf x1.toNatClampNeg).toNatClampNeg ((m.1 am_kindYears (m.1 am_kindOf x1.toNatClampNeg).toNatClampNeg) + ((m.1 am fGuideBookModel_now) - (m.1 am_checkedOn x1.toNatClampNeg)))) am_kindOf x1.toNatClampNeg).toNatClampNeg) + (1 : Int32))) am_worthNow x1.toNatClampNeg x2) am_checkedOn x1.toNatClampNeg ((xst (xst (xst m.1 am_kindYears (m.1 am_kindOf x1.toNatClampNeg).toNatClampNeg ((m.1 am_kindYears (m.1 am_kindOf x1.toNatClampNeg).toNatClampNeg) + ((m.1 am fGuideBookModel_now) - (m.1 am_checkedOn x1.toNatClampNeg)))) am_kindChanges ((xst m.1 am_kindYears (m.1 am_kindOf x1.toNatClampNeg).toNatClampNeg ((m.1 am_kindYears (m.1 am_kindOf x1.toNatClampNeg).toNatClampNeg) + ((m.1 am fGuideBookModel_now) - (m.1 am_checkedOn x1.toNatClampNeg)))) am_kindOf x1.toNatClampNeg).toNatClampNeg (((xst m.1 am_kindYears (m.1 am_kindOf x1.toNatClampNeg).toNatClampNeg ((m.1 am_kindYears (m.1 am_kindOf x1.toNatClampNeg).toNatClampNeg) + ((m.1 am fGuideBookModel_now) - (m.1 am_checkedOn x1.toNatClampNeg)))) am_kindChanges ((xst m.1 am_kindYears (m.1 am_kindOf x1.toNatClampNeg).toNatClampNeg ((m.1 am_kindYears (m.1 am_kindOf x1.toNatClampNeg).toNatClampNeg) + ((m.1 am fGuideBookModel_now) - (m.1 am_checkedOn x1.toNatClampNeg)))) am_kindOf x1.toNatClampNeg).toNatClampNeg) + (1 : Int32))) am_worthNow x1.toNatClampNeg x2) am fGuideBookModel_now), m.2))
    else none)
    else none)
    else none))
  else none)
  else none)
  else none)
  else none)
  else none)
  else none
def F_X10_check (x1 : Int32) (x2 : Int32) (m : xMem) : Option (Int32 × xMem) :=
  (F_X10_isFact (x1) (xst m.1 am fGuideBookModel_thrown (0 : Int32), m.2)).bind fun q_1 => (
  if q_1.1 = 0 then (
    some ((-1 : Int32), q_1.2))
  else (
    (F_X10_isValue (x2) q_1.2).bind fun q_2 => (
    if q_2.1 = 0 then (
      some ((-1 : Int32), q_2.2))
    else (
      if xin x1 60 = true then (
      if x2 = (q_2.2.1 am_worthNow x1.toNatClampNeg) then (
        J_X10_check_37 (x1) (x2) ((0 : Int32)) q_2.2)
      else (
        J_X10_check_37 (x1) (x2) ((1 : Int32)) q_2.2))
      else none))))
set_option maxHeartbeats 4000000 in
set_option maxRecDepth 100000 in
theorem pJ_X10_check_159 {E : xE} {d : Nat} {Q : Option Value → xS → Prop} (hd : 2 ≤ d) (out : Int32 × xMem) (hR : Q (some (.int out.1)) (xf E out.2)) (rec : Int32 → xMem → Option (Int32 × xMem)) (c165 : xMem → Option (Int32 × xMem)) (x1 : Int32) (x2 : Int32) (x3 : Int32) (x4 : Int32) (hrec : ∀ (x4 : Int32) (m : xMem), rec x4 m = some out → xX E mX10_check d 0 0 0 0 Q 106 [(0, .ref (xB E + 87)), (1, .int (x1)), (2, .int (x2)), (3, .int (x3)), (4, .int (x4))] [] (xf E m)) (hc165 : ∀ (m : xMem), c165 m = some out → xX E mX10_check d 0 0 0 0 Q 165 [(0, .ref (xB E + 87)), (1, .int (x1)), (2, .int (x2)), (3, .int (x3))] [] (xf E m)) (m : xMem) (hf : J_X10_check_159 rec c165 x1 x2 x3 x4 m = some out) : xX E mX10_check d 0 0 0 0 Q 159 [(0, .ref (xB E + 87)), (1, .int (x1)), (2, .int (x2)), (3, .int (x3)), (4, .int (x4))] [] (xf E m) := by
  unfold J_X10_check_159 at hf
  refine x_iinc (v := x4 + 1) (lv' := [(0, .ref (xB E + 87)), (1, .int (x1)), (2, .int (x2)), (3, .int (x3)), (4, .int (x4 + 1))]) dX10_check_159 4 [1, 2, 3, 4, 0] rfl rfl (by decide) rfl ?_
  refine x_goto 106 dX10_check_162 (by decide) ?_
  exact hrec _ _ hf
set_option maxHeartbeats 4000000 in
set_option maxRecDepth 100000 in
theorem pL_X10_check_106 {E : xE} {d : Nat} {Q : Option Value → xS → Prop} (hd : 2 ≤ d) (out : Int32 × xMem) (hR : Q (some (.int out.1)) (xf E out.2)) (x1 : Int32) (x2 : Int32) (x3 : Int32) (c165 : xMem → Option (Int32 × xMem)) (hc165 : ∀ (m : xMem), c165 m = some out → xX E mX10_check d 0 0 0 0 Q 165 [(0, .ref (xB E + 87)), (1, .int (x1)), (2, .int (x2)), (3, .int (x3))] [] (xf E m)) : ∀ (fk : Nat) (x4 : Int32) (m : xMem), L_X10_check_106 x1 x2 x3 c165 fk x4 m = some out → xX E mX10_check d 0 0 0 0 Q 106 [(0, .ref (xB E + 87)), (1, .int (x1)), (2, .int (x2)), (3, .int (x3)), (4, .int (x4))] [] (xf E m) := by
  intro fk
  induction fk with
  | zero => intro x4 m hf; cases hf
  | succ fk ih =>
    intro x4 m hf
    rw [L_X10_check_106] at hf
    refine x_iload dX10_check_106 rfl ?_
    refine x_aload_n dX10_check_108 rfl ?_
    refine f_getI dX10_check_109 xcl_10 (by decide) fl_RX10_264 (by decide) sh_87 rfl ?_
    refine x_icmp_ge 165 dX10_check_112 (by decide) (fun hc => ?_) (fun hc => ?_)
    · replace hf := x_ift hc hf
      refine x_lv (lv' := [(0, .ref (xB E + 87)), (1, .int (x1)), (2, .int (x2)), (3, .int (x3))]) [0, 1, 2, 3] rfl ?_
      exact hc165 _ hf
    · replace hf := x_iff hc hf
      refine x_aload_n dX10_check_115 rfl ?_
      refine f_getR (b := 114) dX10_check_116 xcl_10 (by decide) fl_RX10_118 (by decide) sh_87 rfl ?_
      refine x_iload dX10_check_119 rfl ?_
      have hg_13 := x_gd hf
      replace hf := hg_13.2
      refine f_iald dX10_check_121 (by decide) sh_114 hg_13.1 ?_
      refine x_iload_n dX10_check_122 rfl ?_
      refine x_icmp_ne 159 dX10_check_123 (by decide) (fun hc => ?_) (fun hc => ?_)
      · replace hf := x_iff hc hf
        exact pJ_X10_check_159 hd out hR _ _ _ _ _ _ (fun y0 m9 h9 => ih y0 m9 h9) hc165 _ hf
      · replace hf := x_ift hc hf
        refine x_aload_n dX10_check_126 rfl ?_
        refine f_getR (b := 116) dX10_check_127 xcl_10 (by decide) fl_RX10_124 (by decide) sh_87 rfl ?_
        refine x_iload dX10_check_130 rfl ?_
        have hg_14 := x_gd hf
        replace hf := hg_14.2
        refine f_iald dX10_check_132 (by decide) sh_116 hg_14.1 ?_
        refine x_if_ne 159 dX10_check_133 (by decide) (fun hc => ?_) (fun hc => ?_)
        · replace hf := x_iff hc hf
          exact pJ_X10_check_159 hd out hR _ _ _ _ _ _ (fun y0 m9 h9 => ih y0 m9 h9) hc165 _ hf
        · replace hf := x_ift hc hf
          refine x_aload_n dX10_check_136 rfl ?_
          refine f_getR (b := 116) dX10_check_137 xcl_10 (by decide) fl_RX10_124 (by decide) sh_87 rfl ?_
          refine x_iload dX10_check_140 rfl ?_
          refine x_aload_n dX10_check_142 rfl ?_
          refine f_getR (b := 115) dX10_check_143 xcl_10 (by decide) fl_RX10_121 (by decide) sh_87 rfl ?_
          refine x_iload dX10_check_146 rfl ?_
          have hg_15 := x_gd hf
          replace hf := hg_15.2
          refine f_iald dX10_check_148 (by decide) sh_115 hg_15.1 ?_
          refine x_iload_n dX10_check_149 rfl ?_
          refine x_icmp_ne 157 dX10_check_150 (by decide) (fun hc => ?_) (fun hc => ?_)
          · replace hf := x_iff hc hf
            refine x_iconst (v := 2) dX10_check_157 (by decide) ?_
            have hg_16 := x_gd hf
            replace hf := hg_16.2
            refine f_iast dX10_check_158 (by decide) sh_116 hg_16.1 ?_
            exact pJ_X10_check_159 hd out hR _ _ _ _ _ _ (fun y0 m9 h9 => ih y0 m9 h9) hc165 _ hf
          · replace hf := x_ift hc hf
            refine x_iconst (v := 1) dX10_check_153 (by decide) ?_
            refine x_goto 158 dX10_check_154 (by decide) ?_
            have hg_17 := x_gd hf
            replace hf := hg_17.2
            refine f_iast dX10_check_158 (by decide) sh_116 hg_17.1 ?_
            exact pJ_X10_check_159 hd out hR _ _ _ _ _ _ (fun y0 m9 h9 => ih y0 m9 h9) hc165 _ hf
set_option maxHeartbeats 4000000 in
set_option maxRecDepth 100000 in
theorem pJ_X10_check_37 {E : xE} {d : Nat} {Q : Option Value → xS → Prop} (hd : 2 ≤ d) (out : Int32 × xMem) (hR : Q (some (.int out.1)) (xf E out.2)) (x1 : Int32) (x2 : Int32) (s0 : Int32) (m : xMem) (hf : J_X10_check_37 x1 x2 s0 m = some out) : xX E mX10_check d 0 0 0 0 Q 37 [(0, .ref (xB E + 87)), (1, .int (x1)), (2, .int (x2))] [.int (s0)] (xf E m) := by
  unfold J_X10_check_37 at hf
  refine x_istore_n (lv' := [(0, .ref (xB E + 87)), (1, .int (x1)), (2, .int (x2)), (3, .int (s0))]) dX10_check_37 [1, 2, 3, 0] (by decide) rfl ?_
  refine x_aload_n dX10_check_38 rfl ?_
  refine f_getR (b := 109) dX10_check_39 xcl_10 (by decide) fl_RX10_103 (by decide) sh_87 rfl ?_
  refine x_aload_n dX10_check_42 rfl ?_
  refine f_getR (b := 103) dX10_check_43 xcl_10 (by decide) fl_RX10_85 (by decide) sh_87 rfl ?_
  refine x_iload_n dX10_check_46 rfl ?_
  have hg_4 := x_gd hf
  replace hf := hg_4.2
  refine f_iald dX10_check_47 (by decide) sh_103 hg_4.1 ?_
  refine x_dup2 dX10_check_48 rfl rfl ?_
  have hg_5 := x_gd hf
  replace hf := hg_5.2
  refine f_iald dX10_check_49 (by decide) sh_109 hg_5.1 ?_
  refine x_aload_n dX10_check_50 rfl ?_
  refine f_getI dX10_check_51 xcl_10 (by decide) fl_RX10_241 (by decide) sh_87 rfl ?_
  refine x_aload_n dX10_check_54 rfl ?_
  refine f_getR (b := 106) dX10_check_55 xcl_10 (by decide) fl_RX10_94 (by decide) sh_87 rfl ?_
  refine x_iload_n dX10_check_58 rfl ?_
  have hg_6 := x_gd hf
  replace hf := hg_6.2
  refine f_iald dX10_check_59 (by decide) sh_106 hg_6.1 ?_
  refine x_isub dX10_check_60 ?_
  refine x_iadd dX10_check_61 ?_
  have hg_7 := x_gd hf
  replace hf := hg_7.2
  refine f_iast dX10_check_62 (by decide) sh_109 hg_7.1 ?_
  refine x_aload_n dX10_check_63 rfl ?_
  refine f_getR (b := 110) dX10_check_64 xcl_10 (by decide) fl_RX10_106 (by decide) sh_87 rfl ?_
  refine x_aload_n dX10_check_67 rfl ?_
  refine f_getR (b := 103) dX10_check_68 xcl_10 (by decide) fl_RX10_85 (by decide) sh_87 rfl ?_
  refine x_iload_n dX10_check_71 rfl ?_
  have hg_8 := x_gd hf
  replace hf := hg_8.2
  refine f_iald dX10_check_72 (by decide) sh_103 hg_8.1 ?_
  refine x_dup2 dX10_check_73 rfl rfl ?_
  have hg_9 := x_gd hf
  replace hf := hg_9.2
  refine f_iald dX10_check_74 (by decide) sh_110 hg_9.1 ?_
  refine x_iload_n dX10_check_75 rfl ?_
  refine x_if_eq 83 dX10_check_76 (by decide) (fun hc => ?_) (fun hc => ?_)
  · replace hf := x_ift hc hf
    refine x_iconst (v := 0) dX10_check_83 (by decide) ?_
    refine x_iadd dX10_check_84 ?_
    have hg_10 := x_gd hf
    replace hf := hg_10.2
    refine f_iast dX10_check_85 (by decide) sh_110 hg_10.1 ?_
    refine x_aload_n dX10_check_86 rfl ?_
    refine f_getR (b := 105) dX10_check_87 xcl_10 (by decide) fl_RX10_91 (by decide) sh_87 rfl ?_
    refine x_iload_n dX10_check_90 rfl ?_
    refine x_iload_n dX10_check_91 rfl ?_
    have hg_11 := x_gd hf
    replace hf := hg_11.2
    refine f_iast dX10_check_92 (by decide) sh_105 hg_11.1 ?_
    refine x_aload_n dX10_check_93 rfl ?_
    refine f_getR (b := 106) dX10_check_94 xcl_10 (by decide) fl_RX10_94 (by decide) sh_87 rfl ?_
    refine x_iload_n dX10_check_97 rfl ?_
    refine x_aload_n dX10_check_98 rfl ?_
    refine f_getI dX10_check_99 xcl_10 (by decide) fl_RX10_241 (by decide) sh_87 rfl ?_
    have hg_12 := x_gd hf
    replace hf := hg_12.2
    refine f_iast dX10_check_102 (by decide) sh_106 hg_12.1 ?_
    refine x_iconst (v := 0) dX10_check_103 (by decide) ?_
    refine x_istore (lv' := [(0, .ref (xB E + 87)), (1, .int (x1)), (2, .int (x2)), (3, .int (s0)), (4, .int ((0 : Int32)))]) dX10_check_104 [1, 2, 3, 4, 0] (by decide) rfl ?_
    refine pL_X10_check_106 hd out hR _ _ _ _ (fun m_26 hf => ?_) xfuel _ _ hf
    refine x_aload_n dX10_check_165 rfl ?_
    refine x_iload_n dX10_check_166 rfl ?_
    refine x_iload_n dX10_check_167 rfl ?_
    obtain ⟨q_27, hq_27, hf⟩ := Option.bind_eq_some_iff.mp hf
    refine f_cVv mX10_proves [.int (x1), .int (x2)] [] dX10_check_168 cs_RX10_267 ⟨w_1212, w_74⟩ (ci := 10) rfl (by decide) sh_87 rfl rfl (Nat.le_of_ble_eq_true rfl) (by omega) (c_X10_proves (d := d - 1) (by omega) (x1) (x2) m_26 q_27 hq_27) ?_
    refine x_iload_n dX10_check_171 rfl ?_
    refine x_if_eq 179 dX10_check_172 (by decide) (fun hc => ?_) (fun hc => ?_)
    · replace hf := x_ift hc hf
      refine x_iconst (v := 0) dX10_check_179 (by decide) ?_
      exact x_iret dX10_check_180 rfl (by cases hf; exact hR)
    · replace hf := x_iff hc hf
      refine x_iconst (v := 1) dX10_check_175 (by decide) ?_
      refine x_goto 180 dX10_check_176 (by decide) ?_
      exact x_iret dX10_check_180 rfl (by cases hf; exact hR)
  · replace hf := x_iff hc hf
    refine x_iconst (v := 1) dX10_check_79 (by decide) ?_
    refine x_goto 84 dX10_check_80 (by decide) ?_
    refine x_iadd dX10_check_84 ?_
    have hg_28 := x_gd hf
    replace hf := hg_28.2
    refine f_iast dX10_check_85 (by decide) sh_110 hg_28.1 ?_
    refine x_aload_n dX10_check_86 rfl ?_
    refine f_getR (b := 105) dX10_check_87 xcl_10 (by decide) fl_RX10_91 (by decide) sh_87 rfl ?_
    refine x_iload_n dX10_check_90 rfl ?_
    refine x_iload_n dX10_check_91 rfl ?_
    have hg_29 := x_gd hf
    replace hf := hg_29.2
    refine f_iast dX10_check_92 (by decide) sh_105 hg_29.1 ?_
    refine x_aload_n dX10_check_93 rfl ?_
    refine f_getR (b := 106) dX10_check_94 xcl_10 (by decide) fl_RX10_94 (by decide) sh_87 rfl ?_
    refine x_iload_n dX10_check_97 rfl ?_
    refine x_aload_n dX10_check_98 rfl ?_
    refine f_getI dX10_check_99 xcl_10 (by decide) fl_RX10_241 (by decide) sh_87 rfl ?_
    have hg_30 := x_gd hf
    replace hf := hg_30.2
    refine f_iast dX10_check_102 (by decide) sh_106 hg_30.1 ?_
    refine x_iconst (v := 0) dX10_check_103 (by decide) ?_
    refine x_istore (lv' := [(0, .ref (xB E + 87)), (1, .int (x1)), (2, .int (x2)), (3, .int (s0)), (4, .int ((0 : Int32)))]) dX10_check_104 [1, 2, 3, 4, 0] (by decide) rfl ?_
    refine pL_X10_check_106 hd out hR _ _ _ _ (fun m_31 hf => ?_) xfuel _ _ hf
    refine x_aload_n dX10_check_165 rfl ?_
    refine x_iload_n dX10_check_166 rfl ?_
    refine x_iload_n dX10_check_167 rfl ?_
    obtain ⟨q_32, hq_32, hf⟩ := Option.bind_eq_some_iff.mp hf
    refine f_cVv mX10_proves [.int (x1), .int (x2)] [] dX10_check_168 cs_RX10_267 ⟨w_1212, w_74⟩ (ci := 10) rfl (by decide) sh_87 rfl rfl (Nat.le_of_ble_eq_true rfl) (by omega) (c_X10_proves (d := d - 1) (by omega) (x1) (x2) m_31 q_32 hq_32) ?_
    refine x_iload_n dX10_check_171 rfl ?_
    refine x_if_eq 179 dX10_check_172 (by decide) (fun hc => ?_) (fun hc => ?_)
    · replace hf := x_ift hc hf
      refine x_iconst (v := 0) dX10_check_179 (by decide) ?_
      exact x_iret dX10_check_180 rfl (by cases hf; exact hR)
    · replace hf := x_iff hc hf
      refine x_iconst (v := 1) dX10_check_175 (by decide) ?_
      refine x_goto 180 dX10_check_176 (by decide) ?_
      exact x_iret dX10_check_180 rfl (by cases hf; exact hR)
set_option maxHeartbeats 4000000 in
set_option maxRecDepth 100000 in
theorem pF_X10_check {E : xE} {d : Nat} {Q : Option Value → xS → Prop} (hd : 2 ≤ d) (out : Int32 × xMem) (hR : Q (some (.int out.1)) (xf E out.2)) (x1 : Int32) (x2 : Int32) (m : xMem) (hf : F_X10_check x1 x2 m = some out) : xX E mX10_check d 0 0 0 0 Q 0 [(0, .ref (xB E + 87)), (1, .int (x1)), (2, .int (x2))] [] (xf E m) := by
  unfold F_X10_check at hf
  refine x_aload_n dX10_check_0 rfl ?_
  refine x_iconst (v := 0) dX10_check_1 (by decide) ?_
  refine f_putI dX10_check_2 xcl_10 (by decide) fl_RX10_1 rfl rfl (by decide) sh_87 rfl ?_
  refine x_aload_n dX10_check_5 rfl ?_
  refine x_iload_n dX10_check_6 rfl ?_
  obtain ⟨q_1, hq_1, hf⟩ := Option.bind_eq_some_iff.mp hf
  refine f_cVi mX10_isFact [.int (x1)] [] dX10_check_7 cs_RX10_253 ⟨w_1187, w_71⟩ (ci := 10) rfl (by decide) sh_87 rfl rfl (Nat.le_of_ble_eq_true rfl) (by omega) (c_X10_isFact (d := d - 1) (by omega) (x1) (xst m.1 am fGuideBookModel_thrown (0 : Int32), m.2) q_1 hq_1) ?_
  refine x_if_eq 20 dX10_check_10 (by decide) (fun hc => ?_) (fun hc => ?_)
  · replace hf := x_ift hc hf
    refine x_iconst (v := (-1)) dX10_check_20 (by decide) ?_
    exact x_iret dX10_check_21 rfl (by cases hf; exact hR)
  · replace hf := x_iff hc hf
    refine x_iload_n dX10_check_13 rfl ?_
    obtain ⟨q_2, hq_2, hf⟩ := Option.bind_eq_some_iff.mp hf
    refine f_cSi mX10_isValue [.int (x2)] [] dX10_check_14 cs_RX10_247 w_1179 rfl rfl (Nat.le_of_ble_eq_true rfl) (by omega) (c_X10_isValue (d := d - 1) (by omega) (x2) q_1.2 q_2 hq_2) ?_
    refine x_if_ne 22 dX10_check_17 (by decide) (fun hc => ?_) (fun hc => ?_)
    · replace hf := x_iff hc hf
      refine x_iload_n dX10_check_22 rfl ?_
      refine x_aload_n dX10_check_23 rfl ?_
      refine f_getR (b := 105) dX10_check_24 xcl_10 (by decide) fl_RX10_91 (by decide) sh_87 rfl ?_
      refine x_iload_n dX10_check_27 rfl ?_
      have hg_3 := x_gd hf
      replace hf := hg_3.2
      refine f_iald dX10_check_28 (by decide) sh_105 hg_3.1 ?_
      refine x_icmp_eq 36 dX10_check_29 (by decide) (fun hc => ?_) (fun hc => ?_)
      · replace hf := x_ift hc hf
        refine x_iconst (v := 0) dX10_check_36 (by decide) ?_
        exact pJ_X10_check_37 hd out hR _ _ _ _ hf
      · replace hf := x_iff hc hf
        refine x_iconst (v := 1) dX10_check_32 (by decide) ?_
        refine x_goto 37 dX10_check_33 (by decide) ?_
        exact pJ_X10_check_37 hd out hR _ _ _ _ hf
    · replace hf := x_ift hc hf
      refine x_iconst (v := (-1)) dX10_check_20 (by decide) ?_
      exact x_iret dX10_check_21 rfl (by cases hf; exact hR)
theorem c_X10_check {E : xE} {d : Nat} (hd : 2 ≤ d) (x1 : Int32) (x2 : Int32) (m : xMem) (out : Int32 × xMem) (h : F_X10_check x1 x2 m = some out) : xCi E mX10_check d [.ref (xB E + 87), .int x1, .int x2] m out.1 out.2 :=
  x_enter (by decide +kernel) (Nat.le_of_ble_eq_true rfl) (pF_X10_check hd (Q := _) out ⟨rfl, rfl⟩ x1 x2 m h)
-- X9_cut
def F_X9_cut (l0 : Int64) (x2 : Int32) (m : xMem) : Option (Int32 × xMem) :=
  if x2 = 0 then (
    some ((0 : Int32), m))
  else (
    if x2.toInt64 = 0 then none else (
    some ((l0 / x2.toInt64).toInt32, m)))
set_option maxHeartbeats 4000000 in
set_option maxRecDepth 100000 in
theorem pF_X9_cut {E : xE} {d : Nat} {Q : Option Value → xS → Prop} (hd : 1 ≤ d) (out : Int32 × xMem) (hR : Q (some (.int out.1)) (xf E out.2)) (l0 : Int64) (x2 : Int32) (m : xMem) (hf : F_X9_cut l0 x2 m = some out) : xX E mX9_cut d 0 0 0 0 Q 0 [(0, .long (l0)), (2, .int (x2))] [] (xf E m) := by
  unfold F_X9_cut at hf
  refine x_iload_n dX9_cut_0 rfl ?_
  refine x_if_ne 8 dX9_cut_1 (by decide) (fun hc => ?_) (fun hc => ?_)
  · replace hf := x_iff hc hf
    refine x_lload_n dX9_cut_8 rfl ?_
    refine x_iload_n dX9_cut_9 rfl ?_
    refine x_i2l dX9_cut_10 ?_
    have hg_1 := x_gp hf
    replace hf := hg_1.2
    refine x_ldiv dX9_cut_11 hg_1.1 ?_
    refine x_l2i dX9_cut_12 ?_
    exact x_iret dX9_cut_13 rfl (by cases hf; exact hR)
  · replace hf := x_ift hc hf
    refine x_iconst (v := 0) dX9_cut_4 (by decide) ?_
    refine x_goto 13 dX9_cut_5 (by decide) ?_
    exact x_iret dX9_cut_13 rfl (by cases hf; exact hR)
theorem c_X9_cut {E : xE} {d : Nat} (hd : 1 ≤ d) (l0 : Int64) (x2 : Int32) (m : xMem) (out : Int32 × xMem) (h : F_X9_cut l0 x2 m = some out) : xCi E mX9_cut d [.long l0, .int x2] m out.1 out.2 :=
  x_enter (by decide +kernel) (Nat.le_of_ble_eq_true rfl) (pF_X9_cut hd (Q := _) out ⟨rfl, rfl⟩ l0 x2 m h)
-- X2_rateOf
def F_X2_rateOf (x1 : Int32) (m : xMem) : Option (Int32 × xMem) :=
  if xin x1 6 = true then (
  if xin x1 6 = true then (
  if xin x1 6 = true then (
  (F_X9_cut ((1000000 : Int64) * ((if ((0 : Int32)) < (((m.1 ag_facts_kindYears x1.toNatClampNeg) + (1 : Int32)) - (m.1 ag_facts_kindChanges x1.toNatClampNeg)) then (((m.1 ag_facts_kindYears x1.toNatClampNeg) + (1 : Int32)) - (m.1 ag_facts_kindChanges x1.toNatClampNeg)) else ((0 : Int32))).toInt64)) ((m.1 ag_facts_kindYears x1.toNatClampNeg) + (2 : Int32)) m).bind fun q_4 => (
  some (q_4.1, q_4.2)))
  else none)
  else none)
  else none
set_option maxHeartbeats 4000000 in
set_option maxRecDepth 100000 in
theorem pF_X2_rateOf {E : xE} {d : Nat} {Q : Option Value → xS → Prop} (hd : 2 ≤ d) (out : Int32 × xMem) (hR : Q (some (.int out.1)) (xf E out.2)) (x1 : Int32) (m : xMem) (hf : F_X2_rateOf x1 m = some out) : xX E mX2_rateOf d 0 0 0 0 Q 0 [(0, .ref (xB E + 1)), (1, .int (x1))] [] (xf E m) := by
  unfold F_X2_rateOf at hf
  refine x_iconst (v := 0) dX2_rateOf_0 (by decide) ?_
  refine x_aload_n dX2_rateOf_1 rfl ?_
  refine f_getR (b := 8) dX2_rateOf_2 xcl_2 (by decide) fl_RX2_30 (by decide) sh_1 rfl ?_
  refine x_iload_n dX2_rateOf_5 rfl ?_
  have hg_1 := x_gd hf
  replace hf := hg_1.2
  refine f_iald dX2_rateOf_6 (by decide) sh_8 hg_1.1 ?_
  refine x_iconst (v := 1) dX2_rateOf_7 (by decide) ?_
  refine x_iadd dX2_rateOf_8 ?_
  refine x_aload_n dX2_rateOf_9 rfl ?_
  refine f_getR (b := 9) dX2_rateOf_10 xcl_2 (by decide) fl_RX2_33 (by decide) sh_1 rfl ?_
  refine x_iload_n dX2_rateOf_13 rfl ?_
  have hg_2 := x_gd hf
  replace hf := hg_2.2
  refine f_iald dX2_rateOf_14 (by decide) sh_9 hg_2.1 ?_
  refine x_isub dX2_rateOf_15 ?_
  refine x_mmax dX2_rateOf_16 wm_max_RX2_43 wms_max w_99 wmc_max (Nat.le_of_ble_eq_true rfl) ?_
  refine x_i2l dX2_rateOf_19 ?_
  refine x_lstore_n (lv' := [(0, .ref (xB E + 1)), (1, .int (x1)), (2, .long ((if ((0 : Int32)) < (((m.1 ag_facts_kindYears x1.toNatClampNeg) + (1 : Int32)) - (m.1 ag_facts_kindChanges x1.toNatClampNeg)) then (((m.1 ag_facts_kindYears x1.toNatClampNeg) + (1 : Int32)) - (m.1 ag_facts_kindChanges x1.toNatClampNeg)) else ((0 : Int32))).toInt64))]) dX2_rateOf_20 [1, 2, 0] (by decide) rfl ?_
  refine x_ldc2 (v := 1000000) dX2_rateOf_21 w_455 ?_
  refine x_lload_n dX2_rateOf_24 rfl ?_
  refine x_lmul dX2_rateOf_25 ?_
  refine x_aload_n dX2_rateOf_26 rfl ?_
  refine f_getR (b := 8) dX2_rateOf_27 xcl_2 (by decide) fl_RX2_30 (by decide) sh_1 rfl ?_
  refine x_iload_n dX2_rateOf_30 rfl ?_
  have hg_3 := x_gd hf
  replace hf := hg_3.2
  refine f_iald dX2_rateOf_31 (by decide) sh_8 hg_3.1 ?_
  refine x_iconst (v := 2) dX2_rateOf_32 (by decide) ?_
  refine x_iadd dX2_rateOf_33 ?_
  obtain ⟨q_4, hq_4, hf⟩ := Option.bind_eq_some_iff.mp hf
  refine f_cSi mX9_cut [.long ((1000000 : Int64) * ((if ((0 : Int32)) < (((m.1 ag_facts_kindYears x1.toNatClampNeg) + (1 : Int32)) - (m.1 ag_facts_kindChanges x1.toNatClampNeg)) then (((m.1 ag_facts_kindYears x1.toNatClampNeg) + (1 : Int32)) - (m.1 ag_facts_kindChanges x1.toNatClampNeg)) else ((0 : Int32))).toInt64)), .int ((m.1 ag_facts_kindYears x1.toNatClampNeg) + (2 : Int32))] [] dX2_rateOf_34 cs_RX2_51 w_457 rfl rfl (Nat.le_of_ble_eq_true rfl) (by omega) (c_X9_cut (d := d - 1) (by omega) ((1000000 : Int64) * ((if ((0 : Int32)) < (((m.1 ag_facts_kindYears x1.toNatClampNeg) + (1 : Int32)) - (m.1 ag_facts_kindChanges x1.toNatClampNeg)) then (((m.1 ag_facts_kindYears x1.toNatClampNeg) + (1 : Int32)) - (m.1 ag_facts_kindChanges x1.toNatClampNeg)) else ((0 : Int32))).toInt64)) ((m.1 ag_facts_kindYears x1.toNatClampNeg) + (2 : Int32)) m q_4 hq_4) ?_
  exact x_iret dX2_rateOf_37 rfl (by cases hf; exact hR)
theorem c_X2_rateOf {E : xE} {d : Nat} (hd : 2 ≤ d) (x1 : Int32) (m : xMem) (out : Int32 × xMem) (h : F_X2_rateOf x1 m = some out) : xCi E mX2_rateOf d [.ref (xB E + 1), .int x1] m out.1 out.2 :=
  x_enter (by decide +kernel) (Nat.le_of_ble_eq_true rfl) (pF_X2_rateOf hd (Q := _) out ⟨rfl, rfl⟩ x1 m h)
-- X9_rate
def F_X9_rate (x1 : Int32) (m : xMem) : Option (Int32 × xMem) :=
  (F_X9_isKind (x1) m).bind fun q_1 => (
  if q_1.1 = 0 then (
    some ((-1 : Int32), q_1.2))
  else (
    (F_X2_rateOf (x1) q_1.2).bind fun q_2 => (
    some (q_2.1, q_2.2))))
set_option maxHeartbeats 4000000 in
set_option maxRecDepth 100000 in
theorem pF_X9_rate {E : xE} {d : Nat} {Q : Option Value → xS → Prop} (hd : 3 ≤ d) (out : Int32 × xMem) (hR : Q (some (.int out.1)) (xf E out.2)) (x1 : Int32) (m : xMem) (hf : F_X9_rate x1 m = some out) : xX E mX9_rate d 0 0 0 0 Q 0 [(0, .ref (xB E + 0)), (1, .int (x1))] [] (xf E m) := by
  unfold F_X9_rate at hf
  refine x_iload_n dX9_rate_0 rfl ?_
  obtain ⟨q_1, hq_1, hf⟩ := Option.bind_eq_some_iff.mp hf
  refine f_cSi mX9_isKind [.int (x1)] [] dX9_rate_1 cs_RX9_90 w_396 rfl rfl (Nat.le_of_ble_eq_true rfl) (by omega) (c_X9_isKind (d := d - 1) (by omega) (x1) m q_1 hq_1) ?_
  refine x_if_eq 18 dX9_rate_4 (by decide) (fun hc => ?_) (fun hc => ?_)
  · replace hf := x_ift hc hf
    refine x_iconst (v := (-1)) dX9_rate_18 (by decide) ?_
    exact x_iret dX9_rate_19 rfl (by cases hf; exact hR)
  · replace hf := x_iff hc hf
    refine x_aload_n dX9_rate_7 rfl ?_
    refine f_getR (b := 1) dX9_rate_8 xcl_9 (by decide) fl_RX9_12 (by decide) sh_0 rfl ?_
    refine x_iload_n dX9_rate_11 rfl ?_
    obtain ⟨q_2, hq_2, hf⟩ := Option.bind_eq_some_iff.mp hf
    refine f_cVi mX2_rateOf [.int (x1)] [] dX9_rate_12 cs_RX9_124 ⟨w_450, w_8⟩ (ci := 2) rfl (by decide) sh_1 rfl rfl (Nat.le_of_ble_eq_true rfl) (by omega) (c_X2_rateOf (d := d - 1) (by omega) (x1) q_1.2 q_2 hq_2) ?_
    refine x_goto 19 dX9_rate_15 (by decide) ?_
    exact x_iret dX9_rate_19 rfl (by cases hf; exact hR)
theorem c_X9_rate {E : xE} {d : Nat} (hd : 3 ≤ d) (x1 : Int32) (m : xMem) (out : Int32 × xMem) (h : F_X9_rate x1 m = some out) : xCi E mX9_rate d [.ref (xB E + 0), .int x1] m out.1 out.2 :=
  x_enter (by decide +kernel) (Nat.le_of_ble_eq_true rfl) (pF_X9_rate hd (Q := _) out ⟨rfl, rfl⟩ x1 m h)
-- X10_rateOf
def F_X10_rateOf (x1 : Int32) (m : xMem) : Option (Int32 × xMem) :=
  if xin x1 6 = true then (
  if xin x1 6 = true then (
  if 0 ≤ (((m.1 am_kindYears x1.toNatClampNeg) + (1 : Int32)) - (m.1 am_kindChanges x1.toNatClampNeg)) then (
    if xin x1 6 = true then (
    if (((m.1 am_kindYears x1.toNatClampNeg) + (2 : Int32)).toInt64) = 0 then none else (
    some ((((1000000 : Int64) * ((((m.1 am_kindYears x1.toNatClampNeg) + (1 : Int32)) - (m.1 am_kindChanges x1.toNatClampNeg)).toInt64)) / (((m.1 am_kindYears x1.toNatClampNeg) + (2 : Int32)).toInt64)).toInt32, m)))
    else none)
  else (
    some ((0 : Int32), m)))
  else none)
  else none
set_option maxHeartbeats 4000000 in
set_option maxRecDepth 100000 in
theorem pF_X10_rateOf {E : xE} {d : Nat} {Q : Option Value → xS → Prop} (hd : 1 ≤ d) (out : Int32 × xMem) (hR : Q (some (.int out.1)) (xf E out.2)) (x1 : Int32) (m : xMem) (hf : F_X10_rateOf x1 m = some out) : xX E mX10_rateOf d 0 0 0 0 Q 0 [(0, .ref (xB E + 87)), (1, .int (x1))] [] (xf E m) := by
  unfold F_X10_rateOf at hf
  refine x_aload_n dX10_rateOf_0 rfl ?_
  refine f_getR (b := 109) dX10_rateOf_1 xcl_10 (by decide) fl_RX10_103 (by decide) sh_87 rfl ?_
  refine x_iload_n dX10_rateOf_4 rfl ?_
  have hg_1 := x_gd hf
  replace hf := hg_1.2
  refine f_iald dX10_rateOf_5 (by decide) sh_109 hg_1.1 ?_
  refine x_iconst (v := 1) dX10_rateOf_6 (by decide) ?_
  refine x_iadd dX10_rateOf_7 ?_
  refine x_aload_n dX10_rateOf_8 rfl ?_
  refine f_getR (b := 110) dX10_rateOf_9 xcl_10 (by decide) fl_RX10_106 (by decide) sh_87 rfl ?_
  refine x_iload_n dX10_rateOf_12 rfl ?_
  have hg_2 := x_gd hf
  replace hf := hg_2.2
  refine f_iald dX10_rateOf_13 (by decide) sh_110 hg_2.1 ?_
  refine x_isub dX10_rateOf_14 ?_
  refine x_istore_n (lv' := [(0, .ref (xB E + 87)), (1, .int (x1)), (2, .int (((m.1 am_kindYears x1.toNatClampNeg) + (1 : Int32)) - (m.1 am_kindChanges x1.toNatClampNeg)))]) dX10_rateOf_15 [1, 2, 0] (by decide) rfl ?_
  refine x_iload_n dX10_rateOf_16 rfl ?_
  refine x_if_ge 24 dX10_rateOf_17 (by decide) (fun hc => ?_) (fun hc => ?_)
  · replace hf := x_ift hc hf
    refine x_ldc2 (v := 1000000) dX10_rateOf_24 w_1197 ?_
    refine x_iload_n dX10_rateOf_27 rfl ?_
    refine x_i2l dX10_rateOf_28 ?_
    refine x_lmul dX10_rateOf_29 ?_
    refine x_aload_n dX10_rateOf_30 rfl ?_
    refine f_getR (b := 109) dX10_rateOf_31 xcl_10 (by decide) fl_RX10_103 (by decide) sh_87 rfl ?_
    refine x_iload_n dX10_rateOf_34 rfl ?_
    have hg_3 := x_gd hf
    replace hf := hg_3.2
    refine f_iald dX10_rateOf_35 (by decide) sh_109 hg_3.1 ?_
    refine x_iconst (v := 2) dX10_rateOf_36 (by decide) ?_
    refine x_iadd dX10_rateOf_37 ?_
    refine x_i2l dX10_rateOf_38 ?_
    have hg_4 := x_gp hf
    replace hf := hg_4.2
    refine x_ldiv dX10_rateOf_39 hg_4.1 ?_
    refine x_l2i dX10_rateOf_40 ?_
    exact x_iret dX10_rateOf_41 rfl (by cases hf; exact hR)
  · replace hf := x_iff hc hf
    refine x_iconst (v := 0) dX10_rateOf_20 (by decide) ?_
    refine x_goto 41 dX10_rateOf_21 (by decide) ?_
    exact x_iret dX10_rateOf_41 rfl (by cases hf; exact hR)
theorem c_X10_rateOf {E : xE} {d : Nat} (hd : 1 ≤ d) (x1 : Int32) (m : xMem) (out : Int32 × xMem) (h : F_X10_rateOf x1 m = some out) : xCi E mX10_rateOf d [.ref (xB E + 87), .int x1] m out.1 out.2 :=
  x_enter (by decide +kernel) (Nat.le_of_ble_eq_true rfl) (pF_X10_rateOf hd (Q := _) out ⟨rfl, rfl⟩ x1 m h)
-- X10_rate
def J_X10_rate_14 (m : xMem) : Option (Int32 × xMem) :=
  some ((-1 : Int32), m)
def F_X10_rate (x1 : Int32) (m : xMem) : Option (Int32 × xMem) :=
  if x1 < 0 then (
    J_X10_rate_14 (xst m.1 am fGuideBookModel_thrown (0 : Int32), m.2))
  else (
    if x1 ≤ (5 : Int32) then (
      (F_X10_rateOf (x1) (xst m.1 am fGuideBookModel_thrown (0 : Int32), m.2)).bind fun q_1 => (
      some (q_1.1, q_1.2)))
    else (
      J_X10_rate_14 (xst m.1 am fGuideBookModel_thrown (0 : Int32), m.2)))
set_option maxHeartbeats 4000000 in
set_option maxRecDepth 100000 in
theorem pJ_X10_rate_14 {E : xE} {d : Nat} {Q : Option Value → xS → Prop} (hd : 2 ≤ d) (out : Int32 × xMem) (hR : Q (some (.int out.1)) (xf E out.2)) (m : xMem) (hf : J_X10_rate_14 m = some out) : xX E mX10_rate d 0 0 0 0 Q 14 [] [] (xf E m) := by
  unfold J_X10_rate_14 at hf
  refine x_iconst (v := (-1)) dX10_rate_14 (by decide) ?_
  refine x_goto 23 dX10_rate_15 (by decide) ?_
  exact x_iret dX10_rate_23 rfl (by cases hf; exact hR)
set_option maxHeartbeats 4000000 in
set_option maxRecDepth 100000 in
theorem pF_X10_rate {E : xE} {d : Nat} {Q : Option Value → xS → Prop} (hd : 2 ≤ d) (out : Int32 × xMem) (hR : Q (some (.int out.1)) (xf E out.2)) (x1 : Int32) (m : xMem) (hf : F_X10_rate x1 m = some out) : xX E mX10_rate d 0 0 0 0 Q 0 [(0, .ref (xB E + 87)), (1, .int (x1))] [] (xf E m) := by
  unfold F_X10_rate at hf
  refine x_aload_n dX10_rate_0 rfl ?_
  refine x_iconst (v := 0) dX10_rate_1 (by decide) ?_
  refine f_putI dX10_rate_2 xcl_10 (by decide) fl_RX10_1 rfl rfl (by decide) sh_87 rfl ?_
  refine x_iload_n dX10_rate_5 rfl ?_
  refine x_if_lt 14 dX10_rate_6 (by decide) (fun hc => ?_) (fun hc => ?_)
  · replace hf := x_ift hc hf
    refine x_lv (lv' := []) [] rfl ?_
    exact pJ_X10_rate_14 hd out hR _ hf
  · replace hf := x_iff hc hf
    refine x_iload_n dX10_rate_9 rfl ?_
    refine x_iconst (v := 5) dX10_rate_10 (by decide) ?_
    refine x_icmp_le 18 dX10_rate_11 (by decide) (fun hc => ?_) (fun hc => ?_)
    · replace hf := x_ift hc hf
      refine x_aload_n dX10_rate_18 rfl ?_
      refine x_iload_n dX10_rate_19 rfl ?_
      obtain ⟨q_1, hq_1, hf⟩ := Option.bind_eq_some_iff.mp hf
      refine f_cVi mX10_rateOf [.int (x1)] [] dX10_rate_20 cs_RX10_258 ⟨w_1195, w_72⟩ (ci := 10) rfl (by decide) sh_87 rfl rfl (Nat.le_of_ble_eq_true rfl) (by omega) (c_X10_rateOf (d := d - 1) (by omega) (x1) (xst m.1 am fGuideBookModel_thrown (0 : Int32), m.2) q_1 hq_1) ?_
      exact x_iret dX10_rate_23 rfl (by cases hf; exact hR)
    · replace hf := x_iff hc hf
      refine x_lv (lv' := []) [] rfl ?_
      exact pJ_X10_rate_14 hd out hR _ hf
theorem c_X10_rate {E : xE} {d : Nat} (hd : 2 ≤ d) (x1 : Int32) (m : xMem) (out : Int32 × xMem) (h : F_X10_rate x1 m = some out) : xCi E mX10_rate d [.ref (xB E + 87), .int x1] m out.1 out.2 :=
  x_enter (by decide +kernel) (Nat.le_of_ble_eq_true rfl) (pF_X10_rate hd (Q := _) out ⟨rfl, rfl⟩ x1 m h)
-- X2_chanceOf
def L_X2_chanceOf_25 (l2 : Int64) : Nat → Int64 → Int32 → xMem → Option (Int32 × xMem)
  | 0, _, _, _ => none
  | fk + 1, l4, x6, m =>
    if (m.1 ag_facts fFacts_now) ≤ x6 then (
      some (l4.toInt32, m))
    else (
      L_X2_chanceOf_25 (l2) fk ((l4 * l2) / (1000000 : Int64)) (x6 + 1) m)
def F_X2_chanceOf (x1 : Int32) (m : xMem) : Option (Int32 × xMem) :=
  if xin x1 60 = true then (
  (F_X2_rateOf (m.1 ag_facts_kind x1.toNatClampNeg) m).bind fun q_2 => (
  if xin x1 60 = true then (
  L_X2_chanceOf_25 (q_2.1.toInt64) xfuel ((1000000 : Int64)) (q_2.2.1 ag_facts_year x1.toNatClampNeg) q_2.2)
  else none))
  else none
set_option maxHeartbeats 4000000 in
set_option maxRecDepth 100000 in
theorem pL_X2_chanceOf_25 {E : xE} {d : Nat} {Q : Option Value → xS → Prop} (hd : 3 ≤ d) (out : Int32 × xMem) (hR : Q (some (.int out.1)) (xf E out.2)) (l2 : Int64) : ∀ (fk : Nat) (l4 : Int64) (x6 : Int32) (m : xMem), L_X2_chanceOf_25 l2 fk l4 x6 m = some out → xX E mX2_chanceOf d 0 0 0 0 Q 25 [(0, .ref (xB E + 1)), (2, .long (l2)), (4, .long (l4)), (6, .int (x6))] [] (xf E m) := by
  intro fk
  induction fk with
  | zero => intro l4 x6 m hf; cases hf
  | succ fk ih =>
    intro l4 x6 m hf
    rw [L_X2_chanceOf_25] at hf
    refine x_iload dX2_chanceOf_25 rfl ?_
    refine x_aload_n dX2_chanceOf_27 rfl ?_
    refine f_getI dX2_chanceOf_28 xcl_2 (by decide) fl_RX2_40 (by decide) sh_1 rfl ?_
    refine x_icmp_ge 50 dX2_chanceOf_31 (by decide) (fun hc => ?_) (fun hc => ?_)
    · replace hf := x_ift hc hf
      refine x_lload dX2_chanceOf_50 rfl ?_
      refine x_l2i dX2_chanceOf_52 ?_
      exact x_iret dX2_chanceOf_53 rfl (by cases hf; exact hR)
    · replace hf := x_iff hc hf
      refine x_lload dX2_chanceOf_34 rfl ?_
      refine x_lload_n dX2_chanceOf_36 rfl ?_
      refine x_lmul dX2_chanceOf_37 ?_
      refine x_ldc2 (v := 1000000) dX2_chanceOf_38 w_455 ?_
      refine x_ldiv dX2_chanceOf_41 (by decide) ?_
      refine x_lstore (lv' := [(0, .ref (xB E + 1)), (2, .long (l2)), (4, .long ((l4 * l2) / (1000000 : Int64))), (6, .int (x6))]) dX2_chanceOf_42 [1, 2, 0, 3] (by decide) rfl ?_
      refine x_iinc (v := x6 + 1) (lv' := [(0, .ref (xB E + 1)), (2, .long (l2)), (4, .long ((l4 * l2) / (1000000 : Int64))), (6, .int (x6 + 1))]) dX2_chanceOf_44 3 [1, 2, 3, 0] rfl rfl (by decide) rfl ?_
      refine x_goto 25 dX2_chanceOf_47 (by decide) ?_
      exact ih _ _ _ hf
set_option maxHeartbeats 4000000 in
set_option maxRecDepth 100000 in
theorem pF_X2_chanceOf {E : xE} {d : Nat} {Q : Option Value → xS → Prop} (hd : 3 ≤ d) (out : Int32 × xMem) (hR : Q (some (.int out.1)) (xf E out.2)) (x1 : Int32) (m : xMem) (hf : F_X2_chanceOf x1 m = some out) : xX E mX2_chanceOf d 0 0 0 0 Q 0 [(0, .ref (xB E + 1)), (1, .int (x1))] [] (xf E m) := by
  unfold F_X2_chanceOf at hf
  refine x_aload_n dX2_chanceOf_0 rfl ?_
  refine x_aload_n dX2_chanceOf_1 rfl ?_
  refine f_getR (b := 2) dX2_chanceOf_2 xcl_2 (by decide) fl_RX2_9 (by decide) sh_1 rfl ?_
  refine x_iload_n dX2_chanceOf_5 rfl ?_
  have hg_1 := x_gd hf
  replace hf := hg_1.2
  refine f_iald dX2_chanceOf_6 (by decide) sh_2 hg_1.1 ?_
  obtain ⟨q_2, hq_2, hf⟩ := Option.bind_eq_some_iff.mp hf
  refine f_cVi mX2_rateOf [.int (m.1 ag_facts_kind x1.toNatClampNeg)] [] dX2_chanceOf_7 cs_RX2_55 ⟨w_450, w_8⟩ (ci := 2) rfl (by decide) sh_1 rfl rfl (Nat.le_of_ble_eq_true rfl) (by omega) (c_X2_rateOf (d := d - 1) (by omega) (m.1 ag_facts_kind x1.toNatClampNeg) m q_2 hq_2) ?_
  refine x_i2l dX2_chanceOf_10 ?_
  refine x_lstore_n (lv' := [(0, .ref (xB E + 1)), (1, .int (x1)), (2, .long (q_2.1.toInt64))]) dX2_chanceOf_11 [1, 2, 0] (by decide) rfl ?_
  refine x_ldc2 (v := 1000000) dX2_chanceOf_12 w_455 ?_
  refine x_lstore (lv' := [(0, .ref (xB E + 1)), (1, .int (x1)), (2, .long (q_2.1.toInt64)), (4, .long ((1000000 : Int64)))]) dX2_chanceOf_15 [1, 2, 3, 0] (by decide) rfl ?_
  refine x_aload_n dX2_chanceOf_17 rfl ?_
  refine f_getR (b := 5) dX2_chanceOf_18 xcl_2 (by decide) fl_RX2_21 (by decide) sh_1 rfl ?_
  refine x_iload_n dX2_chanceOf_21 rfl ?_
  have hg_3 := x_gd hf
  replace hf := hg_3.2
  refine f_iald dX2_chanceOf_22 (by decide) sh_5 hg_3.1 ?_
  refine x_istore (lv' := [(0, .ref (xB E + 1)), (2, .long (q_2.1.toInt64)), (4, .long ((1000000 : Int64))), (6, .int (q_2.2.1 ag_facts_year x1.toNatClampNeg))]) dX2_chanceOf_23 [1, 3, 4, 0] (by decide) rfl ?_
  refine pL_X2_chanceOf_25 hd out hR _ xfuel _ _ _ hf
theorem c_X2_chanceOf {E : xE} {d : Nat} (hd : 3 ≤ d) (x1 : Int32) (m : xMem) (out : Int32 × xMem) (h : F_X2_chanceOf x1 m = some out) : xCi E mX2_chanceOf d [.ref (xB E + 1), .int x1] m out.1 out.2 :=
  x_enter (by decide +kernel) (Nat.le_of_ble_eq_true rfl) (pF_X2_chanceOf hd (Q := _) out ⟨rfl, rfl⟩ x1 m h)
-- X9_chance
def F_X9_chance (x1 : Int32) (m : xMem) : Option (Int32 × xMem) :=
  (F_X2_has (x1) m).bind fun q_1 => (
  if q_1.1 = 0 then (
    some ((-1 : Int32), q_1.2))
  else (
    (F_X2_chanceOf (x1) q_1.2).bind fun q_2 => (
    some (q_2.1, q_2.2))))
set_option maxHeartbeats 4000000 in
set_option maxRecDepth 100000 in
theorem pF_X9_chance {E : xE} {d : Nat} {Q : Option Value → xS → Prop} (hd : 4 ≤ d) (out : Int32 × xMem) (hR : Q (some (.int out.1)) (xf E out.2)) (x1 : Int32) (m : xMem) (hf : F_X9_chance x1 m = some out) : xX E mX9_chance d 0 0 0 0 Q 0 [(0, .ref (xB E + 0)), (1, .int (x1))] [] (xf E m) := by
  unfold F_X9_chance at hf
  refine x_aload_n dX9_chance_0 rfl ?_
  refine f_getR (b := 1) dX9_chance_1 xcl_9 (by decide) fl_RX9_12 (by decide) sh_0 rfl ?_
  refine x_iload_n dX9_chance_4 rfl ?_
  obtain ⟨q_1, hq_1, hf⟩ := Option.bind_eq_some_iff.mp hf
  refine f_cVi mX2_has [.int (x1)] [] dX9_chance_5 cs_RX9_107 ⟨w_414, w_1⟩ (ci := 2) rfl (by decide) sh_1 rfl rfl (Nat.le_of_ble_eq_true rfl) (by omega) (c_X2_has (d := d - 1) (by omega) (x1) m q_1 hq_1) ?_
  refine x_if_eq 22 dX9_chance_8 (by decide) (fun hc => ?_) (fun hc => ?_)
  · replace hf := x_ift hc hf
    refine x_iconst (v := (-1)) dX9_chance_22 (by decide) ?_
    exact x_iret dX9_chance_23 rfl (by cases hf; exact hR)
  · replace hf := x_iff hc hf
    refine x_aload_n dX9_chance_11 rfl ?_
    refine f_getR (b := 1) dX9_chance_12 xcl_9 (by decide) fl_RX9_12 (by decide) sh_0 rfl ?_
    refine x_iload_n dX9_chance_15 rfl ?_
    obtain ⟨q_2, hq_2, hf⟩ := Option.bind_eq_some_iff.mp hf
    refine f_cVi mX2_chanceOf [.int (x1)] [] dX9_chance_16 cs_RX9_128 ⟨w_465, w_9⟩ (ci := 2) rfl (by decide) sh_1 rfl rfl (Nat.le_of_ble_eq_true rfl) (by omega) (c_X2_chanceOf (d := d - 1) (by omega) (x1) q_1.2 q_2 hq_2) ?_
    refine x_goto 23 dX9_chance_19 (by decide) ?_
    exact x_iret dX9_chance_23 rfl (by cases hf; exact hR)
theorem c_X9_chance {E : xE} {d : Nat} (hd : 4 ≤ d) (x1 : Int32) (m : xMem) (out : Int32 × xMem) (h : F_X9_chance x1 m = some out) : xCi E mX9_chance d [.ref (xB E + 0), .int x1] m out.1 out.2 :=
  x_enter (by decide +kernel) (Nat.le_of_ble_eq_true rfl) (pF_X9_chance hd (Q := _) out ⟨rfl, rfl⟩ x1 m h)
-- X10_chanceOf
def L_X10_chanceOf_12 (x1 : Int32) : Nat → Int64 → Int32 → xMem → Option (Int32 × xMem)
  | 0, _, _, _ => none
  | fk + 1, l2, x4, m =>
    if (m.1 am fGuideBookModel_now) ≤ x4 then (
      some (l2.toInt32, m))
    else (
      if xin x1 60 = true then (
      (F_X10_rateOf (m.1 am_kindOf x1.toNatClampNeg) m).bind fun q_3 => (
      L_X10_chanceOf_12 (x1) fk ((l2 * q_3.1.toInt64) / (1000000 : Int64)) (x4 + 1) q_3.2))
      else none)
def F_X10_chanceOf (x1 : Int32) (m : xMem) : Option (Int32 × xMem) :=
  if xin x1 60 = true then (
  L_X10_chanceOf_12 (x1) xfuel ((1000000 : Int64)) (m.1 am_checkedOn x1.toNatClampNeg) m)
  else none
set_option maxHeartbeats 4000000 in
set_option maxRecDepth 100000 in
theorem pL_X10_chanceOf_12 {E : xE} {d : Nat} {Q : Option Value → xS → Prop} (hd : 2 ≤ d) (out : Int32 × xMem) (hR : Q (some (.int out.1)) (xf E out.2)) (x1 : Int32) : ∀ (fk : Nat) (l2 : Int64) (x4 : Int32) (m : xMem), L_X10_chanceOf_12 x1 fk l2 x4 m = some out → xX E mX10_chanceOf d 0 0 0 0 Q 12 [(0, .ref (xB E + 87)), (1, .int (x1)), (2, .long (l2)), (4, .int (x4))] [] (xf E m) := by
  intro fk
  induction fk with
  | zero => intro l2 x4 m hf; cases hf
  | succ fk ih =>
    intro l2 x4 m hf
    rw [L_X10_chanceOf_12] at hf
    refine x_iload dX10_chanceOf_12 rfl ?_
    refine x_aload_n dX10_chanceOf_14 rfl ?_
    refine f_getI dX10_chanceOf_15 xcl_10 (by decide) fl_RX10_241 (by decide) sh_87 rfl ?_
    refine x_icmp_ge 45 dX10_chanceOf_18 (by decide) (fun hc => ?_) (fun hc => ?_)
    · replace hf := x_ift hc hf
      refine x_lload_n dX10_chanceOf_45 rfl ?_
      refine x_l2i dX10_chanceOf_46 ?_
      exact x_iret dX10_chanceOf_47 rfl (by cases hf; exact hR)
    · replace hf := x_iff hc hf
      refine x_lload_n dX10_chanceOf_21 rfl ?_
      refine x_aload_n dX10_chanceOf_22 rfl ?_
      refine x_aload_n dX10_chanceOf_23 rfl ?_
      refine f_getR (b := 103) dX10_chanceOf_24 xcl_10 (by decide) fl_RX10_85 (by decide) sh_87 rfl ?_
      refine x_iload_n dX10_chanceOf_27 rfl ?_
      have hg_2 := x_gd hf
      replace hf := hg_2.2
      refine f_iald dX10_chanceOf_28 (by decide) sh_103 hg_2.1 ?_
      obtain ⟨q_3, hq_3, hf⟩ := Option.bind_eq_some_iff.mp hf
      refine f_cVi mX10_rateOf [.int (m.1 am_kindOf x1.toNatClampNeg)] [.long (l2)] dX10_chanceOf_29 cs_RX10_258 ⟨w_1195, w_72⟩ (ci := 10) rfl (by decide) sh_87 rfl rfl (Nat.le_of_ble_eq_true rfl) (by omega) (c_X10_rateOf (d := d - 1) (by omega) (m.1 am_kindOf x1.toNatClampNeg) m q_3 hq_3) ?_
      refine x_i2l dX10_chanceOf_32 ?_
      refine x_lmul dX10_chanceOf_33 ?_
      refine x_ldc2 (v := 1000000) dX10_chanceOf_34 w_1197 ?_
      refine x_ldiv dX10_chanceOf_37 (by decide) ?_
      refine x_lstore_n (lv' := [(0, .ref (xB E + 87)), (1, .int (x1)), (2, .long ((l2 * q_3.1.toInt64) / (1000000 : Int64))), (4, .int (x4))]) dX10_chanceOf_38 [1, 2, 0, 3] (by decide) rfl ?_
      refine x_iinc (v := x4 + 1) (lv' := [(0, .ref (xB E + 87)), (1, .int (x1)), (2, .long ((l2 * q_3.1.toInt64) / (1000000 : Int64))), (4, .int (x4 + 1))]) dX10_chanceOf_39 3 [1, 2, 3, 0] rfl rfl (by decide) rfl ?_
      refine x_goto 12 dX10_chanceOf_42 (by decide) ?_
      exact ih _ _ _ hf
set_option maxHeartbeats 4000000 in
set_option maxRecDepth 100000 in
theorem pF_X10_chanceOf {E : xE} {d : Nat} {Q : Option Value → xS → Prop} (hd : 2 ≤ d) (out : Int32 × xMem) (hR : Q (some (.int out.1)) (xf E out.2)) (x1 : Int32) (m : xMem) (hf : F_X10_chanceOf x1 m = some out) : xX E mX10_chanceOf d 0 0 0 0 Q 0 [(0, .ref (xB E + 87)), (1, .int (x1))] [] (xf E m) := by
  unfold F_X10_chanceOf at hf
  refine x_ldc2 (v := 1000000) dX10_chanceOf_0 w_1197 ?_
  refine x_lstore_n (lv' := [(0, .ref (xB E + 87)), (1, .int (x1)), (2, .long ((1000000 : Int64)))]) dX10_chanceOf_3 [1, 2, 0] (by decide) rfl ?_
  refine x_aload_n dX10_chanceOf_4 rfl ?_
  refine f_getR (b := 106) dX10_chanceOf_5 xcl_10 (by decide) fl_RX10_94 (by decide) sh_87 rfl ?_
  refine x_iload_n dX10_chanceOf_8 rfl ?_
  have hg_1 := x_gd hf
  replace hf := hg_1.2
  refine f_iald dX10_chanceOf_9 (by decide) sh_106 hg_1.1 ?_
  refine x_istore (lv' := [(0, .ref (xB E + 87)), (1, .int (x1)), (2, .long ((1000000 : Int64))), (4, .int (m.1 am_checkedOn x1.toNatClampNeg))]) dX10_chanceOf_10 [1, 2, 3, 0] (by decide) rfl ?_
  refine pL_X10_chanceOf_12 hd out hR _ xfuel _ _ _ hf
theorem c_X10_chanceOf {E : xE} {d : Nat} (hd : 2 ≤ d) (x1 : Int32) (m : xMem) (out : Int32 × xMem) (h : F_X10_chanceOf x1 m = some out) : xCi E mX10_chanceOf d [.ref (xB E + 87), .int x1] m out.1 out.2 :=
  x_enter (by decide +kernel) (Nat.le_of_ble_eq_true rfl) (pF_X10_chanceOf hd (Q := _) out ⟨rfl, rfl⟩ x1 m h)
-- X10_chance
def F_X10_chance (x1 : Int32) (m : xMem) : Option (Int32 × xMem) :=
  (F_X10_isFact (x1) (xst m.1 am fGuideBookModel_thrown (0 : Int32), m.2)).bind fun q_1 => (
  if q_1.1 = 0 then (
    some ((-1 : Int32), q_1.2))
  else (
    (F_X10_chanceOf (x1) q_1.2).bind fun q_2 => (
    some (q_2.1, q_2.2))))
set_option maxHeartbeats 4000000 in
set_option maxRecDepth 100000 in
theorem pF_X10_chance {E : xE} {d : Nat} {Q : Option Value → xS → Prop} (hd : 3 ≤ d) (out : Int32 × xMem) (hR : Q (some (.int out.1)) (xf E out.2)) (x1 : Int32) (m : xMem) (hf : F_X10_chance x1 m = some out) : xX E mX10_chance d 0 0 0 0 Q 0 [(0, .ref (xB E + 87)), (1, .int (x1))] [] (xf E m) := by
  unfold F_X10_chance at hf
  refine x_aload_n dX10_chance_0 rfl ?_
  refine x_iconst (v := 0) dX10_chance_1 (by decide) ?_
  refine f_putI dX10_chance_2 xcl_10 (by decide) fl_RX10_1 rfl rfl (by decide) sh_87 rfl ?_
  refine x_aload_n dX10_chance_5 rfl ?_
  refine x_iload_n dX10_chance_6 rfl ?_
  obtain ⟨q_1, hq_1, hf⟩ := Option.bind_eq_some_iff.mp hf
  refine f_cVi mX10_isFact [.int (x1)] [] dX10_chance_7 cs_RX10_253 ⟨w_1187, w_71⟩ (ci := 10) rfl (by decide) sh_87 rfl rfl (Nat.le_of_ble_eq_true rfl) (by omega) (c_X10_isFact (d := d - 1) (by omega) (x1) (xst m.1 am fGuideBookModel_thrown (0 : Int32), m.2) q_1 hq_1) ?_
  refine x_if_eq 21 dX10_chance_10 (by decide) (fun hc => ?_) (fun hc => ?_)
  · replace hf := x_ift hc hf
    refine x_iconst (v := (-1)) dX10_chance_21 (by decide) ?_
    exact x_iret dX10_chance_22 rfl (by cases hf; exact hR)
  · replace hf := x_iff hc hf
    refine x_aload_n dX10_chance_13 rfl ?_
    refine x_iload_n dX10_chance_14 rfl ?_
    obtain ⟨q_2, hq_2, hf⟩ := Option.bind_eq_some_iff.mp hf
    refine f_cVi mX10_chanceOf [.int (x1)] [] dX10_chance_15 cs_RX10_261 ⟨w_1204, w_73⟩ (ci := 10) rfl (by decide) sh_87 rfl rfl (Nat.le_of_ble_eq_true rfl) (by omega) (c_X10_chanceOf (d := d - 1) (by omega) (x1) q_1.2 q_2 hq_2) ?_
    refine x_goto 22 dX10_chance_18 (by decide) ?_
    exact x_iret dX10_chance_22 rfl (by cases hf; exact hR)
theorem c_X10_chance {E : xE} {d : Nat} (hd : 3 ≤ d) (x1 : Int32) (m : xMem) (out : Int32 × xMem) (h : F_X10_chance x1 m = some out) : xCi E mX10_chance d [.ref (xB E + 87), .int x1] m out.1 out.2 :=
  x_enter (by decide +kernel) (Nat.le_of_ble_eq_true rfl) (pF_X10_chance hd (Q := _) out ⟨rfl, rfl⟩ x1 m h)
-- X9_takes
def F_X9_takes (x1 : Int32) (x2 : Int32) (m : xMem) : Option (Int32 × xMem) :=
  (F_X9_isPlace (x1) m).bind fun q_1 => (
  if q_1.1 = 0 then (
    some ((0 : Int32), q_1.2))
  else (
    if x2 < (1 : Int32) then (
      some ((0 : Int32), q_1.2))
    else (
      if x2 ≤ (20 : Int32) then (
        if xin x1 10 = true then (
        some ((1 : Int32), (xst q_1.2.1 ag_daysOf x1.toNatClampNeg x2, q_1.2.2)))
        else none)
      else (
        some ((0 : Int32), q_1.2)))))
set_option maxHeartbeats 4000000 in
set_option maxRecDepth 100000 in
theorem pF_X9_takes {E : xE} {d : Nat} {Q : Option Value → xS → Prop} (hd : 3 ≤ d) (out : Int32 × xMem) (hR : Q (some (.int out.1)) (xf E out.2)) (x1 : Int32) (x2 : Int32) (m : xMem) (hf : F_X9_takes x1 x2 m = some out) : xX E mX9_takes d 0 0 0 0 Q 0 [(0, .ref (xB E + 0)), (1, .int (x1)), (2, .int (x2))] [] (xf E m) := by
  unfold F_X9_takes at hf
  refine x_iload_n dX9_takes_0 rfl ?_
  obtain ⟨q_1, hq_1, hf⟩ := Option.bind_eq_some_iff.mp hf
  refine f_cSi mX9_isPlace [.int (x1)] [] dX9_takes_1 cs_RX9_94 w_399 rfl rfl (Nat.le_of_ble_eq_true rfl) (by omega) (c_X9_isPlace (d := d - 1) (by omega) (x1) m q_1 hq_1) ?_
  refine x_if_eq 18 dX9_takes_4 (by decide) (fun hc => ?_) (fun hc => ?_)
  · replace hf := x_ift hc hf
    refine x_iconst (v := 0) dX9_takes_18 (by decide) ?_
    exact x_zret dX9_takes_19 rfl (by decide) (by cases hf; exact hR)
  · replace hf := x_iff hc hf
    refine x_iload_n dX9_takes_7 rfl ?_
    refine x_iconst (v := 1) dX9_takes_8 (by decide) ?_
    refine x_icmp_lt 18 dX9_takes_9 (by decide) (fun hc => ?_) (fun hc => ?_)
    · replace hf := x_ift hc hf
      refine x_iconst (v := 0) dX9_takes_18 (by decide) ?_
      exact x_zret dX9_takes_19 rfl (by decide) (by cases hf; exact hR)
    · replace hf := x_iff hc hf
      refine x_iload_n dX9_takes_12 rfl ?_
      refine x_bipush (v := 20) dX9_takes_13 (by decide) ?_
      refine x_icmp_le 20 dX9_takes_15 (by decide) (fun hc => ?_) (fun hc => ?_)
      · replace hf := x_ift hc hf
        refine x_aload_n dX9_takes_20 rfl ?_
        refine f_getR (b := 84) dX9_takes_21 xcl_9 (by decide) fl_RX9_65 (by decide) sh_0 rfl ?_
        refine x_iload_n dX9_takes_24 rfl ?_
        refine x_iload_n dX9_takes_25 rfl ?_
        have hg_2 := x_gd hf
        replace hf := hg_2.2
        refine f_iast dX9_takes_26 (by decide) sh_84 hg_2.1 ?_
        refine x_iconst (v := 1) dX9_takes_27 (by decide) ?_
        exact x_zret dX9_takes_28 rfl (by decide) (by cases hf; exact hR)
      · replace hf := x_iff hc hf
        refine x_iconst (v := 0) dX9_takes_18 (by decide) ?_
        exact x_zret dX9_takes_19 rfl (by decide) (by cases hf; exact hR)
theorem c_X9_takes {E : xE} {d : Nat} (hd : 3 ≤ d) (x1 : Int32) (x2 : Int32) (m : xMem) (out : Int32 × xMem) (h : F_X9_takes x1 x2 m = some out) : xCi E mX9_takes d [.ref (xB E + 0), .int x1, .int x2] m out.1 out.2 :=
  x_enter (by decide +kernel) (Nat.le_of_ble_eq_true rfl) (pF_X9_takes hd (Q := _) out ⟨rfl, rfl⟩ x1 x2 m h)
-- X10_takes
def F_X10_takes (x1 : Int32) (x2 : Int32) (m : xMem) : Option (Int32 × xMem) :=
  (F_X10_isPlace (x1) (xst m.1 am fGuideBookModel_thrown (0 : Int32), m.2)).bind fun q_1 => (
  if q_1.1 = 0 then (
    some ((0 : Int32), q_1.2))
  else (
    if x2 < (1 : Int32) then (
      some ((0 : Int32), q_1.2))
    else (
      if x2 ≤ (20 : Int32) then (
        if xin x1 10 = true then (
        some ((1 : Int32), (xst q_1.2.1 am_takes x1.toNatClampNeg x2, q_1.2.2)))
        else none)
      else (
        some ((0 : Int32), q_1.2)))))
set_option maxHeartbeats 4000000 in
set_option maxRecDepth 100000 in
theorem pF_X10_takes {E : xE} {d : Nat} {Q : Option Value → xS → Prop} (hd : 2 ≤ d) (out : Int32 × xMem) (hR : Q (some (.int out.1)) (xf E out.2)) (x1 : Int32) (x2 : Int32) (m : xMem) (hf : F_X10_takes x1 x2 m = some out) : xX E mX10_takes d 0 0 0 0 Q 0 [(0, .ref (xB E + 87)), (1, .int (x1)), (2, .int (x2))] [] (xf E m) := by
  unfold F_X10_takes at hf
  refine x_aload_n dX10_takes_0 rfl ?_
  refine x_iconst (v := 0) dX10_takes_1 (by decide) ?_
  refine f_putI dX10_takes_2 xcl_10 (by decide) fl_RX10_1 rfl rfl (by decide) sh_87 rfl ?_
  refine x_iload_n dX10_takes_5 rfl ?_
  obtain ⟨q_1, hq_1, hf⟩ := Option.bind_eq_some_iff.mp hf
  refine f_cSi mX10_isPlace [.int (x1)] [] dX10_takes_6 cs_RX10_244 w_1176 rfl rfl (Nat.le_of_ble_eq_true rfl) (by omega) (c_X10_isPlace (d := d - 1) (by omega) (x1) (xst m.1 am fGuideBookModel_thrown (0 : Int32), m.2) q_1 hq_1) ?_
  refine x_if_eq 23 dX10_takes_9 (by decide) (fun hc => ?_) (fun hc => ?_)
  · replace hf := x_ift hc hf
    refine x_iconst (v := 0) dX10_takes_23 (by decide) ?_
    exact x_zret dX10_takes_24 rfl (by decide) (by cases hf; exact hR)
  · replace hf := x_iff hc hf
    refine x_iload_n dX10_takes_12 rfl ?_
    refine x_iconst (v := 1) dX10_takes_13 (by decide) ?_
    refine x_icmp_lt 23 dX10_takes_14 (by decide) (fun hc => ?_) (fun hc => ?_)
    · replace hf := x_ift hc hf
      refine x_iconst (v := 0) dX10_takes_23 (by decide) ?_
      exact x_zret dX10_takes_24 rfl (by decide) (by cases hf; exact hR)
    · replace hf := x_iff hc hf
      refine x_iload_n dX10_takes_17 rfl ?_
      refine x_bipush (v := 20) dX10_takes_18 (by decide) ?_
      refine x_icmp_le 25 dX10_takes_20 (by decide) (fun hc => ?_) (fun hc => ?_)
      · replace hf := x_ift hc hf
        refine x_aload_n dX10_takes_25 rfl ?_
        refine f_getR (b := 111) dX10_takes_26 xcl_10 (by decide) fl_RX10_109 (by decide) sh_87 rfl ?_
        refine x_iload_n dX10_takes_29 rfl ?_
        refine x_iload_n dX10_takes_30 rfl ?_
        have hg_2 := x_gd hf
        replace hf := hg_2.2
        refine f_iast dX10_takes_31 (by decide) sh_111 hg_2.1 ?_
        refine x_iconst (v := 1) dX10_takes_32 (by decide) ?_
        exact x_zret dX10_takes_33 rfl (by decide) (by cases hf; exact hR)
      · replace hf := x_iff hc hf
        refine x_iconst (v := 0) dX10_takes_23 (by decide) ?_
        exact x_zret dX10_takes_24 rfl (by decide) (by cases hf; exact hR)
theorem c_X10_takes {E : xE} {d : Nat} (hd : 2 ≤ d) (x1 : Int32) (x2 : Int32) (m : xMem) (out : Int32 × xMem) (h : F_X10_takes x1 x2 m = some out) : xCi E mX10_takes d [.ref (xB E + 87), .int x1, .int x2] m out.1 out.2 :=
  x_enter (by decide +kernel) (Nat.le_of_ble_eq_true rfl) (pF_X10_takes hd (Q := _) out ⟨rfl, rfl⟩ x1 x2 m h)
-- J7_fill_d0a16
def L_J7_fill_d0a16_6 (l1 : Int64) (x4 : Int32) : Nat → Int32 → xMem → Option (Int32 × xMem)
  | 0, _, _ => none
  | fk + 1, x3, m =>
    if x4 ≤ x3 then (
      some (0, m))
    else (
      if xin x3 100 = true then (
      L_J7_fill_d0a16_6 (l1) (x4) fk (x3 + 1) (m.1, xsl m.2 ag_bag_best x3.toNatClampNeg l1))
      else none)
def F_J7_fill_d0a16 (l1 : Int64) (m : xMem) : Option (Int32 × xMem) :=
  L_J7_fill_d0a16_6 (l1) ((100 : Int32)) xfuel ((0 : Int32)) m
set_option maxHeartbeats 4000000 in
set_option maxRecDepth 100000 in
theorem pL_J7_fill_d0a16_6 {E : xE} {d : Nat} {Q : Option Value → xS → Prop} (hd : 1 ≤ d) (out : Int32 × xMem) (hR : Q none (xf E out.2)) (l1 : Int64) (x4 : Int32) : ∀ (fk : Nat) (x3 : Int32) (m : xMem), L_J7_fill_d0a16_6 l1 x4 fk x3 m = some out → xX E mJ7_fill_d0a16 d 0 0 0 0 Q 6 [(0, .ref (xB E + 82)), (1, .long (l1)), (3, .int (x3)), (4, .int (x4))] [] (xf E m) := by
  intro fk
  induction fk with
  | zero => intro x3 m hf; cases hf
  | succ fk ih =>
    intro x3 m hf
    rw [L_J7_fill_d0a16_6] at hf
    refine x_iload_n dJ7_fill_d0a16_6 rfl ?_
    refine x_iload dJ7_fill_d0a16_7 rfl ?_
    refine x_icmp_ge 22 dJ7_fill_d0a16_9 (by decide) (fun hc => ?_) (fun hc => ?_)
    · replace hf := x_ift hc hf
      exact x_vret dJ7_fill_d0a16_22 rfl (by cases hf; exact hR)
    · replace hf := x_iff hc hf
      refine x_aload_n dJ7_fill_d0a16_12 rfl ?_
      refine x_iload_n dJ7_fill_d0a16_13 rfl ?_
      refine x_lload_n dJ7_fill_d0a16_14 rfl ?_
      have hg_1 := x_gd hf
      replace hf := hg_1.2
      refine f_last dJ7_fill_d0a16_15 (by decide) sh_82 hg_1.1 ?_
      refine x_iinc (v := x3 + 1) (lv' := [(0, .ref (xB E + 82)), (1, .long (l1)), (3, .int (x3 + 1)), (4, .int (x4))]) dJ7_fill_d0a16_16 2 [1, 2, 0, 3] rfl rfl (by decide) rfl ?_
      refine x_goto 6 dJ7_fill_d0a16_19 (by decide) ?_
      exact ih _ _ hf
set_option maxHeartbeats 4000000 in
set_option maxRecDepth 100000 in
theorem pF_J7_fill_d0a16 {E : xE} {d : Nat} {Q : Option Value → xS → Prop} (hd : 1 ≤ d) (out : Int32 × xMem) (hR : Q none (xf E out.2)) (l1 : Int64) (m : xMem) (hf : F_J7_fill_d0a16 l1 m = some out) : xX E mJ7_fill_d0a16 d 0 0 0 0 Q 0 [(0, .ref (xB E + 82)), (1, .long (l1))] [] (xf E m) := by
  unfold F_J7_fill_d0a16 at hf
  refine x_iconst (v := 0) dJ7_fill_d0a16_0 (by decide) ?_
  refine x_istore_n (lv' := [(0, .ref (xB E + 82)), (1, .long (l1)), (3, .int ((0 : Int32)))]) dJ7_fill_d0a16_1 [1, 2, 0] (by decide) rfl ?_
  refine x_aload_n dJ7_fill_d0a16_2 rfl ?_
  refine f_alen (v := 100) dJ7_fill_d0a16_3 (by decide) sh_82 rfl (by decide) (by decide) ?_
  refine x_istore (lv' := [(0, .ref (xB E + 82)), (1, .long (l1)), (3, .int ((0 : Int32))), (4, .int ((100 : Int32)))]) dJ7_fill_d0a16_4 [1, 2, 3, 0] (by decide) rfl ?_
  refine pL_J7_fill_d0a16_6 hd out hR _ _ xfuel _ _ hf
theorem c_J7_fill_d0a16 {E : xE} {d : Nat} (hd : 1 ≤ d) (l1 : Int64) (m : xMem) (out : Int32 × xMem) (h : F_J7_fill_d0a16 l1 m = some out) : xCv E mJ7_fill_d0a16 d [.ref (xB E + 82), .long l1] m out.2 :=
  x_enterF (by decide +kernel) (Nat.le_of_ble_eq_true rfl) (pF_J7_fill_d0a16 hd (Q := _) out ⟨rfl, rfl⟩ l1 m h)
-- J7_fill_d0a16_i1
def L_J7_fill_d0a16_i1_6 (l1 : Int64) (x4 : Int32) : Nat → Int32 → xMem → Option (Int32 × xMem)
  | 0, _, _ => none
  | fk + 1, x3, m =>
    if x4 ≤ x3 then (
      some (0, m))
    else (
      if xin x3 100 = true then (
      L_J7_fill_d0a16_i1_6 (l1) (x4) fk (x3 + 1) (m.1, xsl m.2 ag_bag_things x3.toNatClampNeg l1))
      else none)
def F_J7_fill_d0a16_i1 (l1 : Int64) (m : xMem) : Option (Int32 × xMem) :=
  L_J7_fill_d0a16_i1_6 (l1) ((100 : Int32)) xfuel ((0 : Int32)) m
set_option maxHeartbeats 4000000 in
set_option maxRecDepth 100000 in
theorem pL_J7_fill_d0a16_i1_6 {E : xE} {d : Nat} {Q : Option Value → xS → Prop} (hd : 1 ≤ d) (out : Int32 × xMem) (hR : Q none (xf E out.2)) (l1 : Int64) (x4 : Int32) : ∀ (fk : Nat) (x3 : Int32) (m : xMem), L_J7_fill_d0a16_i1_6 l1 x4 fk x3 m = some out → xX E mJ7_fill_d0a16 d 0 0 0 0 Q 6 [(0, .ref (xB E + 83)), (1, .long (l1)), (3, .int (x3)), (4, .int (x4))] [] (xf E m) := by
  intro fk
  induction fk with
  | zero => intro x3 m hf; cases hf
  | succ fk ih =>
    intro x3 m hf
    rw [L_J7_fill_d0a16_i1_6] at hf
    refine x_iload_n dJ7_fill_d0a16_6 rfl ?_
    refine x_iload dJ7_fill_d0a16_7 rfl ?_
    refine x_icmp_ge 22 dJ7_fill_d0a16_9 (by decide) (fun hc => ?_) (fun hc => ?_)
    · replace hf := x_ift hc hf
      exact x_vret dJ7_fill_d0a16_22 rfl (by cases hf; exact hR)
    · replace hf := x_iff hc hf
      refine x_aload_n dJ7_fill_d0a16_12 rfl ?_
      refine x_iload_n dJ7_fill_d0a16_13 rfl ?_
      refine x_lload_n dJ7_fill_d0a16_14 rfl ?_
      have hg_1 := x_gd hf
      replace hf := hg_1.2
      refine f_last dJ7_fill_d0a16_15 (by decide) sh_83 hg_1.1 ?_
      refine x_iinc (v := x3 + 1) (lv' := [(0, .ref (xB E + 83)), (1, .long (l1)), (3, .int (x3 + 1)), (4, .int (x4))]) dJ7_fill_d0a16_16 2 [1, 2, 0, 3] rfl rfl (by decide) rfl ?_
      refine x_goto 6 dJ7_fill_d0a16_19 (by decide) ?_
      exact ih _ _ hf
set_option maxHeartbeats 4000000 in
set_option maxRecDepth 100000 in
theorem pF_J7_fill_d0a16_i1 {E : xE} {d : Nat} {Q : Option Value → xS → Prop} (hd : 1 ≤ d) (out : Int32 × xMem) (hR : Q none (xf E out.2)) (l1 : Int64) (m : xMem) (hf : F_J7_fill_d0a16_i1 l1 m = some out) : xX E mJ7_fill_d0a16 d 0 0 0 0 Q 0 [(0, .ref (xB E + 83)), (1, .long (l1))] [] (xf E m) := by
  unfold F_J7_fill_d0a16_i1 at hf
  refine x_iconst (v := 0) dJ7_fill_d0a16_0 (by decide) ?_
  refine x_istore_n (lv' := [(0, .ref (xB E + 83)), (1, .long (l1)), (3, .int ((0 : Int32)))]) dJ7_fill_d0a16_1 [1, 2, 0] (by decide) rfl ?_
  refine x_aload_n dJ7_fill_d0a16_2 rfl ?_
  refine f_alen (v := 100) dJ7_fill_d0a16_3 (by decide) sh_83 rfl (by decide) (by decide) ?_
  refine x_istore (lv' := [(0, .ref (xB E + 83)), (1, .long (l1)), (3, .int ((0 : Int32))), (4, .int ((100 : Int32)))]) dJ7_fill_d0a16_4 [1, 2, 3, 0] (by decide) rfl ?_
  refine pL_J7_fill_d0a16_i1_6 hd out hR _ _ xfuel _ _ hf
theorem c_J7_fill_d0a16_i1 {E : xE} {d : Nat} (hd : 1 ≤ d) (l1 : Int64) (m : xMem) (out : Int32 × xMem) (h : F_J7_fill_d0a16_i1 l1 m = some out) : xCv E mJ7_fill_d0a16 d [.ref (xB E + 83), .long l1] m out.2 :=
  x_enterF (by decide +kernel) (Nat.le_of_ble_eq_true rfl) (pF_J7_fill_d0a16_i1 hd (Q := _) out ⟨rfl, rfl⟩ l1 m h)
-- X0_open
def F_X0_open (x1 : Int32) (m : xMem) : Option (Int32 × xMem) :=
  (F_J7_fill_d0a16 ((0 : Int64)) (xst m.1 ag_bag fBag_room x1, m.2)).bind fun q_1 => (
  (F_J7_fill_d0a16_i1 ((0 : Int64)) q_1.2).bind fun q_2 => (
  some (0, q_2.2)))
set_option maxHeartbeats 4000000 in
set_option maxRecDepth 100000 in
theorem pF_X0_open {E : xE} {d : Nat} {Q : Option Value → xS → Prop} (hd : 2 ≤ d) (out : Int32 × xMem) (hR : Q none (xf E out.2)) (x1 : Int32) (m : xMem) (hf : F_X0_open x1 m = some out) : xX E mX0_open d 0 0 0 0 Q 0 [(0, .ref (xB E + 81)), (1, .int (x1))] [] (xf E m) := by
  unfold F_X0_open at hf
  refine x_aload_n dX0_open_0 rfl ?_
  refine x_iload_n dX0_open_1 rfl ?_
  refine f_putI dX0_open_2 xcl_0 (by decide) fl_RX0_18 rfl rfl (by decide) sh_81 rfl ?_
  refine x_aload_n dX0_open_5 rfl ?_
  refine f_getR (b := 82) dX0_open_6 xcl_0 (by decide) fl_RX0_9 (by decide) sh_81 rfl ?_
  refine x_lconst (v := 0) dX0_open_9 (by decide) ?_
  obtain ⟨q_1, hq_1, hf⟩ := Option.bind_eq_some_iff.mp hf
  refine f_cSv mJ7_fill_d0a16 [.ref (xB E + 82), .long ((0 : Int64))] [] dX0_open_10 cs_RX0_22 w_485 rfl rfl (Nat.le_of_ble_eq_true rfl) (by omega) (c_J7_fill_d0a16 (d := d - 1) (by omega) ((0 : Int64)) (xst m.1 ag_bag fBag_room x1, m.2) q_1 hq_1) ?_
  refine x_aload_n dX0_open_13 rfl ?_
  refine f_getR (b := 83) dX0_open_14 xcl_0 (by decide) fl_RX0_15 (by decide) sh_81 rfl ?_
  refine x_lconst (v := 0) dX0_open_17 (by decide) ?_
  obtain ⟨q_2, hq_2, hf⟩ := Option.bind_eq_some_iff.mp hf
  refine f_cSv mJ7_fill_d0a16 [.ref (xB E + 83), .long ((0 : Int64))] [] dX0_open_18 cs_RX0_22 w_485 rfl rfl (Nat.le_of_ble_eq_true rfl) (by omega) (c_J7_fill_d0a16_i1 (d := d - 1) (by omega) ((0 : Int64)) q_1.2 q_2 hq_2) ?_
  exact x_vret dX0_open_21 rfl (by cases hf; exact hR)
theorem c_X0_open {E : xE} {d : Nat} (hd : 2 ≤ d) (x1 : Int32) (m : xMem) (out : Int32 × xMem) (h : F_X0_open x1 m = some out) : xCv E mX0_open d [.ref (xB E + 81), .int x1] m out.2 :=
  x_enter (by decide +kernel) (Nat.le_of_ble_eq_true rfl) (pF_X0_open hd (Q := _) out ⟨rfl, rfl⟩ x1 m h)
-- X2_doubtOf
def J_X2_doubtOf_33 (rec : Int32 → Int32 → xMem → Option (Int32 × xMem)) (x1 : Int32) (x2 : Int32) (x3 : Int32) (m : xMem) : Option (Int32 × xMem) :=
  rec (x2) (x3 + 1) m
def L_X2_doubtOf_4 (x1 : Int32) : Nat → Int32 → Int32 → xMem → Option (Int32 × xMem)
  | 0, _, _, _ => none
  | fk + 1, x2, x3, m =>
    if (m.1 ag_facts fFacts_size) ≤ x3 then (
      some (x2, m))
    else (
      if xin x3 60 = true then (
      if (m.1 ag_facts_place x3.toNatClampNeg) = x1 then (
        (F_X2_chanceOf (x3) m).bind fun q_2 => (
        J_X2_doubtOf_33 (fun y_3 y_4 m_5 => L_X2_doubtOf_4 x1 fk y_3 y_4 m_5) (x1) (x2 + ((1000000 : Int32) - q_2.1)) (x3) q_2.2))
      else (
        J_X2_doubtOf_33 (fun y_6 y_7 m_8 => L_X2_doubtOf_4 x1 fk y_6 y_7 m_8) (x1) (x2) (x3) m))
      else none)
def F_X2_doubtOf (x1 : Int32) (m : xMem) : Option (Int32 × xMem) :=
  L_X2_doubtOf_4 (x1) xfuel ((0 : Int32)) ((0 : Int32)) m
set_option maxHeartbeats 4000000 in
set_option maxRecDepth 100000 in
theorem pJ_X2_doubtOf_33 {E : xE} {d : Nat} {Q : Option Value → xS → Prop} (hd : 4 ≤ d) (out : Int32 × xMem) (hR : Q (some (.int out.1)) (xf E out.2)) (rec : Int32 → Int32 → xMem → Option (Int32 × xMem)) (x1 : Int32) (x2 : Int32) (x3 : Int32) (hrec : ∀ (x2 : Int32) (x3 : Int32) (m : xMem), rec x2 x3 m = some out → xX E mX2_doubtOf d 0 0 0 0 Q 4 [(0, .ref (xB E + 1)), (1, .int (x1)), (2, .int (x2)), (3, .int (x3))] [] (xf E m)) (m : xMem) (hf : J_X2_doubtOf_33 rec x1 x2 x3 m = some out) : xX E mX2_doubtOf d 0 0 0 0 Q 33 [(0, .ref (xB E + 1)), (1, .int (x1)), (2, .int (x2)), (3, .int (x3))] [] (xf E m) := by
  unfold J_X2_doubtOf_33 at hf
  refine x_iinc (v := x3 + 1) (lv' := [(0, .ref (xB E + 1)), (1, .int (x1)), (2, .int (x2)), (3, .int (x3 + 1))]) dX2_doubtOf_33 3 [1, 2, 3, 0] rfl rfl (by decide) rfl ?_
  refine x_goto 4 dX2_doubtOf_36 (by decide) ?_
  exact hrec _ _ _ hf
set_option maxHeartbeats 4000000 in
set_option maxRecDepth 100000 in
theorem pL_X2_doubtOf_4 {E : xE} {d : Nat} {Q : Option Value → xS → Prop} (hd : 4 ≤ d) (out : Int32 × xMem) (hR : Q (some (.int out.1)) (xf E out.2)) (x1 : Int32) : ∀ (fk : Nat) (x2 : Int32) (x3 : Int32) (m : xMem), L_X2_doubtOf_4 x1 fk x2 x3 m = some out → xX E mX2_doubtOf d 0 0 0 0 Q 4 [(0, .ref (xB E + 1)), (1, .int (x1)), (2, .int (x2)), (3, .int (x3))] [] (xf E m) := by
  intro fk
  induction fk with
  | zero => intro x2 x3 m hf; cases hf
  | succ fk ih =>
    intro x2 x3 m hf
    rw [L_X2_doubtOf_4] at hf
    refine x_iload_n dX2_doubtOf_4 rfl ?_
    refine x_aload_n dX2_doubtOf_5 rfl ?_
    refine f_getI dX2_doubtOf_6 xcl_2 (by decide) fl_RX2_36 (by decide) sh_1 rfl ?_
    refine x_icmp_ge 39 dX2_doubtOf_9 (by decide) (fun hc => ?_) (fun hc => ?_)
    · replace hf := x_ift hc hf
      refine x_iload_n dX2_doubtOf_39 rfl ?_
      exact x_iret dX2_doubtOf_40 rfl (by cases hf; exact hR)
    · replace hf := x_iff hc hf
      refine x_aload_n dX2_doubtOf_12 rfl ?_
      refine f_getR (b := 3) dX2_doubtOf_13 xcl_2 (by decide) fl_RX2_15 (by decide) sh_1 rfl ?_
      refine x_iload_n dX2_doubtOf_16 rfl ?_
      have hg_1 := x_gd hf
      replace hf := hg_1.2
      refine f_iald dX2_doubtOf_17 (by decide) sh_3 hg_1.1 ?_
      refine x_iload_n dX2_doubtOf_18 rfl ?_
      refine x_icmp_ne 33 dX2_doubtOf_19 (by decide) (fun hc => ?_) (fun hc => ?_)
      · replace hf := x_iff hc hf
        exact pJ_X2_doubtOf_33 hd out hR _ _ _ _ (fun y0 y1 m9 h9 => ih y0 y1 m9 h9) _ hf
      · replace hf := x_ift hc hf
        refine x_iload_n dX2_doubtOf_22 rfl ?_
        refine x_ldc (v := 1000000) dX2_doubtOf_23 w_491 ?_
        refine x_aload_n dX2_doubtOf_25 rfl ?_
        refine x_iload_n dX2_doubtOf_26 rfl ?_
        obtain ⟨q_2, hq_2, hf⟩ := Option.bind_eq_some_iff.mp hf
        refine f_cVi mX2_chanceOf [.int (x3)] [.int ((1000000 : Int32)), .int (x2)] dX2_doubtOf_27 cs_RX2_60 ⟨w_465, w_9⟩ (ci := 2) rfl (by decide) sh_1 rfl rfl (Nat.le_of_ble_eq_true rfl) (by omega) (c_X2_chanceOf (d := d - 1) (by omega) (x3) m q_2 hq_2) ?_
        refine x_isub dX2_doubtOf_30 ?_
        refine x_iadd dX2_doubtOf_31 ?_
        refine x_istore_n (lv' := [(0, .ref (xB E + 1)), (1, .int (x1)), (2, .int (x2 + ((1000000 : Int32) - q_2.1))), (3, .int (x3))]) dX2_doubtOf_32 [1, 2, 0, 3] (by decide) rfl ?_
        exact pJ_X2_doubtOf_33 hd out hR _ _ _ _ (fun y0 y1 m9 h9 => ih y0 y1 m9 h9) _ hf
set_option maxHeartbeats 4000000 in
set_option maxRecDepth 100000 in
theorem pF_X2_doubtOf {E : xE} {d : Nat} {Q : Option Value → xS → Prop} (hd : 4 ≤ d) (out : Int32 × xMem) (hR : Q (some (.int out.1)) (xf E out.2)) (x1 : Int32) (m : xMem) (hf : F_X2_doubtOf x1 m = some out) : xX E mX2_doubtOf d 0 0 0 0 Q 0 [(0, .ref (xB E + 1)), (1, .int (x1))] [] (xf E m) := by
  unfold F_X2_doubtOf at hf
  refine x_iconst (v := 0) dX2_doubtOf_0 (by decide) ?_
  refine x_istore_n (lv' := [(0, .ref (xB E + 1)), (1, .int (x1)), (2, .int ((0 : Int32)))]) dX2_doubtOf_1 [1, 2, 0] (by decide) rfl ?_
  refine x_iconst (v := 0) dX2_doubtOf_2 (by decide) ?_
  refine x_istore_n (lv' := [(0, .ref (xB E + 1)), (1, .int (x1)), (2, .int ((0 : Int32))), (3, .int ((0 : Int32)))]) dX2_doubtOf_3 [1, 2, 3, 0] (by decide) rfl ?_
  refine pL_X2_doubtOf_4 hd out hR _ xfuel _ _ _ hf
theorem c_X2_doubtOf {E : xE} {d : Nat} (hd : 4 ≤ d) (x1 : Int32) (m : xMem) (out : Int32 × xMem) (h : F_X2_doubtOf x1 m = some out) : xCi E mX2_doubtOf d [.ref (xB E + 1), .int x1] m out.1 out.2 :=
  x_enter (by decide +kernel) (Nat.le_of_ble_eq_true rfl) (pF_X2_doubtOf hd (Q := _) out ⟨rfl, rfl⟩ x1 m h)
-- X0_offer
def J_X0_offer_97 (rec : Int32 → xMem → Option (Int32 × xMem)) (x1 : Int32) (x2 : Int32) (x4 : Int32) (l5 : Int64) (x7 : Int32) (m : xMem) : Option (Int32 × xMem) :=
  rec (x7 + (-1 : Int32)) m
def J_X0_offer_68 (rec : Int32 → xMem → Option (Int32 × xMem)) (x1 : Int32) (x2 : Int32) (x4 : Int32) (l5 : Int64) (x7 : Int32) (l8 : Int64) (m : xMem) : Option (Int32 × xMem) :=
  if xin x7 100 = true then (
  if xin (x7 - x2) 100 = true then (
  if xin x7 100 = true then (
  J_X0_offer_97 rec (x1) (x2) (x4) (l5) (x7) (m.1, xsl (xsl m.2 ag_bag_best x7.toNatClampNeg l8) ag_bag_things x7.toNatClampNeg (((xsl m.2 ag_bag_best x7.toNatClampNeg l8) ag_bag_things (x7 - x2).toNatClampNeg) ||| ((1 : Int64) <<< (x1.toInt64 &&& 63)))))
  else none)
  else none)
  else none
def L_X0_offer_17 (x1 : Int32) (x2 : Int32) (x4 : Int32) (l5 : Int64) : Nat → Int32 → xMem → Option (Int32 × xMem)
  | 0, _, _ => none
  | fk + 1, x7, m =>
    if x7 < x2 then (
      some (0, m))
    else (
      if xin (x7 - x2) 100 = true then (
      if xin x7 100 = true then (
      if 0 < (lg_cmp ((m.2 ag_bag_best (x7 - x2).toNatClampNeg) + l5) (m.2 ag_bag_best x7.toNatClampNeg)) then (
        J_X0_offer_68 (fun y_9 m_10 => L_X0_offer_17 x1 x2 x4 l5 fk y_9 m_10) (x1) (x2) (x4) (l5) (x7) ((m.2 ag_bag_best (x7 - x2).toNatClampNeg) + l5) m)
      else (
        if x4 = 0 then (
          J_X0_offer_97 (fun y_11 m_12 => L_X0_offer_17 x1 x2 x4 l5 fk y_11 m_12) (x1) (x2) (x4) (l5) (x7) m)
        else (
          if xin x7 100 = true then (
          if (lg_cmp ((m.2 ag_bag_best (x7 - x2).toNatClampNeg) + l5) (m.2 ag_bag_best x7.toNatClampNeg)) = 0 then (
            J_X0_offer_68 (fun y_13 m_14 => L_X0_offer_17 x1 x2 x4 l5 fk y_13 m_14) (x1) (x2) (x4) (l5) (x7) ((m.2 ag_bag_best (x7 - x2).toNatClampNeg) + l5) m)
          else (
            J_X0_offer_97 (fun y_15 m_16 => L_X0_offer_17 x1 x2 x4 l5 fk y_15 m_16) (x1) (x2) (x4) (l5) (x7) m))
          else none)))
      else none)
      else none)
def F_X0_offer (x1 : Int32) (x2 : Int32) (x3 : Int32) (x4 : Int32) (m : xMem) : Option (Int32 × xMem) :=
  L_X0_offer_17 (x1) (x2) (x4) ((x3.toInt64 * (1000 : Int64)) - x2.toInt64) xfuel (m.1 ag_bag fBag_room) m
set_option maxHeartbeats 4000000 in
set_option maxRecDepth 100000 in
theorem pJ_X0_offer_97 {E : xE} {d : Nat} {Q : Option Value → xS → Prop} (hd : 1 ≤ d) (out : Int32 × xMem) (hR : Q none (xf E out.2)) (rec : Int32 → xMem → Option (Int32 × xMem)) (x1 : Int32) (x2 : Int32) (x4 : Int32) (l5 : Int64) (x7 : Int32) (hrec : ∀ (x7 : Int32) (m : xMem), rec x7 m = some out → xX E mX0_offer d 0 0 0 0 Q 17 [(0, .ref (xB E + 81)), (1, .int (x1)), (2, .int (x2)), (4, .int (x4)), (5, .long (l5)), (7, .int (x7))] [] (xf E m)) (m : xMem) (hf : J_X0_offer_97 rec x1 x2 x4 l5 x7 m = some out) : xX E mX0_offer d 0 0 0 0 Q 97 [(0, .ref (xB E + 81)), (1, .int (x1)), (2, .int (x2)), (4, .int (x4)), (5, .long (l5)), (7, .int (x7))] [] (xf E m) := by
  unfold J_X0_offer_97 at hf
  refine x_iinc (v := x7 + (-1 : Int32)) (lv' := [(0, .ref (xB E + 81)), (1, .int (x1)), (2, .int (x2)), (4, .int (x4)), (5, .long (l5)), (7, .int (x7 + (-1 : Int32)))]) dX0_offer_97 5 [1, 2, 3, 4, 5, 0] rfl rfl (by decide) rfl ?_
  refine x_goto 17 dX0_offer_100 (by decide) ?_
  exact hrec _ _ hf
set_option maxHeartbeats 4000000 in
set_option maxRecDepth 100000 in
theorem pJ_X0_offer_68 {E : xE} {d : Nat} {Q : Option Value → xS → Prop} (hd : 1 ≤ d) (out : Int32 × xMem) (hR : Q none (xf E out.2)) (rec : Int32 → xMem → Option (Int32 × xMem)) (x1 : Int32) (x2 : Int32) (x4 : Int32) (l5 : Int64) (x7 : Int32) (l8 : Int64) (hrec : ∀ (x7 : Int32) (m : xMem), rec x7 m = some out → xX E mX0_offer d 0 0 0 0 Q 17 [(0, .ref (xB E + 81)), (1, .int (x1)), (2, .int (x2)), (4, .int (x4)), (5, .long (l5)), (7, .int (x7))] [] (xf E m)) (m : xMem) (hf : J_X0_offer_68 rec x1 x2 x4 l5 x7 l8 m = some out) : xX E mX0_offer d 0 0 0 0 Q 68 [(0, .ref (xB E + 81)), (1, .int (x1)), (2, .int (x2)), (4, .int (x4)), (5, .long (l5)), (7, .int (x7)), (8, .long (l8))] [] (xf E m) := by
  unfold J_X0_offer_68 at hf
  refine x_aload_n dX0_offer_68 rfl ?_
  refine f_getR (b := 82) dX0_offer_69 xcl_0 (by decide) fl_RX0_9 (by decide) sh_81 rfl ?_
  refine x_iload dX0_offer_72 rfl ?_
  refine x_lload dX0_offer_74 rfl ?_
  have hg_3 := x_gd hf
  replace hf := hg_3.2
  refine f_last dX0_offer_76 (by decide) sh_82 hg_3.1 ?_
  refine x_aload_n dX0_offer_77 rfl ?_
  refine f_getR (b := 83) dX0_offer_78 xcl_0 (by decide) fl_RX0_15 (by decide) sh_81 rfl ?_
  refine x_iload dX0_offer_81 rfl ?_
  refine x_aload_n dX0_offer_83 rfl ?_
  refine f_getR (b := 83) dX0_offer_84 xcl_0 (by decide) fl_RX0_15 (by decide) sh_81 rfl ?_
  refine x_iload dX0_offer_87 rfl ?_
  refine x_iload_n dX0_offer_89 rfl ?_
  refine x_isub dX0_offer_90 ?_
  have hg_4 := x_gd hf
  replace hf := hg_4.2
  refine f_lald dX0_offer_91 (by decide) sh_83 hg_4.1 ?_
  refine x_lconst (v := 1) dX0_offer_92 (by decide) ?_
  refine x_iload_n dX0_offer_93 rfl ?_
  refine x_lshl dX0_offer_94 ?_
  refine x_lor dX0_offer_95 ?_
  have hg_5 := x_gd hf
  replace hf := hg_5.2
  refine f_last dX0_offer_96 (by decide) sh_83 hg_5.1 ?_
  refine x_lv (lv' := [(0, .ref (xB E + 81)), (1, .int (x1)), (2, .int (x2)), (4, .int (x4)), (5, .long (l5)), (7, .int (x7))]) [0, 1, 2, 3, 4, 5] rfl ?_
  exact pJ_X0_offer_97 hd out hR _ _ _ _ _ _ hrec _ hf
set_option maxHeartbeats 4000000 in
set_option maxRecDepth 100000 in
theorem pL_X0_offer_17 {E : xE} {d : Nat} {Q : Option Value → xS → Prop} (hd : 1 ≤ d) (out : Int32 × xMem) (hR : Q none (xf E out.2)) (x1 : Int32) (x2 : Int32) (x4 : Int32) (l5 : Int64) : ∀ (fk : Nat) (x7 : Int32) (m : xMem), L_X0_offer_17 x1 x2 x4 l5 fk x7 m = some out → xX E mX0_offer d 0 0 0 0 Q 17 [(0, .ref (xB E + 81)), (1, .int (x1)), (2, .int (x2)), (4, .int (x4)), (5, .long (l5)), (7, .int (x7))] [] (xf E m) := by
  intro fk
  induction fk with
  | zero => intro x7 m hf; cases hf
  | succ fk ih =>
    intro x7 m hf
    rw [L_X0_offer_17] at hf
    refine x_iload dX0_offer_17 rfl ?_
    refine x_iload_n dX0_offer_19 rfl ?_
    refine x_icmp_lt 103 dX0_offer_20 (by decide) (fun hc => ?_) (fun hc => ?_)
    · replace hf := x_ift hc hf
      exact x_vret dX0_offer_103 rfl (by cases hf; exact hR)
    · replace hf := x_iff hc hf
      refine x_aload_n dX0_offer_23 rfl ?_
      refine f_getR (b := 82) dX0_offer_24 xcl_0 (by decide) fl_RX0_9 (by decide) sh_81 rfl ?_
      refine x_iload dX0_offer_27 rfl ?_
      refine x_iload_n dX0_offer_29 rfl ?_
      refine x_isub dX0_offer_30 ?_
      have hg_1 := x_gd hf
      replace hf := hg_1.2
      refine f_lald dX0_offer_31 (by decide) sh_82 hg_1.1 ?_
      refine x_lload dX0_offer_32 rfl ?_
      refine x_ladd dX0_offer_34 ?_
      refine x_lstore (lv' := [(0, .ref (xB E + 81)), (1, .int (x1)), (2, .int (x2)), (4, .int (x4)), (5, .long (l5)), (7, .int (x7)), (8, .long ((m.2 ag_bag_best (x7 - x2).toNatClampNeg) + l5))]) dX0_offer_35 [1, 2, 3, 4, 5, 6, 0] (by decide) rfl ?_
      refine x_lload dX0_offer_37 rfl ?_
      refine x_aload_n dX0_offer_39 rfl ?_
      refine f_getR (b := 82) dX0_offer_40 xcl_0 (by decide) fl_RX0_9 (by decide) sh_81 rfl ?_
      refine x_iload dX0_offer_43 rfl ?_
      have hg_2 := x_gd hf
      replace hf := hg_2.2
      refine f_lald dX0_offer_45 (by decide) sh_82 hg_2.1 ?_
      refine x_lcmp dX0_offer_46 ?_
      refine x_if_gt 68 dX0_offer_47 (by decide) (fun hc => ?_) (fun hc => ?_)
      · replace hf := x_ift hc hf
        exact pJ_X0_offer_68 hd out hR _ _ _ _ _ _ _ (fun y0 m9 h9 => ih y0 m9 h9) _ hf
      · replace hf := x_iff hc hf
        refine x_iload dX0_offer_50 rfl ?_
        refine x_if_eq 97 dX0_offer_52 (by decide) (fun hc => ?_) (fun hc => ?_)
        · replace hf := x_ift hc hf
          refine x_lv (lv' := [(0, .ref (xB E + 81)), (1, .int (x1)), (2, .int (x2)), (4, .int (x4)), (5, .long (l5)), (7, .int (x7))]) [0, 1, 2, 3, 4, 5] rfl ?_
          exact pJ_X0_offer_97 hd out hR _ _ _ _ _ _ (fun y0 m9 h9 => ih y0 m9 h9) _ hf
        · replace hf := x_iff hc hf
          refine x_lload dX0_offer_55 rfl ?_
          refine x_aload_n dX0_offer_57 rfl ?_
          refine f_getR (b := 82) dX0_offer_58 xcl_0 (by decide) fl_RX0_9 (by decide) sh_81 rfl ?_
          refine x_iload dX0_offer_61 rfl ?_
          have hg_8 := x_gd hf
          replace hf := hg_8.2
          refine f_lald dX0_offer_63 (by decide) sh_82 hg_8.1 ?_
          refine x_lcmp dX0_offer_64 ?_
          refine x_if_ne 97 dX0_offer_65 (by decide) (fun hc => ?_) (fun hc => ?_)
          · replace hf := x_iff hc hf
            refine x_lv (lv' := [(0, .ref (xB E + 81)), (1, .int (x1)), (2, .int (x2)), (4, .int (x4)), (5, .long (l5)), (7, .int (x7))]) [0, 1, 2, 3, 4, 5] rfl ?_
            exact pJ_X0_offer_97 hd out hR _ _ _ _ _ _ (fun y0 m9 h9 => ih y0 m9 h9) _ hf
          · replace hf := x_ift hc hf
            exact pJ_X0_offer_68 hd out hR _ _ _ _ _ _ _ (fun y0 m9 h9 => ih y0 m9 h9) _ hf
set_option maxHeartbeats 4000000 in
set_option maxRecDepth 100000 in
theorem pF_X0_offer {E : xE} {d : Nat} {Q : Option Value → xS → Prop} (hd : 1 ≤ d) (out : Int32 × xMem) (hR : Q none (xf E out.2)) (x1 : Int32) (x2 : Int32) (x3 : Int32) (x4 : Int32) (m : xMem) (hf : F_X0_offer x1 x2 x3 x4 m = some out) : xX E mX0_offer d 0 0 0 0 Q 0 [(0, .ref (xB E + 81)), (1, .int (x1)), (2, .int (x2)), (3, .int (x3)), (4, .int (x4))] [] (xf E m) := by
  unfold F_X0_offer at hf
  refine x_iload_n dX0_offer_0 rfl ?_
  refine x_i2l dX0_offer_1 ?_
  refine x_ldc2 (v := 1000) dX0_offer_2 w_497 ?_
  refine x_lmul dX0_offer_5 ?_
  refine x_iload_n dX0_offer_6 rfl ?_
  refine x_i2l dX0_offer_7 ?_
  refine x_lsub dX0_offer_8 ?_
  refine x_lstore (lv' := [(0, .ref (xB E + 81)), (1, .int (x1)), (2, .int (x2)), (4, .int (x4)), (5, .long ((x3.toInt64 * (1000 : Int64)) - x2.toInt64))]) dX0_offer_9 [1, 2, 3, 5, 0] (by decide) rfl ?_
  refine x_aload_n dX0_offer_11 rfl ?_
  refine f_getI dX0_offer_12 xcl_0 (by decide) fl_RX0_18 (by decide) sh_81 rfl ?_
  refine x_istore (lv' := [(0, .ref (xB E + 81)), (1, .int (x1)), (2, .int (x2)), (4, .int (x4)), (5, .long ((x3.toInt64 * (1000 : Int64)) - x2.toInt64)), (7, .int (m.1 ag_bag fBag_room))]) dX0_offer_15 [1, 2, 3, 4, 5, 0] (by decide) rfl ?_
  refine pL_X0_offer_17 hd out hR _ _ _ _ xfuel _ _ hf
theorem c_X0_offer {E : xE} {d : Nat} (hd : 1 ≤ d) (x1 : Int32) (x2 : Int32) (x3 : Int32) (x4 : Int32) (m : xMem) (out : Int32 × xMem) (h : F_X0_offer x1 x2 x3 x4 m = some out) : xCv E mX0_offer d [.ref (xB E + 81), .int x1, .int x2, .int x3, .int x4] m out.2 :=
  x_enter (by decide +kernel) (Nat.le_of_ble_eq_true rfl) (pF_X0_offer hd (Q := _) out ⟨rfl, rfl⟩ x1 x2 x3 x4 m h)
-- X0_picked
def F_X0_picked (m : xMem) : Option (Int64 × xMem) :=
  if xin (m.1 ag_bag fBag_room) 100 = true then (
  some (m.2 ag_bag_things (m.1 ag_bag fBag_room).toNatClampNeg, m))
  else none
set_option maxHeartbeats 4000000 in
set_option maxRecDepth 100000 in
theorem pF_X0_picked {E : xE} {d : Nat} {Q : Option Value → xS → Prop} (hd : 1 ≤ d) (out : Int64 × xMem) (hR : Q (some (.long out.1)) (xf E out.2)) (m : xMem) (hf : F_X0_picked m = some out) : xX E mX0_picked d 0 0 0 0 Q 0 [(0, .ref (xB E + 81))] [] (xf E m) := by
  unfold F_X0_picked at hf
  refine x_aload_n dX0_picked_0 rfl ?_
  refine f_getR (b := 83) dX0_picked_1 xcl_0 (by decide) fl_RX0_15 (by decide) sh_81 rfl ?_
  refine x_aload_n dX0_picked_4 rfl ?_
  refine f_getI dX0_picked_5 xcl_0 (by decide) fl_RX0_18 (by decide) sh_81 rfl ?_
  have hg_1 := x_gd hf
  replace hf := hg_1.2
  refine f_lald dX0_picked_8 (by decide) sh_83 hg_1.1 ?_
  exact x_lret dX0_picked_9 rfl (by cases hf; exact hR)
theorem c_X0_picked {E : xE} {d : Nat} (hd : 1 ≤ d) (m : xMem) (out : Int64 × xMem) (h : F_X0_picked m = some out) : xCl' E mX0_picked d [.ref (xB E + 81)] m out.1 out.2 :=
  x_enter (by decide +kernel) (Nat.le_of_ble_eq_true rfl) (pF_X0_picked hd (Q := _) out ⟨rfl, rfl⟩ m h)
-- X9_placesFor
def L_X9_placesFor_10 (c45 : xMem → Option (Int64 × xMem)) : Nat → Int32 → xMem → Option (Int64 × xMem)
  | 0, _, _ => none
  | fk + 1, x2, m =>
    if (10 : Int32) ≤ x2 then (
      c45 m)
    else (
      if xin x2 10 = true then (
      (F_X2_doubtOf (x2) m).bind fun q_3 => (
      (F_X0_offer (x2) (m.1 ag_daysOf x2.toNatClampNeg) (q_3.1) ((0 : Int32)) q_3.2).bind fun q_4 => (
      L_X9_placesFor_10 c45 fk (x2 + 1) q_4.2)))
      else none)
def F_X9_placesFor (x1 : Int32) (m : xMem) : Option (Int64 × xMem) :=
  (F_X0_open (x1) m).bind fun q_1 => (
  L_X9_placesFor_10 (fun m_5 => (
    (F_X0_picked m_5).bind fun q_6 => (
    some (q_6.1, q_6.2)))) xfuel ((0 : Int32)) q_1.2)
set_option maxHeartbeats 4000000 in
set_option maxRecDepth 100000 in
theorem pL_X9_placesFor_10 {E : xE} {d : Nat} {Q : Option Value → xS → Prop} (hd : 5 ≤ d) (out : Int64 × xMem) (hR : Q (some (.long out.1)) (xf E out.2)) (c45 : xMem → Option (Int64 × xMem)) (hc45 : ∀ (m : xMem), c45 m = some out → xX E mX9_placesFor d 0 0 0 0 Q 45 [(0, .ref (xB E + 0))] [] (xf E m)) : ∀ (fk : Nat) (x2 : Int32) (m : xMem), L_X9_placesFor_10 c45 fk x2 m = some out → xX E mX9_placesFor d 0 0 0 0 Q 10 [(0, .ref (xB E + 0)), (2, .int (x2))] [] (xf E m) := by
  intro fk
  induction fk with
  | zero => intro x2 m hf; cases hf
  | succ fk ih =>
    intro x2 m hf
    rw [L_X9_placesFor_10] at hf
    refine x_iload_n dX9_placesFor_10 rfl ?_
    refine x_bipush (v := 10) dX9_placesFor_11 (by decide) ?_
    refine x_icmp_ge 45 dX9_placesFor_13 (by decide) (fun hc => ?_) (fun hc => ?_)
    · replace hf := x_ift hc hf
      refine x_lv (lv' := [(0, .ref (xB E + 0))]) [0] rfl ?_
      exact hc45 _ hf
    · replace hf := x_iff hc hf
      refine x_aload_n dX9_placesFor_16 rfl ?_
      refine f_getR (b := 81) dX9_placesFor_17 xcl_9 (by decide) fl_RX9_61 (by decide) sh_0 rfl ?_
      refine x_iload_n dX9_placesFor_20 rfl ?_
      refine x_aload_n dX9_placesFor_21 rfl ?_
      refine f_getR (b := 84) dX9_placesFor_22 xcl_9 (by decide) fl_RX9_65 (by decide) sh_0 rfl ?_
      refine x_iload_n dX9_placesFor_25 rfl ?_
      have hg_2 := x_gd hf
      replace hf := hg_2.2
      refine f_iald dX9_placesFor_26 (by decide) sh_84 hg_2.1 ?_
      refine x_aload_n dX9_placesFor_27 rfl ?_
      refine f_getR (b := 1) dX9_placesFor_28 xcl_9 (by decide) fl_RX9_12 (by decide) sh_0 rfl ?_
      refine x_iload_n dX9_placesFor_31 rfl ?_
      obtain ⟨q_3, hq_3, hf⟩ := Option.bind_eq_some_iff.mp hf
      refine f_cVi mX2_doubtOf [.int (x2)] [.int (m.1 ag_daysOf x2.toNatClampNeg), .int (x2), .ref (xB E + 81)] dX9_placesFor_32 cs_RX9_248 ⟨w_489, w_12⟩ (ci := 2) rfl (by decide) sh_1 rfl rfl (Nat.le_of_ble_eq_true rfl) (by omega) (c_X2_doubtOf (d := d - 1) (by omega) (x2) m q_3 hq_3) ?_
      refine x_iconst (v := 0) dX9_placesFor_35 (by decide) ?_
      obtain ⟨q_4, hq_4, hf⟩ := Option.bind_eq_some_iff.mp hf
      refine f_cVv mX0_offer [.int (x2), .int (m.1 ag_daysOf x2.toNatClampNeg), .int (q_3.1), .int ((0 : Int32))] [] dX9_placesFor_36 cs_RX9_251 ⟨w_495, w_13⟩ (ci := 0) rfl (by decide) sh_81 rfl rfl (Nat.le_of_ble_eq_true rfl) (by omega) (c_X0_offer (d := d - 1) (by omega) (x2) (m.1 ag_daysOf x2.toNatClampNeg) (q_3.1) ((0 : Int32)) q_3.2 q_4 hq_4) ?_
      refine x_iinc (v := x2 + 1) (lv' := [(0, .ref (xB E + 0)), (2, .int (x2 + 1))]) dX9_placesFor_39 1 [1, 0] rfl rfl (by decide) rfl ?_
      refine x_goto 10 dX9_placesFor_42 (by decide) ?_
      exact ih _ _ hf
set_option maxHeartbeats 4000000 in
set_option maxRecDepth 100000 in
theorem pF_X9_placesFor {E : xE} {d : Nat} {Q : Option Value → xS → Prop} (hd : 5 ≤ d) (out : Int64 × xMem) (hR : Q (some (.long out.1)) (xf E out.2)) (x1 : Int32) (m : xMem) (hf : F_X9_placesFor x1 m = some out) : xX E mX9_placesFor d 0 0 0 0 Q 0 [(0, .ref (xB E + 0)), (1, .int (x1))] [] (xf E m) := by
  unfold F_X9_placesFor at hf
  refine x_aload_n dX9_placesFor_0 rfl ?_
  refine f_getR (b := 81) dX9_placesFor_1 xcl_9 (by decide) fl_RX9_61 (by decide) sh_0 rfl ?_
  refine x_iload_n dX9_placesFor_4 rfl ?_
  obtain ⟨q_1, hq_1, hf⟩ := Option.bind_eq_some_iff.mp hf
  refine f_cVv mX0_open [.int (x1)] [] dX9_placesFor_5 cs_RX9_245 ⟨w_482, w_11⟩ (ci := 0) rfl (by decide) sh_81 rfl rfl (Nat.le_of_ble_eq_true rfl) (by omega) (c_X0_open (d := d - 1) (by omega) (x1) m q_1 hq_1) ?_
  refine x_iconst (v := 0) dX9_placesFor_8 (by decide) ?_
  refine x_istore_n (lv' := [(0, .ref (xB E + 0)), (2, .int ((0 : Int32)))]) dX9_placesFor_9 [1, 0] (by decide) rfl ?_
  refine pL_X9_placesFor_10 hd out hR _ (fun m_5 hf => ?_) xfuel _ _ hf
  refine x_aload_n dX9_placesFor_45 rfl ?_
  refine f_getR (b := 81) dX9_placesFor_46 xcl_9 (by decide) fl_RX9_61 (by decide) sh_0 rfl ?_
  obtain ⟨q_6, hq_6, hf⟩ := Option.bind_eq_some_iff.mp hf
  refine f_cVl mX0_picked [] [] dX9_placesFor_49 cs_RX9_255 ⟨w_500, w_14⟩ (ci := 0) rfl (by decide) sh_81 rfl rfl (Nat.le_of_ble_eq_true rfl) (by omega) (c_X0_picked (d := d - 1) (by omega) m_5 q_6 hq_6) ?_
  exact x_lret dX9_placesFor_52 rfl (by cases hf; exact hR)
theorem c_X9_placesFor {E : xE} {d : Nat} (hd : 5 ≤ d) (x1 : Int32) (m : xMem) (out : Int64 × xMem) (h : F_X9_placesFor x1 m = some out) : xCl' E mX9_placesFor d [.ref (xB E + 0), .int x1] m out.1 out.2 :=
  x_enter (by decide +kernel) (Nat.le_of_ble_eq_true rfl) (pF_X9_placesFor hd (Q := _) out ⟨rfl, rfl⟩ x1 m h)
-- X9_doubtOfSet
def J_X9_doubtOfSet_35 (rec : Int32 → Int32 → xMem → Option (Int32 × xMem)) (l1 : Int64) (x3 : Int32) (x4 : Int32) (m : xMem) : Option (Int32 × xMem) :=
  rec (x3) (x4 + 1) m
def L_X9_doubtOfSet_5 (l1 : Int64) : Nat → Int32 → Int32 → xMem → Option (Int32 × xMem)
  | 0, _, _, _ => none
  | fk + 1, x3, x4, m =>
    if (10 : Int32) ≤ x4 then (
      some (x3, m))
    else (
      if (lg_cmp (l1 &&& ((1 : Int64) <<< (x4.toInt64 &&& 63))) (0 : Int64)) = 0 then (
        J_X9_doubtOfSet_35 (fun y_2 y_3 m_4 => L_X9_doubtOfSet_5 l1 fk y_2 y_3 m_4) (l1) (x3) (x4) m)
      else (
        (F_X2_doubtOf (x4) m).bind fun q_1 => (
        J_X9_doubtOfSet_35 (fun y_5 y_6 m_7 => L_X9_doubtOfSet_5 l1 fk y_5 y_6 m_7) (l1) (x3 + q_1.1) (x4) q_1.2)))
def F_X9_doubtOfSet (l1 : Int64) (m : xMem) : Option (Int32 × xMem) :=
  L_X9_doubtOfSet_5 (l1) xfuel ((0 : Int32)) ((0 : Int32)) m
set_option maxHeartbeats 4000000 in
set_option maxRecDepth 100000 in
theorem pJ_X9_doubtOfSet_35 {E : xE} {d : Nat} {Q : Option Value → xS → Prop} (hd : 5 ≤ d) (out : Int32 × xMem) (hR : Q (some (.int out.1)) (xf E out.2)) (rec : Int32 → Int32 → xMem → Option (Int32 × xMem)) (l1 : Int64) (x3 : Int32) (x4 : Int32) (hrec : ∀ (x3 : Int32) (x4 : Int32) (m : xMem), rec x3 x4 m = some out → xX E mX9_doubtOfSet d 0 0 0 0 Q 5 [(0, .ref (xB E + 0)), (1, .long (l1)), (3, .int (x3)), (4, .int (x4))] [] (xf E m)) (m : xMem) (hf : J_X9_doubtOfSet_35 rec l1 x3 x4 m = some out) : xX E mX9_doubtOfSet d 0 0 0 0 Q 35 [(0, .ref (xB E + 0)), (1, .long (l1)), (3, .int (x3)), (4, .int (x4))] [] (xf E m) := by
  unfold J_X9_doubtOfSet_35 at hf
  refine x_iinc (v := x4 + 1) (lv' := [(0, .ref (xB E + 0)), (1, .long (l1)), (3, .int (x3)), (4, .int (x4 + 1))]) dX9_doubtOfSet_35 3 [1, 2, 3, 0] rfl rfl (by decide) rfl ?_
  refine x_goto 5 dX9_doubtOfSet_38 (by decide) ?_
  exact hrec _ _ _ hf
set_option maxHeartbeats 4000000 in
set_option maxRecDepth 100000 in
theorem pL_X9_doubtOfSet_5 {E : xE} {d : Nat} {Q : Option Value → xS → Prop} (hd : 5 ≤ d) (out : Int32 × xMem) (hR : Q (some (.int out.1)) (xf E out.2)) (l1 : Int64) : ∀ (fk : Nat) (x3 : Int32) (x4 : Int32) (m : xMem), L_X9_doubtOfSet_5 l1 fk x3 x4 m = some out → xX E mX9_doubtOfSet d 0 0 0 0 Q 5 [(0, .ref (xB E + 0)), (1, .long (l1)), (3, .int (x3)), (4, .int (x4))] [] (xf E m) := by
  intro fk
  induction fk with
  | zero => intro x3 x4 m hf; cases hf
  | succ fk ih =>
    intro x3 x4 m hf
    rw [L_X9_doubtOfSet_5] at hf
    refine x_iload dX9_doubtOfSet_5 rfl ?_
    refine x_bipush (v := 10) dX9_doubtOfSet_7 (by decide) ?_
    refine x_icmp_ge 41 dX9_doubtOfSet_9 (by decide) (fun hc => ?_) (fun hc => ?_)
    · replace hf := x_ift hc hf
      refine x_iload_n dX9_doubtOfSet_41 rfl ?_
      exact x_iret dX9_doubtOfSet_42 rfl (by cases hf; exact hR)
    · replace hf := x_iff hc hf
      refine x_lload_n dX9_doubtOfSet_12 rfl ?_
      refine x_lconst (v := 1) dX9_doubtOfSet_13 (by decide) ?_
      refine x_iload dX9_doubtOfSet_14 rfl ?_
      refine x_lshl dX9_doubtOfSet_16 ?_
      refine x_land dX9_doubtOfSet_17 ?_
      refine x_lconst (v := 0) dX9_doubtOfSet_18 (by decide) ?_
      refine x_lcmp dX9_doubtOfSet_19 ?_
      refine x_if_eq 35 dX9_doubtOfSet_20 (by decide) (fun hc => ?_) (fun hc => ?_)
      · replace hf := x_ift hc hf
        exact pJ_X9_doubtOfSet_35 hd out hR _ _ _ _ (fun y0 y1 m9 h9 => ih y0 y1 m9 h9) _ hf
      · replace hf := x_iff hc hf
        refine x_iload_n dX9_doubtOfSet_23 rfl ?_
        refine x_aload_n dX9_doubtOfSet_24 rfl ?_
        refine f_getR (b := 1) dX9_doubtOfSet_25 xcl_9 (by decide) fl_RX9_12 (by decide) sh_0 rfl ?_
        refine x_iload dX9_doubtOfSet_28 rfl ?_
        obtain ⟨q_1, hq_1, hf⟩ := Option.bind_eq_some_iff.mp hf
        refine f_cVi mX2_doubtOf [.int (x4)] [.int (x3)] dX9_doubtOfSet_30 cs_RX9_248 ⟨w_489, w_12⟩ (ci := 2) rfl (by decide) sh_1 rfl rfl (Nat.le_of_ble_eq_true rfl) (by omega) (c_X2_doubtOf (d := d - 1) (by omega) (x4) m q_1 hq_1) ?_
        refine x_iadd dX9_doubtOfSet_33 ?_
        refine x_istore_n (lv' := [(0, .ref (xB E + 0)), (1, .long (l1)), (3, .int (x3 + q_1.1)), (4, .int (x4))]) dX9_doubtOfSet_34 [1, 2, 0, 3] (by decide) rfl ?_
        exact pJ_X9_doubtOfSet_35 hd out hR _ _ _ _ (fun y0 y1 m9 h9 => ih y0 y1 m9 h9) _ hf
set_option maxHeartbeats 4000000 in
set_option maxRecDepth 100000 in
theorem pF_X9_doubtOfSet {E : xE} {d : Nat} {Q : Option Value → xS → Prop} (hd : 5 ≤ d) (out : Int32 × xMem) (hR : Q (some (.int out.1)) (xf E out.2)) (l1 : Int64) (m : xMem) (hf : F_X9_doubtOfSet l1 m = some out) : xX E mX9_doubtOfSet d 0 0 0 0 Q 0 [(0, .ref (xB E + 0)), (1, .long (l1))] [] (xf E m) := by
  unfold F_X9_doubtOfSet at hf
  refine x_iconst (v := 0) dX9_doubtOfSet_0 (by decide) ?_
  refine x_istore_n (lv' := [(0, .ref (xB E + 0)), (1, .long (l1)), (3, .int ((0 : Int32)))]) dX9_doubtOfSet_1 [1, 2, 0] (by decide) rfl ?_
  refine x_iconst (v := 0) dX9_doubtOfSet_2 (by decide) ?_
  refine x_istore (lv' := [(0, .ref (xB E + 0)), (1, .long (l1)), (3, .int ((0 : Int32))), (4, .int ((0 : Int32)))]) dX9_doubtOfSet_3 [1, 2, 3, 0] (by decide) rfl ?_
  refine pL_X9_doubtOfSet_5 hd out hR _ xfuel _ _ _ hf
theorem c_X9_doubtOfSet {E : xE} {d : Nat} (hd : 5 ≤ d) (l1 : Int64) (m : xMem) (out : Int32 × xMem) (h : F_X9_doubtOfSet l1 m = some out) : xCi E mX9_doubtOfSet d [.ref (xB E + 0), .long l1] m out.1 out.2 :=
  x_enter (by decide +kernel) (Nat.le_of_ble_eq_true rfl) (pF_X9_doubtOfSet hd (Q := _) out ⟨rfl, rfl⟩ l1 m h)
-- X9_plan
def F_X9_plan (x1 : Int32) (x2 : Int32) (m : xMem) : Option (Int32 × xMem) :=
  (F_X9_within (x1) ((99 : Int32)) m).bind fun q_1 => (
  if q_1.1 = 0 then (
    some ((-1 : Int32), q_1.2))
  else (
    (F_X9_within (x2) ((1 : Int32)) q_1.2).bind fun q_2 => (
    if q_2.1 = 0 then (
      some ((-1 : Int32), q_2.2))
    else (
      (F_X9_placesFor (x1) q_2.2).bind fun q_3 => (
      if x2 = 0 then (
        some (q_3.1.toInt32, q_3.2))
      else (
        (F_X9_doubtOfSet (q_3.1) q_3.2).bind fun q_4 => (
        some (q_4.1 / (1000 : Int32), q_4.2))))))))
set_option maxHeartbeats 4000000 in
set_option maxRecDepth 100000 in
theorem pF_X9_plan {E : xE} {d : Nat} {Q : Option Value → xS → Prop} (hd : 6 ≤ d) (out : Int32 × xMem) (hR : Q (some (.int out.1)) (xf E out.2)) (x1 : Int32) (x2 : Int32) (m : xMem) (hf : F_X9_plan x1 x2 m = some out) : xX E mX9_plan d 0 0 0 0 Q 0 [(0, .ref (xB E + 0)), (1, .int (x1)), (2, .int (x2))] [] (xf E m) := by
  unfold F_X9_plan at hf
  refine x_iload_n dX9_plan_0 rfl ?_
  refine x_bipush (v := 99) dX9_plan_1 (by decide) ?_
  obtain ⟨q_1, hq_1, hf⟩ := Option.bind_eq_some_iff.mp hf
  refine f_cSi mX9_within [.int (x1), .int ((99 : Int32))] [] dX9_plan_3 cs_RX9_82 w_389 rfl rfl (Nat.le_of_ble_eq_true rfl) (by omega) (c_X9_within (d := d - 1) (by omega) (x1) ((99 : Int32)) m q_1 hq_1) ?_
  refine x_if_eq 17 dX9_plan_6 (by decide) (fun hc => ?_) (fun hc => ?_)
  · replace hf := x_ift hc hf
    refine x_iconst (v := (-1)) dX9_plan_17 (by decide) ?_
    exact x_iret dX9_plan_18 rfl (by cases hf; exact hR)
  · replace hf := x_iff hc hf
    refine x_iload_n dX9_plan_9 rfl ?_
    refine x_iconst (v := 1) dX9_plan_10 (by decide) ?_
    obtain ⟨q_2, hq_2, hf⟩ := Option.bind_eq_some_iff.mp hf
    refine f_cSi mX9_within [.int (x2), .int ((1 : Int32))] [] dX9_plan_11 cs_RX9_82 w_389 rfl rfl (Nat.le_of_ble_eq_true rfl) (by omega) (c_X9_within (d := d - 1) (by omega) (x2) ((1 : Int32)) q_1.2 q_2 hq_2) ?_
    refine x_if_ne 19 dX9_plan_14 (by decide) (fun hc => ?_) (fun hc => ?_)
    · replace hf := x_iff hc hf
      refine x_aload_n dX9_plan_19 rfl ?_
      refine x_iload_n dX9_plan_20 rfl ?_
      obtain ⟨q_3, hq_3, hf⟩ := Option.bind_eq_some_iff.mp hf
      refine f_cVl mX9_placesFor [.int (x1)] [] dX9_plan_21 cs_RX9_131 ⟨w_478, w_10⟩ (ci := 9) rfl (by decide) sh_0 rfl rfl (Nat.le_of_ble_eq_true rfl) (by omega) (c_X9_placesFor (d := d - 1) (by omega) (x1) q_2.2 q_3 hq_3) ?_
      refine x_lstore_n (lv' := [(0, .ref (xB E + 0)), (2, .int (x2)), (3, .long (q_3.1))]) dX9_plan_24 [1, 3, 0] (by decide) rfl ?_
      refine x_iload_n dX9_plan_25 rfl ?_
      refine x_if_ne 34 dX9_plan_26 (by decide) (fun hc => ?_) (fun hc => ?_)
      · replace hf := x_iff hc hf
        refine x_aload_n dX9_plan_34 rfl ?_
        refine x_lload_n dX9_plan_35 rfl ?_
        obtain ⟨q_4, hq_4, hf⟩ := Option.bind_eq_some_iff.mp hf
        refine f_cVi mX9_doubtOfSet [.long (q_3.1)] [] dX9_plan_36 cs_RX9_135 ⟨w_504, w_15⟩ (ci := 9) rfl (by decide) sh_0 rfl rfl (Nat.le_of_ble_eq_true rfl) (by omega) (c_X9_doubtOfSet (d := d - 1) (by omega) (q_3.1) q_3.2 q_4 hq_4) ?_
        refine x_sipush (v := 1000) dX9_plan_39 (by decide) ?_
        refine x_idiv dX9_plan_42 (by decide) ?_
        exact x_iret dX9_plan_43 rfl (by cases hf; exact hR)
      · replace hf := x_ift hc hf
        refine x_lload_n dX9_plan_29 rfl ?_
        refine x_l2i dX9_plan_30 ?_
        refine x_goto 43 dX9_plan_31 (by decide) ?_
        exact x_iret dX9_plan_43 rfl (by cases hf; exact hR)
    · replace hf := x_ift hc hf
      refine x_iconst (v := (-1)) dX9_plan_17 (by decide) ?_
      exact x_iret dX9_plan_18 rfl (by cases hf; exact hR)
theorem c_X9_plan {E : xE} {d : Nat} (hd : 6 ≤ d) (x1 : Int32) (x2 : Int32) (m : xMem) (out : Int32 × xMem) (h : F_X9_plan x1 x2 m = some out) : xCi E mX9_plan d [.ref (xB E + 0), .int x1, .int x2] m out.1 out.2 :=
  x_enter (by decide +kernel) (Nat.le_of_ble_eq_true rfl) (pF_X9_plan hd (Q := _) out ⟨rfl, rfl⟩ x1 x2 m h)
-- X10_doubtOf
def J_X10_doubtOf_34 (rec : Int64 → Int32 → xMem → Option (Int64 × xMem)) (x1 : Int32) (x4 : Int32) (s0 : Int64) (s1 : Int64) (m : xMem) : Option (Int64 × xMem) :=
  rec (s0 + s1) (x4 + 1) m
def L_X10_doubtOf_5 (x1 : Int32) : Nat → Int64 → Int32 → xMem → Option (Int64 × xMem)
  | 0, _, _, _ => none
  | fk + 1, l2, x4, m =>
    if (10 : Int32) ≤ x4 then (
      some (l2, m))
    else (
      if ((x1 >>> (x4 &&& 31)) &&& (1 : Int32)) = (1 : Int32) then (
        if xin x4 10 = true then (
        J_X10_doubtOf_34 (fun y_2 y_3 m_4 => L_X10_doubtOf_5 x1 fk y_2 y_3 m_4) (x1) (x4) (l2) (m.2 am_doubt x4.toNatClampNeg) m)
        else none)
      else (
        J_X10_doubtOf_34 (fun y_5 y_6 m_7 => L_X10_doubtOf_5 x1 fk y_5 y_6 m_7) (x1) (x4) (l2) ((0 : Int64)) m))
def F_X10_doubtOf (x1 : Int32) (m : xMem) : Option (Int64 × xMem) :=
  L_X10_doubtOf_5 (x1) xfuel ((0 : Int64)) ((0 : Int32)) m
set_option maxHeartbeats 4000000 in
set_option maxRecDepth 100000 in
theorem pJ_X10_doubtOf_34 {E : xE} {d : Nat} {Q : Option Value → xS → Prop} (hd : 1 ≤ d) (out : Int64 × xMem) (hR : Q (some (.long out.1)) (xf E out.2)) (rec : Int64 → Int32 → xMem → Option (Int64 × xMem)) (x1 : Int32) (x4 : Int32) (s0 : Int64) (s1 : Int64) (hrec : ∀ (l2 : Int64) (x4 : Int32) (m : xMem), rec l2 x4 m = some out → xX E mX10_doubtOf d 0 0 0 0 Q 5 [(0, .ref (xB E + 87)), (1, .int (x1)), (2, .long (l2)), (4, .int (x4))] [] (xf E m)) (m : xMem) (hf : J_X10_doubtOf_34 rec x1 x4 s0 s1 m = some out) : xX E mX10_doubtOf d 0 0 0 0 Q 34 [(0, .ref (xB E + 87)), (1, .int (x1)), (4, .int (x4))] [.long (s1), .long (s0)] (xf E m) := by
  unfold J_X10_doubtOf_34 at hf
  refine x_ladd dX10_doubtOf_34 ?_
  refine x_lstore_n (lv' := [(0, .ref (xB E + 87)), (1, .int (x1)), (2, .long (s0 + s1)), (4, .int (x4))]) dX10_doubtOf_35 [1, 2, 0, 3] (by decide) rfl ?_
  refine x_iinc (v := x4 + 1) (lv' := [(0, .ref (xB E + 87)), (1, .int (x1)), (2, .long (s0 + s1)), (4, .int (x4 + 1))]) dX10_doubtOf_36 3 [1, 2, 3, 0] rfl rfl (by decide) rfl ?_
  refine x_goto 5 dX10_doubtOf_39 (by decide) ?_
  exact hrec _ _ _ hf
set_option maxHeartbeats 4000000 in
set_option maxRecDepth 100000 in
theorem pL_X10_doubtOf_5 {E : xE} {d : Nat} {Q : Option Value → xS → Prop} (hd : 1 ≤ d) (out : Int64 × xMem) (hR : Q (some (.long out.1)) (xf E out.2)) (x1 : Int32) : ∀ (fk : Nat) (l2 : Int64) (x4 : Int32) (m : xMem), L_X10_doubtOf_5 x1 fk l2 x4 m = some out → xX E mX10_doubtOf d 0 0 0 0 Q 5 [(0, .ref (xB E + 87)), (1, .int (x1)), (2, .long (l2)), (4, .int (x4))] [] (xf E m) := by
  intro fk
  induction fk with
  | zero => intro l2 x4 m hf; cases hf
  | succ fk ih =>
    intro l2 x4 m hf
    rw [L_X10_doubtOf_5] at hf
    refine x_iload dX10_doubtOf_5 rfl ?_
    refine x_bipush (v := 10) dX10_doubtOf_7 (by decide) ?_
    refine x_icmp_ge 42 dX10_doubtOf_9 (by decide) (fun hc => ?_) (fun hc => ?_)
    · replace hf := x_ift hc hf
      refine x_lload_n dX10_doubtOf_42 rfl ?_
      exact x_lret dX10_doubtOf_43 rfl (by cases hf; exact hR)
    · replace hf := x_iff hc hf
      refine x_lload_n dX10_doubtOf_12 rfl ?_
      refine x_iload_n dX10_doubtOf_13 rfl ?_
      refine x_iload dX10_doubtOf_14 rfl ?_
      refine x_ishr dX10_doubtOf_16 ?_
      refine x_iconst (v := 1) dX10_doubtOf_17 (by decide) ?_
      refine x_iand dX10_doubtOf_18 ?_
      refine x_iconst (v := 1) dX10_doubtOf_19 (by decide) ?_
      refine x_icmp_ne 33 dX10_doubtOf_20 (by decide) (fun hc => ?_) (fun hc => ?_)
      · replace hf := x_iff hc hf
        refine x_lconst (v := 0) dX10_doubtOf_33 (by decide) ?_
        refine x_lv (lv' := [(0, .ref (xB E + 87)), (1, .int (x1)), (4, .int (x4))]) [0, 1, 3] rfl ?_
        exact pJ_X10_doubtOf_34 hd out hR _ _ _ _ _ (fun y0 y1 m9 h9 => ih y0 y1 m9 h9) _ hf
      · replace hf := x_ift hc hf
        refine x_aload_n dX10_doubtOf_23 rfl ?_
        refine f_getR (b := 112) dX10_doubtOf_24 xcl_10 (by decide) fl_RX10_112 (by decide) sh_87 rfl ?_
        refine x_iload dX10_doubtOf_27 rfl ?_
        have hg_1 := x_gd hf
        replace hf := hg_1.2
        refine f_lald dX10_doubtOf_29 (by decide) sh_112 hg_1.1 ?_
        refine x_goto 34 dX10_doubtOf_30 (by decide) ?_
        refine x_lv (lv' := [(0, .ref (xB E + 87)), (1, .int (x1)), (4, .int (x4))]) [0, 1, 3] rfl ?_
        exact pJ_X10_doubtOf_34 hd out hR _ _ _ _ _ (fun y0 y1 m9 h9 => ih y0 y1 m9 h9) _ hf
set_option maxHeartbeats 4000000 in
set_option maxRecDepth 100000 in
theorem pF_X10_doubtOf {E : xE} {d : Nat} {Q : Option Value → xS → Prop} (hd : 1 ≤ d) (out : Int64 × xMem) (hR : Q (some (.long out.1)) (xf E out.2)) (x1 : Int32) (m : xMem) (hf : F_X10_doubtOf x1 m = some out) : xX E mX10_doubtOf d 0 0 0 0 Q 0 [(0, .ref (xB E + 87)), (1, .int (x1))] [] (xf E m) := by
  unfold F_X10_doubtOf at hf
  refine x_lconst (v := 0) dX10_doubtOf_0 (by decide) ?_
  refine x_lstore_n (lv' := [(0, .ref (xB E + 87)), (1, .int (x1)), (2, .long ((0 : Int64)))]) dX10_doubtOf_1 [1, 2, 0] (by decide) rfl ?_
  refine x_iconst (v := 0) dX10_doubtOf_2 (by decide) ?_
  refine x_istore (lv' := [(0, .ref (xB E + 87)), (1, .int (x1)), (2, .long ((0 : Int64))), (4, .int ((0 : Int32)))]) dX10_doubtOf_3 [1, 2, 3, 0] (by decide) rfl ?_
  refine pL_X10_doubtOf_5 hd out hR _ xfuel _ _ _ hf
theorem c_X10_doubtOf {E : xE} {d : Nat} (hd : 1 ≤ d) (x1 : Int32) (m : xMem) (out : Int64 × xMem) (h : F_X10_doubtOf x1 m = some out) : xCl' E mX10_doubtOf d [.ref (xB E + 87), .int x1] m out.1 out.2 :=
  x_enter (by decide +kernel) (Nat.le_of_ble_eq_true rfl) (pF_X10_doubtOf hd (Q := _) out ⟨rfl, rfl⟩ x1 m h)
-- X10_daysOf
def J_X10_daysOf_30 (rec : Int32 → Int32 → xMem → Option (Int32 × xMem)) (x1 : Int32) (x3 : Int32) (s0 : Int32) (s1 : Int32) (m : xMem) : Option (Int32 × xMem) :=
  rec (s0 + s1) (x3 + 1) m
def L_X10_daysOf_4 (x1 : Int32) : Nat → Int32 → Int32 → xMem → Option (Int32 × xMem)
  | 0, _, _, _ => none
  | fk + 1, x2, x3, m =>
    if (10 : Int32) ≤ x3 then (
      some (x2, m))
    else (
      if ((x1 >>> (x3 &&& 31)) &&& (1 : Int32)) = (1 : Int32) then (
        if xin x3 10 = true then (
        J_X10_daysOf_30 (fun y_2 y_3 m_4 => L_X10_daysOf_4 x1 fk y_2 y_3 m_4) (x1) (x3) (x2) (m.1 am_takes x3.toNatClampNeg) m)
        else none)
      else (
        J_X10_daysOf_30 (fun y_5 y_6 m_7 => L_X10_daysOf_4 x1 fk y_5 y_6 m_7) (x1) (x3) (x2) ((0 : Int32)) m))
def F_X10_daysOf (x1 : Int32) (m : xMem) : Option (Int32 × xMem) :=
  L_X10_daysOf_4 (x1) xfuel ((0 : Int32)) ((0 : Int32)) m
set_option maxHeartbeats 4000000 in
set_option maxRecDepth 100000 in
theorem pJ_X10_daysOf_30 {E : xE} {d : Nat} {Q : Option Value → xS → Prop} (hd : 1 ≤ d) (out : Int32 × xMem) (hR : Q (some (.int out.1)) (xf E out.2)) (rec : Int32 → Int32 → xMem → Option (Int32 × xMem)) (x1 : Int32) (x3 : Int32) (s0 : Int32) (s1 : Int32) (hrec : ∀ (x2 : Int32) (x3 : Int32) (m : xMem), rec x2 x3 m = some out → xX E mX10_daysOf d 0 0 0 0 Q 4 [(0, .ref (xB E + 87)), (1, .int (x1)), (2, .int (x2)), (3, .int (x3))] [] (xf E m)) (m : xMem) (hf : J_X10_daysOf_30 rec x1 x3 s0 s1 m = some out) : xX E mX10_daysOf d 0 0 0 0 Q 30 [(0, .ref (xB E + 87)), (1, .int (x1)), (3, .int (x3))] [.int (s1), .int (s0)] (xf E m) := by
  unfold J_X10_daysOf_30 at hf
  refine x_iadd dX10_daysOf_30 ?_
  refine x_istore_n (lv' := [(0, .ref (xB E + 87)), (1, .int (x1)), (2, .int (s0 + s1)), (3, .int (x3))]) dX10_daysOf_31 [1, 2, 0, 3] (by decide) rfl ?_
  refine x_iinc (v := x3 + 1) (lv' := [(0, .ref (xB E + 87)), (1, .int (x1)), (2, .int (s0 + s1)), (3, .int (x3 + 1))]) dX10_daysOf_32 3 [1, 2, 3, 0] rfl rfl (by decide) rfl ?_
  refine x_goto 4 dX10_daysOf_35 (by decide) ?_
  exact hrec _ _ _ hf
set_option maxHeartbeats 4000000 in
set_option maxRecDepth 100000 in
theorem pL_X10_daysOf_4 {E : xE} {d : Nat} {Q : Option Value → xS → Prop} (hd : 1 ≤ d) (out : Int32 × xMem) (hR : Q (some (.int out.1)) (xf E out.2)) (x1 : Int32) : ∀ (fk : Nat) (x2 : Int32) (x3 : Int32) (m : xMem), L_X10_daysOf_4 x1 fk x2 x3 m = some out → xX E mX10_daysOf d 0 0 0 0 Q 4 [(0, .ref (xB E + 87)), (1, .int (x1)), (2, .int (x2)), (3, .int (x3))] [] (xf E m) := by
  intro fk
  induction fk with
  | zero => intro x2 x3 m hf; cases hf
  | succ fk ih =>
    intro x2 x3 m hf
    rw [L_X10_daysOf_4] at hf
    refine x_iload_n dX10_daysOf_4 rfl ?_
    refine x_bipush (v := 10) dX10_daysOf_5 (by decide) ?_
    refine x_icmp_ge 38 dX10_daysOf_7 (by decide) (fun hc => ?_) (fun hc => ?_)
    · replace hf := x_ift hc hf
      refine x_iload_n dX10_daysOf_38 rfl ?_
      exact x_iret dX10_daysOf_39 rfl (by cases hf; exact hR)
    · replace hf := x_iff hc hf
      refine x_iload_n dX10_daysOf_10 rfl ?_
      refine x_iload_n dX10_daysOf_11 rfl ?_
      refine x_iload_n dX10_daysOf_12 rfl ?_
      refine x_ishr dX10_daysOf_13 ?_
      refine x_iconst (v := 1) dX10_daysOf_14 (by decide) ?_
      refine x_iand dX10_daysOf_15 ?_
      refine x_iconst (v := 1) dX10_daysOf_16 (by decide) ?_
      refine x_icmp_ne 29 dX10_daysOf_17 (by decide) (fun hc => ?_) (fun hc => ?_)
      · replace hf := x_iff hc hf
        refine x_iconst (v := 0) dX10_daysOf_29 (by decide) ?_
        refine x_lv (lv' := [(0, .ref (xB E + 87)), (1, .int (x1)), (3, .int (x3))]) [0, 1, 3] rfl ?_
        exact pJ_X10_daysOf_30 hd out hR _ _ _ _ _ (fun y0 y1 m9 h9 => ih y0 y1 m9 h9) _ hf
      · replace hf := x_ift hc hf
        refine x_aload_n dX10_daysOf_20 rfl ?_
        refine f_getR (b := 111) dX10_daysOf_21 xcl_10 (by decide) fl_RX10_109 (by decide) sh_87 rfl ?_
        refine x_iload_n dX10_daysOf_24 rfl ?_
        have hg_1 := x_gd hf
        replace hf := hg_1.2
        refine f_iald dX10_daysOf_25 (by decide) sh_111 hg_1.1 ?_
        refine x_goto 30 dX10_daysOf_26 (by decide) ?_
        refine x_lv (lv' := [(0, .ref (xB E + 87)), (1, .int (x1)), (3, .int (x3))]) [0, 1, 3] rfl ?_
        exact pJ_X10_daysOf_30 hd out hR _ _ _ _ _ (fun y0 y1 m9 h9 => ih y0 y1 m9 h9) _ hf
set_option maxHeartbeats 4000000 in
set_option maxRecDepth 100000 in
theorem pF_X10_daysOf {E : xE} {d : Nat} {Q : Option Value → xS → Prop} (hd : 1 ≤ d) (out : Int32 × xMem) (hR : Q (some (.int out.1)) (xf E out.2)) (x1 : Int32) (m : xMem) (hf : F_X10_daysOf x1 m = some out) : xX E mX10_daysOf d 0 0 0 0 Q 0 [(0, .ref (xB E + 87)), (1, .int (x1))] [] (xf E m) := by
  unfold F_X10_daysOf at hf
  refine x_iconst (v := 0) dX10_daysOf_0 (by decide) ?_
  refine x_istore_n (lv' := [(0, .ref (xB E + 87)), (1, .int (x1)), (2, .int ((0 : Int32)))]) dX10_daysOf_1 [1, 2, 0] (by decide) rfl ?_
  refine x_iconst (v := 0) dX10_daysOf_2 (by decide) ?_
  refine x_istore_n (lv' := [(0, .ref (xB E + 87)), (1, .int (x1)), (2, .int ((0 : Int32))), (3, .int ((0 : Int32)))]) dX10_daysOf_3 [1, 2, 3, 0] (by decide) rfl ?_
  refine pL_X10_daysOf_4 hd out hR _ xfuel _ _ _ hf
theorem c_X10_daysOf {E : xE} {d : Nat} (hd : 1 ≤ d) (x1 : Int32) (m : xMem) (out : Int32 × xMem) (h : F_X10_daysOf x1 m = some out) : xCi E mX10_daysOf d [.ref (xB E + 87), .int x1] m out.1 out.2 :=
  x_enter (by decide +kernel) (Nat.le_of_ble_eq_true rfl) (pF_X10_daysOf hd (Q := _) out ⟨rfl, rfl⟩ x1 m h)
