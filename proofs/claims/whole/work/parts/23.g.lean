-- X10_believes
def J_X10_believes_125 (rec : Int32 → Int32 → Int32 → xMem → Option (Int32 × xMem)) (x1 : Int32) (x2 : Int32) (x3 : Int32) (x4 : Int32) (m : xMem) : Option (Int32 × xMem) :=
  rec (x2) (x3) (x4 + 1) m
def J_X10_believes_114 (rec : Int32 → Int32 → Int32 → xMem → Option (Int32 × xMem)) (x1 : Int32) (x4 : Int32) (x5 : Int32) (m : xMem) : Option (Int32 × xMem) :=
  if xin x4 100 = true then (
  J_X10_believes_125 rec (x1) (m.1 am_says x4.toNatClampNeg) (x5) (x4) m)
  else none
def J_X10_believes_66 (rec : Int32 → Int32 → Int32 → xMem → Option (Int32 × xMem)) (x1 : Int32) (x2 : Int32) (x4 : Int32) (s0 : Int32) (m : xMem) : Option (Int32 × xMem) :=
  if xin x4 100 = true then (
  (F_X10_heard (x1) (m.1 am_says x4.toNatClampNeg) m).bind fun q_6 => (
  if s0 < q_6.1 then (
    J_X10_believes_114 rec (x1) (x4) (q_6.1) q_6.2)
  else (
    if q_6.1 = s0 then (
      if xin x1 60 = true then (
      if x2 = (q_6.2.1 am_worthNow x1.toNatClampNeg) then (
        J_X10_believes_125 rec (x1) (x2) (s0) (x4) q_6.2)
      else (
        if xin x4 100 = true then (
        if x2 ≤ (q_6.2.1 am_says x4.toNatClampNeg) then (
          J_X10_believes_125 rec (x1) (x2) (s0) (x4) q_6.2)
        else (
          J_X10_believes_114 rec (x1) (x4) (q_6.1) q_6.2))
        else none))
      else none)
    else (
      J_X10_believes_125 rec (x1) (x2) (s0) (x4) q_6.2))))
  else none
def L_X10_believes_12 (x1 : Int32) : Nat → Int32 → Int32 → Int32 → xMem → Option (Int32 × xMem)
  | 0, _, _, _, _ => none
  | fk + 1, x2, x3, x4, m =>
    if (m.1 am fGuideBookModel_letters) ≤ x4 then (
      some (x2, m))
    else (
      (F_X10_isOpen (x4) (x1) m).bind fun q_2 => (
      if q_2.1 = 0 then (
        J_X10_believes_125 (fun y_36 y_37 y_38 m_39 => L_X10_believes_12 x1 fk y_36 y_37 y_38 m_39) (x1) (x2) (x3) (x4) q_2.2)
      else (
        if xin x4 100 = true then (
        if xin x1 60 = true then (
        if (q_2.2.1 am_says x4.toNatClampNeg) = (q_2.2.1 am_worthNow x1.toNatClampNeg) then (
          J_X10_believes_125 (fun y_40 y_41 y_42 m_43 => L_X10_believes_12 x1 fk y_40 y_41 y_42 m_43) (x1) (x2) (x3) (x4) q_2.2)
        else (
          if 0 ≤ x3 then (
            J_X10_believes_66 (fun y_44 y_45 y_46 m_47 => L_X10_believes_12 x1 fk y_44 y_45 y_46 m_47) (x1) (x2) (x4) (x3) q_2.2)
          else (
            if xin x1 60 = true then (
            (F_X10_heard (x1) (q_2.2.1 am_worthNow x1.toNatClampNeg) q_2.2).bind fun q_35 => (
            J_X10_believes_66 (fun y_48 y_49 y_50 m_51 => L_X10_believes_12 x1 fk y_48 y_49 y_50 m_51) (x1) (x2) (x4) (q_35.1) q_35.2))
            else none)))
        else none)
        else none)))
def F_X10_believes (x1 : Int32) (m : xMem) : Option (Int32 × xMem) :=
  if xin x1 60 = true then (
  L_X10_believes_12 (x1) xfuel (m.1 am_worthNow x1.toNatClampNeg) ((-1 : Int32)) ((0 : Int32)) m)
  else none
set_option maxHeartbeats 4000000 in
set_option maxRecDepth 100000 in
theorem pJ_X10_believes_125 {E : xE} {d : Nat} {Q : Option Value → xS → Prop} (hd : 4 ≤ d) (out : Int32 × xMem) (hR : Q (some (.int out.1)) (xf E out.2)) (rec : Int32 → Int32 → Int32 → xMem → Option (Int32 × xMem)) (x1 : Int32) (x2 : Int32) (x3 : Int32) (x4 : Int32) (hrec : ∀ (x2 : Int32) (x3 : Int32) (x4 : Int32) (m : xMem), rec x2 x3 x4 m = some out → xX E mX10_believes d 0 0 0 0 Q 12 [(0, .ref (xB E + 87)), (1, .int (x1)), (2, .int (x2)), (3, .int (x3)), (4, .int (x4))] [] (xf E m)) (m : xMem) (hf : J_X10_believes_125 rec x1 x2 x3 x4 m = some out) : xX E mX10_believes d 0 0 0 0 Q 125 [(0, .ref (xB E + 87)), (1, .int (x1)), (2, .int (x2)), (3, .int (x3)), (4, .int (x4))] [] (xf E m) := by
  unfold J_X10_believes_125 at hf
  refine x_iinc (v := x4 + 1) (lv' := [(0, .ref (xB E + 87)), (1, .int (x1)), (2, .int (x2)), (3, .int (x3)), (4, .int (x4 + 1))]) dX10_believes_125 4 [1, 2, 3, 4, 0] rfl rfl (by decide) rfl ?_
  refine x_goto 12 dX10_believes_128 (by decide) ?_
  exact hrec _ _ _ _ hf
set_option maxHeartbeats 4000000 in
set_option maxRecDepth 100000 in
theorem pJ_X10_believes_114 {E : xE} {d : Nat} {Q : Option Value → xS → Prop} (hd : 4 ≤ d) (out : Int32 × xMem) (hR : Q (some (.int out.1)) (xf E out.2)) (rec : Int32 → Int32 → Int32 → xMem → Option (Int32 × xMem)) (x1 : Int32) (x4 : Int32) (x5 : Int32) (hrec : ∀ (x2 : Int32) (x3 : Int32) (x4 : Int32) (m : xMem), rec x2 x3 x4 m = some out → xX E mX10_believes d 0 0 0 0 Q 12 [(0, .ref (xB E + 87)), (1, .int (x1)), (2, .int (x2)), (3, .int (x3)), (4, .int (x4))] [] (xf E m)) (m : xMem) (hf : J_X10_believes_114 rec x1 x4 x5 m = some out) : xX E mX10_believes d 0 0 0 0 Q 114 [(0, .ref (xB E + 87)), (1, .int (x1)), (4, .int (x4)), (5, .int (x5))] [] (xf E m) := by
  unfold J_X10_believes_114 at hf
  refine x_aload_n dX10_believes_114 rfl ?_
  refine f_getR (b := 115) dX10_believes_115 xcl_10 (by decide) fl_RX10_121 (by decide) sh_87 rfl ?_
  refine x_iload dX10_believes_118 rfl ?_
  have hg_7 := x_gd hf
  replace hf := hg_7.2
  refine f_iald dX10_believes_120 (by decide) sh_115 hg_7.1 ?_
  refine x_istore_n (lv' := [(0, .ref (xB E + 87)), (1, .int (x1)), (2, .int (m.1 am_says x4.toNatClampNeg)), (4, .int (x4)), (5, .int (x5))]) dX10_believes_121 [1, 2, 0, 3, 4] (by decide) rfl ?_
  refine x_iload dX10_believes_122 rfl ?_
  refine x_istore_n (lv' := [(0, .ref (xB E + 87)), (1, .int (x1)), (2, .int (m.1 am_says x4.toNatClampNeg)), (3, .int (x5)), (4, .int (x4))]) dX10_believes_124 [1, 2, 3, 0, 4] (by decide) rfl ?_
  exact pJ_X10_believes_125 hd out hR _ _ _ _ _ hrec _ hf
set_option maxHeartbeats 4000000 in
set_option maxRecDepth 100000 in
theorem pJ_X10_believes_66 {E : xE} {d : Nat} {Q : Option Value → xS → Prop} (hd : 4 ≤ d) (out : Int32 × xMem) (hR : Q (some (.int out.1)) (xf E out.2)) (rec : Int32 → Int32 → Int32 → xMem → Option (Int32 × xMem)) (x1 : Int32) (x2 : Int32) (x4 : Int32) (s0 : Int32) (hrec : ∀ (x2 : Int32) (x3 : Int32) (x4 : Int32) (m : xMem), rec x2 x3 x4 m = some out → xX E mX10_believes d 0 0 0 0 Q 12 [(0, .ref (xB E + 87)), (1, .int (x1)), (2, .int (x2)), (3, .int (x3)), (4, .int (x4))] [] (xf E m)) (m : xMem) (hf : J_X10_believes_66 rec x1 x2 x4 s0 m = some out) : xX E mX10_believes d 0 0 0 0 Q 66 [(0, .ref (xB E + 87)), (1, .int (x1)), (2, .int (x2)), (4, .int (x4))] [.int (s0)] (xf E m) := by
  unfold J_X10_believes_66 at hf
  refine x_istore_n (lv' := [(0, .ref (xB E + 87)), (1, .int (x1)), (2, .int (x2)), (3, .int (s0)), (4, .int (x4))]) dX10_believes_66 [1, 2, 3, 0, 4] (by decide) rfl ?_
  refine x_aload_n dX10_believes_67 rfl ?_
  refine x_iload_n dX10_believes_68 rfl ?_
  refine x_aload_n dX10_believes_69 rfl ?_
  refine f_getR (b := 115) dX10_believes_70 xcl_10 (by decide) fl_RX10_121 (by decide) sh_87 rfl ?_
  refine x_iload dX10_believes_73 rfl ?_
  have hg_5 := x_gd hf
  replace hf := hg_5.2
  refine f_iald dX10_believes_75 (by decide) sh_115 hg_5.1 ?_
  obtain ⟨q_6, hq_6, hf⟩ := Option.bind_eq_some_iff.mp hf
  refine f_cVi mX10_heard [.int (x1), .int (m.1 am_says x4.toNatClampNeg)] [] dX10_believes_76 cs_RX10_287 ⟨w_1258, w_80⟩ (ci := 10) rfl (by decide) sh_87 rfl rfl (Nat.le_of_ble_eq_true rfl) (by omega) (c_X10_heard (d := d - 1) (by omega) (x1) (m.1 am_says x4.toNatClampNeg) m q_6 hq_6) ?_
  refine x_istore (lv' := [(0, .ref (xB E + 87)), (1, .int (x1)), (2, .int (x2)), (3, .int (s0)), (4, .int (x4)), (5, .int (q_6.1))]) dX10_believes_79 [1, 2, 3, 4, 5, 0] (by decide) rfl ?_
  refine x_iload dX10_believes_81 rfl ?_
  refine x_iload_n dX10_believes_83 rfl ?_
  refine x_icmp_gt 114 dX10_believes_84 (by decide) (fun hc => ?_) (fun hc => ?_)
  · replace hf := x_ift hc hf
    refine x_lv (lv' := [(0, .ref (xB E + 87)), (1, .int (x1)), (4, .int (x4)), (5, .int (q_6.1))]) [0, 1, 4, 5] rfl ?_
    exact pJ_X10_believes_114 hd out hR _ _ _ _ hrec _ hf
  · replace hf := x_iff hc hf
    refine x_iload dX10_believes_87 rfl ?_
    refine x_iload_n dX10_believes_89 rfl ?_
    refine x_icmp_ne 125 dX10_believes_90 (by decide) (fun hc => ?_) (fun hc => ?_)
    · replace hf := x_iff hc hf
      refine x_lv (lv' := [(0, .ref (xB E + 87)), (1, .int (x1)), (2, .int (x2)), (3, .int (s0)), (4, .int (x4))]) [0, 1, 2, 3, 4] rfl ?_
      exact pJ_X10_believes_125 hd out hR _ _ _ _ _ hrec _ hf
    · replace hf := x_ift hc hf
      refine x_iload_n dX10_believes_93 rfl ?_
      refine x_aload_n dX10_believes_94 rfl ?_
      refine f_getR (b := 105) dX10_believes_95 xcl_10 (by decide) fl_RX10_91 (by decide) sh_87 rfl ?_
      refine x_iload_n dX10_believes_98 rfl ?_
      have hg_12 := x_gd hf
      replace hf := hg_12.2
      refine f_iald dX10_believes_99 (by decide) sh_105 hg_12.1 ?_
      refine x_icmp_eq 125 dX10_believes_100 (by decide) (fun hc => ?_) (fun hc => ?_)
      · replace hf := x_ift hc hf
        refine x_lv (lv' := [(0, .ref (xB E + 87)), (1, .int (x1)), (2, .int (x2)), (3, .int (s0)), (4, .int (x4))]) [0, 1, 2, 3, 4] rfl ?_
        exact pJ_X10_believes_125 hd out hR _ _ _ _ _ hrec _ hf
      · replace hf := x_iff hc hf
        refine x_aload_n dX10_believes_103 rfl ?_
        refine f_getR (b := 115) dX10_believes_104 xcl_10 (by decide) fl_RX10_121 (by decide) sh_87 rfl ?_
        refine x_iload dX10_believes_107 rfl ?_
        have hg_13 := x_gd hf
        replace hf := hg_13.2
        refine f_iald dX10_believes_109 (by decide) sh_115 hg_13.1 ?_
        refine x_iload_n dX10_believes_110 rfl ?_
        refine x_icmp_ge 125 dX10_believes_111 (by decide) (fun hc => ?_) (fun hc => ?_)
        · replace hf := x_ift hc hf
          refine x_lv (lv' := [(0, .ref (xB E + 87)), (1, .int (x1)), (2, .int (x2)), (3, .int (s0)), (4, .int (x4))]) [0, 1, 2, 3, 4] rfl ?_
          exact pJ_X10_believes_125 hd out hR _ _ _ _ _ hrec _ hf
        · replace hf := x_iff hc hf
          refine x_lv (lv' := [(0, .ref (xB E + 87)), (1, .int (x1)), (4, .int (x4)), (5, .int (q_6.1))]) [0, 1, 4, 5] rfl ?_
          exact pJ_X10_believes_114 hd out hR _ _ _ _ hrec _ hf
set_option maxHeartbeats 4000000 in
set_option maxRecDepth 100000 in
theorem pL_X10_believes_12 {E : xE} {d : Nat} {Q : Option Value → xS → Prop} (hd : 4 ≤ d) (out : Int32 × xMem) (hR : Q (some (.int out.1)) (xf E out.2)) (x1 : Int32) : ∀ (fk : Nat) (x2 : Int32) (x3 : Int32) (x4 : Int32) (m : xMem), L_X10_believes_12 x1 fk x2 x3 x4 m = some out → xX E mX10_believes d 0 0 0 0 Q 12 [(0, .ref (xB E + 87)), (1, .int (x1)), (2, .int (x2)), (3, .int (x3)), (4, .int (x4))] [] (xf E m) := by
  intro fk
  induction fk with
  | zero => intro x2 x3 x4 m hf; cases hf
  | succ fk ih =>
    intro x2 x3 x4 m hf
    rw [L_X10_believes_12] at hf
    refine x_iload dX10_believes_12 rfl ?_
    refine x_aload_n dX10_believes_14 rfl ?_
    refine f_getI dX10_believes_15 xcl_10 (by decide) fl_RX10_264 (by decide) sh_87 rfl ?_
    refine x_icmp_ge 131 dX10_believes_18 (by decide) (fun hc => ?_) (fun hc => ?_)
    · replace hf := x_ift hc hf
      refine x_iload_n dX10_believes_131 rfl ?_
      exact x_iret dX10_believes_132 rfl (by cases hf; exact hR)
    · replace hf := x_iff hc hf
      refine x_aload_n dX10_believes_21 rfl ?_
      refine x_iload dX10_believes_22 rfl ?_
      refine x_iload_n dX10_believes_24 rfl ?_
      obtain ⟨q_2, hq_2, hf⟩ := Option.bind_eq_some_iff.mp hf
      refine f_cVi mX10_isOpen [.int (x4), .int (x1)] [] dX10_believes_25 cs_RX10_283 ⟨w_1254, w_79⟩ (ci := 10) rfl (by decide) sh_87 rfl rfl (Nat.le_of_ble_eq_true rfl) (by omega) (c_X10_isOpen (d := d - 1) (by omega) (x4) (x1) m q_2 hq_2) ?_
      refine x_if_eq 125 dX10_believes_28 (by decide) (fun hc => ?_) (fun hc => ?_)
      · replace hf := x_ift hc hf
        exact pJ_X10_believes_125 hd out hR _ _ _ _ _ (fun y0 y1 y2 m9 h9 => ih y0 y1 y2 m9 h9) _ hf
      · replace hf := x_iff hc hf
        refine x_aload_n dX10_believes_31 rfl ?_
        refine f_getR (b := 115) dX10_believes_32 xcl_10 (by decide) fl_RX10_121 (by decide) sh_87 rfl ?_
        refine x_iload dX10_believes_35 rfl ?_
        have hg_3 := x_gd hf
        replace hf := hg_3.2
        refine f_iald dX10_believes_37 (by decide) sh_115 hg_3.1 ?_
        refine x_aload_n dX10_believes_38 rfl ?_
        refine f_getR (b := 105) dX10_believes_39 xcl_10 (by decide) fl_RX10_91 (by decide) sh_87 rfl ?_
        refine x_iload_n dX10_believes_42 rfl ?_
        have hg_4 := x_gd hf
        replace hf := hg_4.2
        refine f_iald dX10_believes_43 (by decide) sh_105 hg_4.1 ?_
        refine x_icmp_eq 125 dX10_believes_44 (by decide) (fun hc => ?_) (fun hc => ?_)
        · replace hf := x_ift hc hf
          exact pJ_X10_believes_125 hd out hR _ _ _ _ _ (fun y0 y1 y2 m9 h9 => ih y0 y1 y2 m9 h9) _ hf
        · replace hf := x_iff hc hf
          refine x_iload_n dX10_believes_47 rfl ?_
          refine x_if_ge 65 dX10_believes_48 (by decide) (fun hc => ?_) (fun hc => ?_)
          · replace hf := x_ift hc hf
            refine x_iload_n dX10_believes_65 rfl ?_
            refine x_lv (lv' := [(0, .ref (xB E + 87)), (1, .int (x1)), (2, .int (x2)), (4, .int (x4))]) [0, 1, 2, 4] rfl ?_
            exact pJ_X10_believes_66 hd out hR _ _ _ _ _ (fun y0 y1 y2 m9 h9 => ih y0 y1 y2 m9 h9) _ hf
          · replace hf := x_iff hc hf
            refine x_aload_n dX10_believes_51 rfl ?_
            refine x_iload_n dX10_believes_52 rfl ?_
            refine x_aload_n dX10_believes_53 rfl ?_
            refine f_getR (b := 105) dX10_believes_54 xcl_10 (by decide) fl_RX10_91 (by decide) sh_87 rfl ?_
            refine x_iload_n dX10_believes_57 rfl ?_
            have hg_34 := x_gd hf
            replace hf := hg_34.2
            refine f_iald dX10_believes_58 (by decide) sh_105 hg_34.1 ?_
            obtain ⟨q_35, hq_35, hf⟩ := Option.bind_eq_some_iff.mp hf
            refine f_cVi mX10_heard [.int (x1), .int (q_2.2.1 am_worthNow x1.toNatClampNeg)] [] dX10_believes_59 cs_RX10_287 ⟨w_1258, w_80⟩ (ci := 10) rfl (by decide) sh_87 rfl rfl (Nat.le_of_ble_eq_true rfl) (by omega) (c_X10_heard (d := d - 1) (by omega) (x1) (q_2.2.1 am_worthNow x1.toNatClampNeg) q_2.2 q_35 hq_35) ?_
            refine x_goto 66 dX10_believes_62 (by decide) ?_
            refine x_lv (lv' := [(0, .ref (xB E + 87)), (1, .int (x1)), (2, .int (x2)), (4, .int (x4))]) [0, 1, 2, 4] rfl ?_
            exact pJ_X10_believes_66 hd out hR _ _ _ _ _ (fun y0 y1 y2 m9 h9 => ih y0 y1 y2 m9 h9) _ hf
set_option maxHeartbeats 4000000 in
set_option maxRecDepth 100000 in
theorem pF_X10_believes {E : xE} {d : Nat} {Q : Option Value → xS → Prop} (hd : 4 ≤ d) (out : Int32 × xMem) (hR : Q (some (.int out.1)) (xf E out.2)) (x1 : Int32) (m : xMem) (hf : F_X10_believes x1 m = some out) : xX E mX10_believes d 0 0 0 0 Q 0 [(0, .ref (xB E + 87)), (1, .int (x1))] [] (xf E m) := by
  unfold F_X10_believes at hf
  refine x_aload_n dX10_believes_0 rfl ?_
  refine f_getR (b := 105) dX10_believes_1 xcl_10 (by decide) fl_RX10_91 (by decide) sh_87 rfl ?_
  refine x_iload_n dX10_believes_4 rfl ?_
  have hg_1 := x_gd hf
  replace hf := hg_1.2
  refine f_iald dX10_believes_5 (by decide) sh_105 hg_1.1 ?_
  refine x_istore_n (lv' := [(0, .ref (xB E + 87)), (1, .int (x1)), (2, .int (m.1 am_worthNow x1.toNatClampNeg))]) dX10_believes_6 [1, 2, 0] (by decide) rfl ?_
  refine x_iconst (v := (-1)) dX10_believes_7 (by decide) ?_
  refine x_istore_n (lv' := [(0, .ref (xB E + 87)), (1, .int (x1)), (2, .int (m.1 am_worthNow x1.toNatClampNeg)), (3, .int ((-1 : Int32)))]) dX10_believes_8 [1, 2, 3, 0] (by decide) rfl ?_
  refine x_iconst (v := 0) dX10_believes_9 (by decide) ?_
  refine x_istore (lv' := [(0, .ref (xB E + 87)), (1, .int (x1)), (2, .int (m.1 am_worthNow x1.toNatClampNeg)), (3, .int ((-1 : Int32))), (4, .int ((0 : Int32)))]) dX10_believes_10 [1, 2, 3, 4, 0] (by decide) rfl ?_
  refine pL_X10_believes_12 hd out hR _ xfuel _ _ _ _ hf
theorem c_X10_believes {E : xE} {d : Nat} (hd : 4 ≤ d) (x1 : Int32) (m : xMem) (out : Int32 × xMem) (h : F_X10_believes x1 m = some out) : xCi E mX10_believes d [.ref (xB E + 87), .int x1] m out.1 out.2 :=
  x_enter (by decide +kernel) (Nat.le_of_ble_eq_true rfl) (pF_X10_believes hd (Q := _) out ⟨rfl, rfl⟩ x1 m h)
-- X10_believed
def F_X10_believed (x1 : Int32) (m : xMem) : Option (Int32 × xMem) :=
  (F_X10_isFact (x1) (xst m.1 am fGuideBookModel_thrown (0 : Int32), m.2)).bind fun q_1 => (
  if q_1.1 = 0 then (
    some ((-1 : Int32), q_1.2))
  else (
    (F_X10_believes (x1) q_1.2).bind fun q_2 => (
    some (q_2.1, q_2.2))))
set_option maxHeartbeats 4000000 in
set_option maxRecDepth 100000 in
theorem pF_X10_believed {E : xE} {d : Nat} {Q : Option Value → xS → Prop} (hd : 5 ≤ d) (out : Int32 × xMem) (hR : Q (some (.int out.1)) (xf E out.2)) (x1 : Int32) (m : xMem) (hf : F_X10_believed x1 m = some out) : xX E mX10_believed d 0 0 0 0 Q 0 [(0, .ref (xB E + 87)), (1, .int (x1))] [] (xf E m) := by
  unfold F_X10_believed at hf
  refine x_aload_n dX10_believed_0 rfl ?_
  refine x_iconst (v := 0) dX10_believed_1 (by decide) ?_
  refine f_putI dX10_believed_2 xcl_10 (by decide) fl_RX10_1 rfl rfl (by decide) sh_87 rfl ?_
  refine x_aload_n dX10_believed_5 rfl ?_
  refine x_iload_n dX10_believed_6 rfl ?_
  obtain ⟨q_1, hq_1, hf⟩ := Option.bind_eq_some_iff.mp hf
  refine f_cVi mX10_isFact [.int (x1)] [] dX10_believed_7 cs_RX10_253 ⟨w_1187, w_71⟩ (ci := 10) rfl (by decide) sh_87 rfl rfl (Nat.le_of_ble_eq_true rfl) (by omega) (c_X10_isFact (d := d - 1) (by omega) (x1) (xst m.1 am fGuideBookModel_thrown (0 : Int32), m.2) q_1 hq_1) ?_
  refine x_if_eq 21 dX10_believed_10 (by decide) (fun hc => ?_) (fun hc => ?_)
  · replace hf := x_ift hc hf
    refine x_iconst (v := (-1)) dX10_believed_21 (by decide) ?_
    exact x_iret dX10_believed_22 rfl (by cases hf; exact hR)
  · replace hf := x_iff hc hf
    refine x_aload_n dX10_believed_13 rfl ?_
    refine x_iload_n dX10_believed_14 rfl ?_
    obtain ⟨q_2, hq_2, hf⟩ := Option.bind_eq_some_iff.mp hf
    refine f_cVi mX10_believes [.int (x1)] [] dX10_believed_15 cs_RX10_291 ⟨w_1250, w_78⟩ (ci := 10) rfl (by decide) sh_87 rfl rfl (Nat.le_of_ble_eq_true rfl) (by omega) (c_X10_believes (d := d - 1) (by omega) (x1) q_1.2 q_2 hq_2) ?_
    refine x_goto 22 dX10_believed_18 (by decide) ?_
    exact x_iret dX10_believed_22 rfl (by cases hf; exact hR)
theorem c_X10_believed {E : xE} {d : Nat} (hd : 5 ≤ d) (x1 : Int32) (m : xMem) (out : Int32 × xMem) (h : F_X10_believed x1 m = some out) : xCi E mX10_believed d [.ref (xB E + 87), .int x1] m out.1 out.2 :=
  x_enter (by decide +kernel) (Nat.le_of_ble_eq_true rfl) (pF_X10_believed hd (Q := _) out ⟨rfl, rfl⟩ x1 m h)
-- X3_differOn
def J_X3_differOn_48 (rec : Int32 → Int32 → xMem → Option (Int32 × xMem)) (x1 : Int32) (x2 : Int32) (x3 : Int32) (m : xMem) : Option (Int32 × xMem) :=
  rec (x2) (x3 + 1) m
def J_X3_differOn_41 (rec : Int32 → Int32 → xMem → Option (Int32 × xMem)) (x1 : Int32) (x3 : Int32) (m : xMem) : Option (Int32 × xMem) :=
  if xin x3 100 = true then (
  J_X3_differOn_48 rec (x1) (m.1 ag_letters_said x3.toNatClampNeg) (x3) m)
  else none
def L_X3_differOn_4 (x1 : Int32) : Nat → Int32 → Int32 → xMem → Option (Int32 × xMem)
  | 0, _, _, _ => none
  | fk + 1, x2, x3, m =>
    if (m.1 ag_letters fLetters_size) ≤ x3 then (
      some ((0 : Int32), m))
    else (
      (F_X3_isOpenOn (x3) (x1) m).bind fun q_1 => (
      if q_1.1 = 0 then (
        J_X3_differOn_48 (fun y_7 y_8 m_9 => L_X3_differOn_4 x1 fk y_7 y_8 m_9) (x1) (x2) (x3) q_1.2)
      else (
        if x2 = (-1 : Int32) then (
          J_X3_differOn_41 (fun y_10 y_11 m_12 => L_X3_differOn_4 x1 fk y_10 y_11 m_12) (x1) (x3) q_1.2)
        else (
          if xin x3 100 = true then (
          if x2 = (q_1.2.1 ag_letters_said x3.toNatClampNeg) then (
            J_X3_differOn_41 (fun y_13 y_14 m_15 => L_X3_differOn_4 x1 fk y_13 y_14 m_15) (x1) (x3) q_1.2)
          else (
            some ((1 : Int32), q_1.2)))
          else none))))
def F_X3_differOn (x1 : Int32) (m : xMem) : Option (Int32 × xMem) :=
  L_X3_differOn_4 (x1) xfuel ((-1 : Int32)) ((0 : Int32)) m
set_option maxHeartbeats 4000000 in
set_option maxRecDepth 100000 in
theorem pJ_X3_differOn_48 {E : xE} {d : Nat} {Q : Option Value → xS → Prop} (hd : 2 ≤ d) (out : Int32 × xMem) (hR : Q (some (.int out.1)) (xf E out.2)) (rec : Int32 → Int32 → xMem → Option (Int32 × xMem)) (x1 : Int32) (x2 : Int32) (x3 : Int32) (hrec : ∀ (x2 : Int32) (x3 : Int32) (m : xMem), rec x2 x3 m = some out → xX E mX3_differOn d 0 0 0 0 Q 4 [(0, .ref (xB E + 10)), (1, .int (x1)), (2, .int (x2)), (3, .int (x3))] [] (xf E m)) (m : xMem) (hf : J_X3_differOn_48 rec x1 x2 x3 m = some out) : xX E mX3_differOn d 0 0 0 0 Q 48 [(0, .ref (xB E + 10)), (1, .int (x1)), (2, .int (x2)), (3, .int (x3))] [] (xf E m) := by
  unfold J_X3_differOn_48 at hf
  refine x_iinc (v := x3 + 1) (lv' := [(0, .ref (xB E + 10)), (1, .int (x1)), (2, .int (x2)), (3, .int (x3 + 1))]) dX3_differOn_48 3 [1, 2, 3, 0] rfl rfl (by decide) rfl ?_
  refine x_goto 4 dX3_differOn_51 (by decide) ?_
  exact hrec _ _ _ hf
set_option maxHeartbeats 4000000 in
set_option maxRecDepth 100000 in
theorem pJ_X3_differOn_41 {E : xE} {d : Nat} {Q : Option Value → xS → Prop} (hd : 2 ≤ d) (out : Int32 × xMem) (hR : Q (some (.int out.1)) (xf E out.2)) (rec : Int32 → Int32 → xMem → Option (Int32 × xMem)) (x1 : Int32) (x3 : Int32) (hrec : ∀ (x2 : Int32) (x3 : Int32) (m : xMem), rec x2 x3 m = some out → xX E mX3_differOn d 0 0 0 0 Q 4 [(0, .ref (xB E + 10)), (1, .int (x1)), (2, .int (x2)), (3, .int (x3))] [] (xf E m)) (m : xMem) (hf : J_X3_differOn_41 rec x1 x3 m = some out) : xX E mX3_differOn d 0 0 0 0 Q 41 [(0, .ref (xB E + 10)), (1, .int (x1)), (3, .int (x3))] [] (xf E m) := by
  unfold J_X3_differOn_41 at hf
  refine x_aload_n dX3_differOn_41 rfl ?_
  refine f_getR (b := 13) dX3_differOn_42 xcl_3 (by decide) fl_RX3_18 (by decide) sh_10 rfl ?_
  refine x_iload_n dX3_differOn_45 rfl ?_
  have hg_2 := x_gd hf
  replace hf := hg_2.2
  refine f_iald dX3_differOn_46 (by decide) sh_13 hg_2.1 ?_
  refine x_istore_n (lv' := [(0, .ref (xB E + 10)), (1, .int (x1)), (2, .int (m.1 ag_letters_said x3.toNatClampNeg)), (3, .int (x3))]) dX3_differOn_47 [1, 2, 0, 3] (by decide) rfl ?_
  exact pJ_X3_differOn_48 hd out hR _ _ _ _ hrec _ hf
set_option maxHeartbeats 4000000 in
set_option maxRecDepth 100000 in
theorem pL_X3_differOn_4 {E : xE} {d : Nat} {Q : Option Value → xS → Prop} (hd : 2 ≤ d) (out : Int32 × xMem) (hR : Q (some (.int out.1)) (xf E out.2)) (x1 : Int32) : ∀ (fk : Nat) (x2 : Int32) (x3 : Int32) (m : xMem), L_X3_differOn_4 x1 fk x2 x3 m = some out → xX E mX3_differOn d 0 0 0 0 Q 4 [(0, .ref (xB E + 10)), (1, .int (x1)), (2, .int (x2)), (3, .int (x3))] [] (xf E m) := by
  intro fk
  induction fk with
  | zero => intro x2 x3 m hf; cases hf
  | succ fk ih =>
    intro x2 x3 m hf
    rw [L_X3_differOn_4] at hf
    refine x_iload_n dX3_differOn_4 rfl ?_
    refine x_aload_n dX3_differOn_5 rfl ?_
    refine f_getI dX3_differOn_6 xcl_3 (by decide) fl_RX3_30 (by decide) sh_10 rfl ?_
    refine x_icmp_ge 54 dX3_differOn_9 (by decide) (fun hc => ?_) (fun hc => ?_)
    · replace hf := x_ift hc hf
      refine x_iconst (v := 0) dX3_differOn_54 (by decide) ?_
      exact x_zret dX3_differOn_55 rfl (by decide) (by cases hf; exact hR)
    · replace hf := x_iff hc hf
      refine x_aload_n dX3_differOn_12 rfl ?_
      refine x_iload_n dX3_differOn_13 rfl ?_
      refine x_iload_n dX3_differOn_14 rfl ?_
      obtain ⟨q_1, hq_1, hf⟩ := Option.bind_eq_some_iff.mp hf
      refine f_cVi mX3_isOpenOn [.int (x3), .int (x1)] [] dX3_differOn_15 cs_RX3_37 ⟨w_426, w_3⟩ (ci := 3) rfl (by decide) sh_10 rfl rfl (Nat.le_of_ble_eq_true rfl) (by omega) (c_X3_isOpenOn (d := d - 1) (by omega) (x3) (x1) m q_1 hq_1) ?_
      refine x_if_ne 24 dX3_differOn_18 (by decide) (fun hc => ?_) (fun hc => ?_)
      · replace hf := x_iff hc hf
        refine x_iload_n dX3_differOn_24 rfl ?_
        refine x_iconst (v := (-1)) dX3_differOn_25 (by decide) ?_
        refine x_icmp_eq 41 dX3_differOn_26 (by decide) (fun hc => ?_) (fun hc => ?_)
        · replace hf := x_ift hc hf
          refine x_lv (lv' := [(0, .ref (xB E + 10)), (1, .int (x1)), (3, .int (x3))]) [0, 1, 3] rfl ?_
          exact pJ_X3_differOn_41 hd out hR _ _ _ (fun y0 y1 m9 h9 => ih y0 y1 m9 h9) _ hf
        · replace hf := x_iff hc hf
          refine x_iload_n dX3_differOn_29 rfl ?_
          refine x_aload_n dX3_differOn_30 rfl ?_
          refine f_getR (b := 13) dX3_differOn_31 xcl_3 (by decide) fl_RX3_18 (by decide) sh_10 rfl ?_
          refine x_iload_n dX3_differOn_34 rfl ?_
          have hg_6 := x_gd hf
          replace hf := hg_6.2
          refine f_iald dX3_differOn_35 (by decide) sh_13 hg_6.1 ?_
          refine x_icmp_eq 41 dX3_differOn_36 (by decide) (fun hc => ?_) (fun hc => ?_)
          · replace hf := x_ift hc hf
            refine x_lv (lv' := [(0, .ref (xB E + 10)), (1, .int (x1)), (3, .int (x3))]) [0, 1, 3] rfl ?_
            exact pJ_X3_differOn_41 hd out hR _ _ _ (fun y0 y1 m9 h9 => ih y0 y1 m9 h9) _ hf
          · replace hf := x_iff hc hf
            refine x_iconst (v := 1) dX3_differOn_39 (by decide) ?_
            exact x_zret dX3_differOn_40 rfl (by decide) (by cases hf; exact hR)
      · replace hf := x_ift hc hf
        refine x_goto 48 dX3_differOn_21 (by decide) ?_
        exact pJ_X3_differOn_48 hd out hR _ _ _ _ (fun y0 y1 m9 h9 => ih y0 y1 m9 h9) _ hf
set_option maxHeartbeats 4000000 in
set_option maxRecDepth 100000 in
theorem pF_X3_differOn {E : xE} {d : Nat} {Q : Option Value → xS → Prop} (hd : 2 ≤ d) (out : Int32 × xMem) (hR : Q (some (.int out.1)) (xf E out.2)) (x1 : Int32) (m : xMem) (hf : F_X3_differOn x1 m = some out) : xX E mX3_differOn d 0 0 0 0 Q 0 [(0, .ref (xB E + 10)), (1, .int (x1))] [] (xf E m) := by
  unfold F_X3_differOn at hf
  refine x_iconst (v := (-1)) dX3_differOn_0 (by decide) ?_
  refine x_istore_n (lv' := [(0, .ref (xB E + 10)), (1, .int (x1)), (2, .int ((-1 : Int32)))]) dX3_differOn_1 [1, 2, 0] (by decide) rfl ?_
  refine x_iconst (v := 0) dX3_differOn_2 (by decide) ?_
  refine x_istore_n (lv' := [(0, .ref (xB E + 10)), (1, .int (x1)), (2, .int ((-1 : Int32))), (3, .int ((0 : Int32)))]) dX3_differOn_3 [1, 2, 3, 0] (by decide) rfl ?_
  refine pL_X3_differOn_4 hd out hR _ xfuel _ _ _ hf
theorem c_X3_differOn {E : xE} {d : Nat} (hd : 2 ≤ d) (x1 : Int32) (m : xMem) (out : Int32 × xMem) (h : F_X3_differOn x1 m = some out) : xCi E mX3_differOn d [.ref (xB E + 10), .int x1] m out.1 out.2 :=
  x_enter (by decide +kernel) (Nat.le_of_ble_eq_true rfl) (pF_X3_differOn hd (Q := _) out ⟨rfl, rfl⟩ x1 m h)
-- X9_quarrel
def F_X9_quarrel (x1 : Int32) (m : xMem) : Option (Int32 × xMem) :=
  (F_X2_has (x1) m).bind fun q_1 => (
  if q_1.1 = 0 then (
    some ((-1 : Int32), q_1.2))
  else (
    (F_X3_differOn (x1) q_1.2).bind fun q_2 => (
    if q_2.1 = 0 then (
      some ((0 : Int32), q_2.2))
    else (
      some ((1 : Int32), q_2.2)))))
set_option maxHeartbeats 4000000 in
set_option maxRecDepth 100000 in
theorem pF_X9_quarrel {E : xE} {d : Nat} {Q : Option Value → xS → Prop} (hd : 3 ≤ d) (out : Int32 × xMem) (hR : Q (some (.int out.1)) (xf E out.2)) (x1 : Int32) (m : xMem) (hf : F_X9_quarrel x1 m = some out) : xX E mX9_quarrel d 0 0 0 0 Q 0 [(0, .ref (xB E + 0)), (1, .int (x1))] [] (xf E m) := by
  unfold F_X9_quarrel at hf
  refine x_aload_n dX9_quarrel_0 rfl ?_
  refine f_getR (b := 1) dX9_quarrel_1 xcl_9 (by decide) fl_RX9_12 (by decide) sh_0 rfl ?_
  refine x_iload_n dX9_quarrel_4 rfl ?_
  obtain ⟨q_1, hq_1, hf⟩ := Option.bind_eq_some_iff.mp hf
  refine f_cVi mX2_has [.int (x1)] [] dX9_quarrel_5 cs_RX9_107 ⟨w_414, w_1⟩ (ci := 2) rfl (by decide) sh_1 rfl rfl (Nat.le_of_ble_eq_true rfl) (by omega) (c_X2_has (d := d - 1) (by omega) (x1) m q_1 hq_1) ?_
  refine x_if_ne 13 dX9_quarrel_8 (by decide) (fun hc => ?_) (fun hc => ?_)
  · replace hf := x_iff hc hf
    refine x_aload_n dX9_quarrel_13 rfl ?_
    refine f_getR (b := 10) dX9_quarrel_14 xcl_9 (by decide) fl_RX9_19 (by decide) sh_0 rfl ?_
    refine x_iload_n dX9_quarrel_17 rfl ?_
    obtain ⟨q_2, hq_2, hf⟩ := Option.bind_eq_some_iff.mp hf
    refine f_cVi mX3_differOn [.int (x1)] [] dX9_quarrel_18 cs_RX9_150 ⟨w_546, w_20⟩ (ci := 3) rfl (by decide) sh_10 rfl rfl (Nat.le_of_ble_eq_true rfl) (by omega) (c_X3_differOn (d := d - 1) (by omega) (x1) q_1.2 q_2 hq_2) ?_
    refine x_if_eq 28 dX9_quarrel_21 (by decide) (fun hc => ?_) (fun hc => ?_)
    · replace hf := x_ift hc hf
      refine x_iconst (v := 0) dX9_quarrel_28 (by decide) ?_
      exact x_iret dX9_quarrel_29 rfl (by cases hf; exact hR)
    · replace hf := x_iff hc hf
      refine x_iconst (v := 1) dX9_quarrel_24 (by decide) ?_
      refine x_goto 29 dX9_quarrel_25 (by decide) ?_
      exact x_iret dX9_quarrel_29 rfl (by cases hf; exact hR)
  · replace hf := x_ift hc hf
    refine x_iconst (v := (-1)) dX9_quarrel_11 (by decide) ?_
    exact x_iret dX9_quarrel_12 rfl (by cases hf; exact hR)
theorem c_X9_quarrel {E : xE} {d : Nat} (hd : 3 ≤ d) (x1 : Int32) (m : xMem) (out : Int32 × xMem) (h : F_X9_quarrel x1 m = some out) : xCi E mX9_quarrel d [.ref (xB E + 0), .int x1] m out.1 out.2 :=
  x_enter (by decide +kernel) (Nat.le_of_ble_eq_true rfl) (pF_X9_quarrel hd (Q := _) out ⟨rfl, rfl⟩ x1 m h)
-- X10_quarrel
def J_X10_quarrel_70 (rec : Int32 → Int32 → Int32 → xMem → Option (Int32 × xMem)) (x1 : Int32) (x2 : Int32) (x3 : Int32) (x4 : Int32) (m : xMem) : Option (Int32 × xMem) :=
  rec (x2) (x3) (x4 + 1) m
def J_X10_quarrel_61 (rec : Int32 → Int32 → Int32 → xMem → Option (Int32 × xMem)) (x1 : Int32) (x4 : Int32) (s0 : Int32) (m : xMem) : Option (Int32 × xMem) :=
  if xin x4 100 = true then (
  J_X10_quarrel_70 rec (x1) (m.1 am_says x4.toNatClampNeg) (s0) (x4) m)
  else none
def J_X10_quarrel_60 (rec : Int32 → Int32 → Int32 → xMem → Option (Int32 × xMem)) (x1 : Int32) (x3 : Int32) (x4 : Int32) (m : xMem) : Option (Int32 × xMem) :=
  J_X10_quarrel_61 rec (x1) (x4) (x3) m
def L_X10_quarrel_22 (x1 : Int32) : Nat → Int32 → Int32 → Int32 → xMem → Option (Int32 × xMem)
  | 0, _, _, _, _ => none
  | fk + 1, x2, x3, x4, m =>
    if (m.1 am fGuideBookModel_letters) ≤ x4 then (
      some (x3, m))
    else (
      (F_X10_isOpen (x4) (x1) m).bind fun q_2 => (
      if q_2.1 = 0 then (
        J_X10_quarrel_70 (fun y_13 y_14 y_15 m_16 => L_X10_quarrel_22 x1 fk y_13 y_14 y_15 m_16) (x1) (x2) (x3) (x4) q_2.2)
      else (
        if x2 < 0 then (
          J_X10_quarrel_60 (fun y_17 y_18 y_19 m_20 => L_X10_quarrel_22 x1 fk y_17 y_18 y_19 m_20) (x1) (x3) (x4) q_2.2)
        else (
          if xin x4 100 = true then (
          if x2 = (q_2.2.1 am_says x4.toNatClampNeg) then (
            J_X10_quarrel_60 (fun y_21 y_22 y_23 m_24 => L_X10_quarrel_22 x1 fk y_21 y_22 y_23 m_24) (x1) (x3) (x4) q_2.2)
          else (
            J_X10_quarrel_61 (fun y_25 y_26 y_27 m_28 => L_X10_quarrel_22 x1 fk y_25 y_26 y_27 m_28) (x1) (x4) ((1 : Int32)) q_2.2))
          else none))))
def F_X10_quarrel (x1 : Int32) (m : xMem) : Option (Int32 × xMem) :=
  (F_X10_isFact (x1) (xst m.1 am fGuideBookModel_thrown (0 : Int32), m.2)).bind fun q_1 => (
  if q_1.1 = 0 then (
    some ((-1 : Int32), q_1.2))
  else (
    L_X10_quarrel_22 (x1) xfuel ((-1 : Int32)) ((0 : Int32)) ((0 : Int32)) q_1.2))
set_option maxHeartbeats 4000000 in
set_option maxRecDepth 100000 in
theorem pJ_X10_quarrel_70 {E : xE} {d : Nat} {Q : Option Value → xS → Prop} (hd : 2 ≤ d) (out : Int32 × xMem) (hR : Q (some (.int out.1)) (xf E out.2)) (rec : Int32 → Int32 → Int32 → xMem → Option (Int32 × xMem)) (x1 : Int32) (x2 : Int32) (x3 : Int32) (x4 : Int32) (hrec : ∀ (x2 : Int32) (x3 : Int32) (x4 : Int32) (m : xMem), rec x2 x3 x4 m = some out → xX E mX10_quarrel d 0 0 0 0 Q 22 [(0, .ref (xB E + 87)), (1, .int (x1)), (2, .int (x2)), (3, .int (x3)), (4, .int (x4))] [] (xf E m)) (m : xMem) (hf : J_X10_quarrel_70 rec x1 x2 x3 x4 m = some out) : xX E mX10_quarrel d 0 0 0 0 Q 70 [(0, .ref (xB E + 87)), (1, .int (x1)), (2, .int (x2)), (3, .int (x3)), (4, .int (x4))] [] (xf E m) := by
  unfold J_X10_quarrel_70 at hf
  refine x_iinc (v := x4 + 1) (lv' := [(0, .ref (xB E + 87)), (1, .int (x1)), (2, .int (x2)), (3, .int (x3)), (4, .int (x4 + 1))]) dX10_quarrel_70 4 [1, 2, 3, 4, 0] rfl rfl (by decide) rfl ?_
  refine x_goto 22 dX10_quarrel_73 (by decide) ?_
  exact hrec _ _ _ _ hf
set_option maxHeartbeats 4000000 in
set_option maxRecDepth 100000 in
theorem pJ_X10_quarrel_61 {E : xE} {d : Nat} {Q : Option Value → xS → Prop} (hd : 2 ≤ d) (out : Int32 × xMem) (hR : Q (some (.int out.1)) (xf E out.2)) (rec : Int32 → Int32 → Int32 → xMem → Option (Int32 × xMem)) (x1 : Int32) (x4 : Int32) (s0 : Int32) (hrec : ∀ (x2 : Int32) (x3 : Int32) (x4 : Int32) (m : xMem), rec x2 x3 x4 m = some out → xX E mX10_quarrel d 0 0 0 0 Q 22 [(0, .ref (xB E + 87)), (1, .int (x1)), (2, .int (x2)), (3, .int (x3)), (4, .int (x4))] [] (xf E m)) (m : xMem) (hf : J_X10_quarrel_61 rec x1 x4 s0 m = some out) : xX E mX10_quarrel d 0 0 0 0 Q 61 [(0, .ref (xB E + 87)), (1, .int (x1)), (4, .int (x4))] [.int (s0)] (xf E m) := by
  unfold J_X10_quarrel_61 at hf
  refine x_istore_n (lv' := [(0, .ref (xB E + 87)), (1, .int (x1)), (3, .int (s0)), (4, .int (x4))]) dX10_quarrel_61 [1, 2, 0, 3] (by decide) rfl ?_
  refine x_aload_n dX10_quarrel_62 rfl ?_
  refine f_getR (b := 115) dX10_quarrel_63 xcl_10 (by decide) fl_RX10_121 (by decide) sh_87 rfl ?_
  refine x_iload dX10_quarrel_66 rfl ?_
  have hg_3 := x_gd hf
  replace hf := hg_3.2
  refine f_iald dX10_quarrel_68 (by decide) sh_115 hg_3.1 ?_
  refine x_istore_n (lv' := [(0, .ref (xB E + 87)), (1, .int (x1)), (2, .int (m.1 am_says x4.toNatClampNeg)), (3, .int (s0)), (4, .int (x4))]) dX10_quarrel_69 [1, 2, 0, 3, 4] (by decide) rfl ?_
  exact pJ_X10_quarrel_70 hd out hR _ _ _ _ _ hrec _ hf
set_option maxHeartbeats 4000000 in
set_option maxRecDepth 100000 in
theorem pJ_X10_quarrel_60 {E : xE} {d : Nat} {Q : Option Value → xS → Prop} (hd : 2 ≤ d) (out : Int32 × xMem) (hR : Q (some (.int out.1)) (xf E out.2)) (rec : Int32 → Int32 → Int32 → xMem → Option (Int32 × xMem)) (x1 : Int32) (x3 : Int32) (x4 : Int32) (hrec : ∀ (x2 : Int32) (x3 : Int32) (x4 : Int32) (m : xMem), rec x2 x3 x4 m = some out → xX E mX10_quarrel d 0 0 0 0 Q 22 [(0, .ref (xB E + 87)), (1, .int (x1)), (2, .int (x2)), (3, .int (x3)), (4, .int (x4))] [] (xf E m)) (m : xMem) (hf : J_X10_quarrel_60 rec x1 x3 x4 m = some out) : xX E mX10_quarrel d 0 0 0 0 Q 60 [(0, .ref (xB E + 87)), (1, .int (x1)), (3, .int (x3)), (4, .int (x4))] [] (xf E m) := by
  unfold J_X10_quarrel_60 at hf
  refine x_iload_n dX10_quarrel_60 rfl ?_
  refine x_lv (lv' := [(0, .ref (xB E + 87)), (1, .int (x1)), (4, .int (x4))]) [0, 1, 3] rfl ?_
  exact pJ_X10_quarrel_61 hd out hR _ _ _ _ hrec _ hf
set_option maxHeartbeats 4000000 in
set_option maxRecDepth 100000 in
theorem pL_X10_quarrel_22 {E : xE} {d : Nat} {Q : Option Value → xS → Prop} (hd : 2 ≤ d) (out : Int32 × xMem) (hR : Q (some (.int out.1)) (xf E out.2)) (x1 : Int32) : ∀ (fk : Nat) (x2 : Int32) (x3 : Int32) (x4 : Int32) (m : xMem), L_X10_quarrel_22 x1 fk x2 x3 x4 m = some out → xX E mX10_quarrel d 0 0 0 0 Q 22 [(0, .ref (xB E + 87)), (1, .int (x1)), (2, .int (x2)), (3, .int (x3)), (4, .int (x4))] [] (xf E m) := by
  intro fk
  induction fk with
  | zero => intro x2 x3 x4 m hf; cases hf
  | succ fk ih =>
    intro x2 x3 x4 m hf
    rw [L_X10_quarrel_22] at hf
    refine x_iload dX10_quarrel_22 rfl ?_
    refine x_aload_n dX10_quarrel_24 rfl ?_
    refine f_getI dX10_quarrel_25 xcl_10 (by decide) fl_RX10_264 (by decide) sh_87 rfl ?_
    refine x_icmp_ge 76 dX10_quarrel_28 (by decide) (fun hc => ?_) (fun hc => ?_)
    · replace hf := x_ift hc hf
      refine x_iload_n dX10_quarrel_76 rfl ?_
      exact x_iret dX10_quarrel_77 rfl (by cases hf; exact hR)
    · replace hf := x_iff hc hf
      refine x_aload_n dX10_quarrel_31 rfl ?_
      refine x_iload dX10_quarrel_32 rfl ?_
      refine x_iload_n dX10_quarrel_34 rfl ?_
      obtain ⟨q_2, hq_2, hf⟩ := Option.bind_eq_some_iff.mp hf
      refine f_cVi mX10_isOpen [.int (x4), .int (x1)] [] dX10_quarrel_35 cs_RX10_283 ⟨w_1254, w_79⟩ (ci := 10) rfl (by decide) sh_87 rfl rfl (Nat.le_of_ble_eq_true rfl) (by omega) (c_X10_isOpen (d := d - 1) (by omega) (x4) (x1) m q_2 hq_2) ?_
      refine x_if_eq 70 dX10_quarrel_38 (by decide) (fun hc => ?_) (fun hc => ?_)
      · replace hf := x_ift hc hf
        exact pJ_X10_quarrel_70 hd out hR _ _ _ _ _ (fun y0 y1 y2 m9 h9 => ih y0 y1 y2 m9 h9) _ hf
      · replace hf := x_iff hc hf
        refine x_iload_n dX10_quarrel_41 rfl ?_
        refine x_if_lt 60 dX10_quarrel_42 (by decide) (fun hc => ?_) (fun hc => ?_)
        · replace hf := x_ift hc hf
          refine x_lv (lv' := [(0, .ref (xB E + 87)), (1, .int (x1)), (3, .int (x3)), (4, .int (x4))]) [0, 1, 3, 4] rfl ?_
          exact pJ_X10_quarrel_60 hd out hR _ _ _ _ (fun y0 y1 y2 m9 h9 => ih y0 y1 y2 m9 h9) _ hf
        · replace hf := x_iff hc hf
          refine x_iload_n dX10_quarrel_45 rfl ?_
          refine x_aload_n dX10_quarrel_46 rfl ?_
          refine f_getR (b := 115) dX10_quarrel_47 xcl_10 (by decide) fl_RX10_121 (by decide) sh_87 rfl ?_
          refine x_iload dX10_quarrel_50 rfl ?_
          have hg_12 := x_gd hf
          replace hf := hg_12.2
          refine f_iald dX10_quarrel_52 (by decide) sh_115 hg_12.1 ?_
          refine x_icmp_eq 60 dX10_quarrel_53 (by decide) (fun hc => ?_) (fun hc => ?_)
          · replace hf := x_ift hc hf
            refine x_lv (lv' := [(0, .ref (xB E + 87)), (1, .int (x1)), (3, .int (x3)), (4, .int (x4))]) [0, 1, 3, 4] rfl ?_
            exact pJ_X10_quarrel_60 hd out hR _ _ _ _ (fun y0 y1 y2 m9 h9 => ih y0 y1 y2 m9 h9) _ hf
          · replace hf := x_iff hc hf
            refine x_iconst (v := 1) dX10_quarrel_56 (by decide) ?_
            refine x_goto 61 dX10_quarrel_57 (by decide) ?_
            refine x_lv (lv' := [(0, .ref (xB E + 87)), (1, .int (x1)), (4, .int (x4))]) [0, 1, 4] rfl ?_
            exact pJ_X10_quarrel_61 hd out hR _ _ _ _ (fun y0 y1 y2 m9 h9 => ih y0 y1 y2 m9 h9) _ hf
set_option maxHeartbeats 4000000 in
set_option maxRecDepth 100000 in
theorem pF_X10_quarrel {E : xE} {d : Nat} {Q : Option Value → xS → Prop} (hd : 2 ≤ d) (out : Int32 × xMem) (hR : Q (some (.int out.1)) (xf E out.2)) (x1 : Int32) (m : xMem) (hf : F_X10_quarrel x1 m = some out) : xX E mX10_quarrel d 0 0 0 0 Q 0 [(0, .ref (xB E + 87)), (1, .int (x1))] [] (xf E m) := by
  unfold F_X10_quarrel at hf
  refine x_aload_n dX10_quarrel_0 rfl ?_
  refine x_iconst (v := 0) dX10_quarrel_1 (by decide) ?_
  refine f_putI dX10_quarrel_2 xcl_10 (by decide) fl_RX10_1 rfl rfl (by decide) sh_87 rfl ?_
  refine x_aload_n dX10_quarrel_5 rfl ?_
  refine x_iload_n dX10_quarrel_6 rfl ?_
  obtain ⟨q_1, hq_1, hf⟩ := Option.bind_eq_some_iff.mp hf
  refine f_cVi mX10_isFact [.int (x1)] [] dX10_quarrel_7 cs_RX10_253 ⟨w_1187, w_71⟩ (ci := 10) rfl (by decide) sh_87 rfl rfl (Nat.le_of_ble_eq_true rfl) (by omega) (c_X10_isFact (d := d - 1) (by omega) (x1) (xst m.1 am fGuideBookModel_thrown (0 : Int32), m.2) q_1 hq_1) ?_
  refine x_if_ne 15 dX10_quarrel_10 (by decide) (fun hc => ?_) (fun hc => ?_)
  · replace hf := x_iff hc hf
    refine x_iconst (v := (-1)) dX10_quarrel_15 (by decide) ?_
    refine x_istore_n (lv' := [(0, .ref (xB E + 87)), (1, .int (x1)), (2, .int ((-1 : Int32)))]) dX10_quarrel_16 [1, 2, 0] (by decide) rfl ?_
    refine x_iconst (v := 0) dX10_quarrel_17 (by decide) ?_
    refine x_istore_n (lv' := [(0, .ref (xB E + 87)), (1, .int (x1)), (2, .int ((-1 : Int32))), (3, .int ((0 : Int32)))]) dX10_quarrel_18 [1, 2, 3, 0] (by decide) rfl ?_
    refine x_iconst (v := 0) dX10_quarrel_19 (by decide) ?_
    refine x_istore (lv' := [(0, .ref (xB E + 87)), (1, .int (x1)), (2, .int ((-1 : Int32))), (3, .int ((0 : Int32))), (4, .int ((0 : Int32)))]) dX10_quarrel_20 [1, 2, 3, 4, 0] (by decide) rfl ?_
    refine pL_X10_quarrel_22 hd out hR _ xfuel _ _ _ _ hf
  · replace hf := x_ift hc hf
    refine x_iconst (v := (-1)) dX10_quarrel_13 (by decide) ?_
    exact x_iret dX10_quarrel_14 rfl (by cases hf; exact hR)
theorem c_X10_quarrel {E : xE} {d : Nat} (hd : 2 ≤ d) (x1 : Int32) (m : xMem) (out : Int32 × xMem) (h : F_X10_quarrel x1 m = some out) : xCi E mX10_quarrel d [.ref (xB E + 87), .int x1] m out.1 out.2 :=
  x_enter (by decide +kernel) (Nat.le_of_ble_eq_true rfl) (pF_X10_quarrel hd (Q := _) out ⟨rfl, rfl⟩ x1 m h)
-- X3_has
def F_X3_has (x1 : Int32) (m : xMem) : Option (Int32 × xMem) :=
  if x1 < 0 then (
    some ((0 : Int32), m))
  else (
    if (m.1 ag_letters fLetters_size) ≤ x1 then (
      some ((0 : Int32), m))
    else (
      some ((1 : Int32), m)))
set_option maxHeartbeats 4000000 in
set_option maxRecDepth 100000 in
theorem pF_X3_has {E : xE} {d : Nat} {Q : Option Value → xS → Prop} (hd : 1 ≤ d) (out : Int32 × xMem) (hR : Q (some (.int out.1)) (xf E out.2)) (x1 : Int32) (m : xMem) (hf : F_X3_has x1 m = some out) : xX E mX3_has d 0 0 0 0 Q 0 [(0, .ref (xB E + 10)), (1, .int (x1))] [] (xf E m) := by
  unfold F_X3_has at hf
  refine x_iload_n dX3_has_0 rfl ?_
  refine x_if_lt 16 dX3_has_1 (by decide) (fun hc => ?_) (fun hc => ?_)
  · replace hf := x_ift hc hf
    refine x_iconst (v := 0) dX3_has_16 (by decide) ?_
    exact x_zret dX3_has_17 rfl (by decide) (by cases hf; exact hR)
  · replace hf := x_iff hc hf
    refine x_iload_n dX3_has_4 rfl ?_
    refine x_aload_n dX3_has_5 rfl ?_
    refine f_getI dX3_has_6 xcl_3 (by decide) fl_RX3_30 (by decide) sh_10 rfl ?_
    refine x_icmp_ge 16 dX3_has_9 (by decide) (fun hc => ?_) (fun hc => ?_)
    · replace hf := x_ift hc hf
      refine x_iconst (v := 0) dX3_has_16 (by decide) ?_
      exact x_zret dX3_has_17 rfl (by decide) (by cases hf; exact hR)
    · replace hf := x_iff hc hf
      refine x_iconst (v := 1) dX3_has_12 (by decide) ?_
      refine x_goto 17 dX3_has_13 (by decide) ?_
      exact x_zret dX3_has_17 rfl (by decide) (by cases hf; exact hR)
theorem c_X3_has {E : xE} {d : Nat} (hd : 1 ≤ d) (x1 : Int32) (m : xMem) (out : Int32 × xMem) (h : F_X3_has x1 m = some out) : xCi E mX3_has d [.ref (xB E + 10), .int x1] m out.1 out.2 :=
  x_enter (by decide +kernel) (Nat.le_of_ble_eq_true rfl) (pF_X3_has hd (Q := _) out ⟨rfl, rfl⟩ x1 m h)
-- X9_proof
def F_X9_proof (x1 : Int32) (m : xMem) : Option (Int32 × xMem) :=
  (F_X3_has (x1) m).bind fun q_1 => (
  if q_1.1 = 0 then (
    some ((-1 : Int32), q_1.2))
  else (
    if xin x1 100 = true then (
    some (q_1.2.1 ag_letters_state x1.toNatClampNeg, q_1.2))
    else none))
set_option maxHeartbeats 4000000 in
set_option maxRecDepth 100000 in
theorem pF_X9_proof {E : xE} {d : Nat} {Q : Option Value → xS → Prop} (hd : 2 ≤ d) (out : Int32 × xMem) (hR : Q (some (.int out.1)) (xf E out.2)) (x1 : Int32) (m : xMem) (hf : F_X9_proof x1 m = some out) : xX E mX9_proof d 0 0 0 0 Q 0 [(0, .ref (xB E + 0)), (1, .int (x1))] [] (xf E m) := by
  unfold F_X9_proof at hf
  refine x_aload_n dX9_proof_0 rfl ?_
  refine f_getR (b := 10) dX9_proof_1 xcl_9 (by decide) fl_RX9_19 (by decide) sh_0 rfl ?_
  refine x_iload_n dX9_proof_4 rfl ?_
  obtain ⟨q_1, hq_1, hf⟩ := Option.bind_eq_some_iff.mp hf
  refine f_cVi mX3_has [.int (x1)] [] dX9_proof_5 cs_RX9_153 ⟨w_554, w_21⟩ (ci := 3) rfl (by decide) sh_10 rfl rfl (Nat.le_of_ble_eq_true rfl) (by omega) (c_X3_has (d := d - 1) (by omega) (x1) m q_1 hq_1) ?_
  refine x_if_eq 23 dX9_proof_8 (by decide) (fun hc => ?_) (fun hc => ?_)
  · replace hf := x_ift hc hf
    refine x_iconst (v := (-1)) dX9_proof_23 (by decide) ?_
    exact x_iret dX9_proof_24 rfl (by cases hf; exact hR)
  · replace hf := x_iff hc hf
    refine x_aload_n dX9_proof_11 rfl ?_
    refine f_getR (b := 10) dX9_proof_12 xcl_9 (by decide) fl_RX9_19 (by decide) sh_0 rfl ?_
    refine f_getR (b := 14) dX9_proof_15 xcl_3 (by decide) fl_RX9_154 (by decide) sh_10 rfl ?_
    refine x_iload_n dX9_proof_18 rfl ?_
    have hg_2 := x_gd hf
    replace hf := hg_2.2
    refine f_iald dX9_proof_19 (by decide) sh_14 hg_2.1 ?_
    refine x_goto 24 dX9_proof_20 (by decide) ?_
    exact x_iret dX9_proof_24 rfl (by cases hf; exact hR)
theorem c_X9_proof {E : xE} {d : Nat} (hd : 2 ≤ d) (x1 : Int32) (m : xMem) (out : Int32 × xMem) (h : F_X9_proof x1 m = some out) : xCi E mX9_proof d [.ref (xB E + 0), .int x1] m out.1 out.2 :=
  x_enter (by decide +kernel) (Nat.le_of_ble_eq_true rfl) (pF_X9_proof hd (Q := _) out ⟨rfl, rfl⟩ x1 m h)
-- X10_proof
def J_X10_proof_17 (m : xMem) : Option (Int32 × xMem) :=
  some ((-1 : Int32), m)
def F_X10_proof (x1 : Int32) (m : xMem) : Option (Int32 × xMem) :=
  if x1 < 0 then (
    J_X10_proof_17 (xst m.1 am fGuideBookModel_thrown (0 : Int32), m.2))
  else (
    if x1 < ((xst m.1 am fGuideBookModel_thrown (0 : Int32)) am fGuideBookModel_letters) then (
      if xin x1 100 = true then (
      some ((xst m.1 am fGuideBookModel_thrown (0 : Int32)) am_proofs x1.toNatClampNeg, (xst m.1 am fGuideBookModel_thrown (0 : Int32), m.2)))
      else none)
    else (
      J_X10_proof_17 (xst m.1 am fGuideBookModel_thrown (0 : Int32), m.2)))
set_option maxHeartbeats 4000000 in
set_option maxRecDepth 100000 in
theorem pJ_X10_proof_17 {E : xE} {d : Nat} {Q : Option Value → xS → Prop} (hd : 1 ≤ d) (out : Int32 × xMem) (hR : Q (some (.int out.1)) (xf E out.2)) (m : xMem) (hf : J_X10_proof_17 m = some out) : xX E mX10_proof d 0 0 0 0 Q 17 [] [] (xf E m) := by
  unfold J_X10_proof_17 at hf
  refine x_iconst (v := (-1)) dX10_proof_17 (by decide) ?_
  refine x_goto 27 dX10_proof_18 (by decide) ?_
  exact x_iret dX10_proof_27 rfl (by cases hf; exact hR)
set_option maxHeartbeats 4000000 in
set_option maxRecDepth 100000 in
theorem pF_X10_proof {E : xE} {d : Nat} {Q : Option Value → xS → Prop} (hd : 1 ≤ d) (out : Int32 × xMem) (hR : Q (some (.int out.1)) (xf E out.2)) (x1 : Int32) (m : xMem) (hf : F_X10_proof x1 m = some out) : xX E mX10_proof d 0 0 0 0 Q 0 [(0, .ref (xB E + 87)), (1, .int (x1))] [] (xf E m) := by
  unfold F_X10_proof at hf
  refine x_aload_n dX10_proof_0 rfl ?_
  refine x_iconst (v := 0) dX10_proof_1 (by decide) ?_
  refine f_putI dX10_proof_2 xcl_10 (by decide) fl_RX10_1 rfl rfl (by decide) sh_87 rfl ?_
  refine x_iload_n dX10_proof_5 rfl ?_
  refine x_if_lt 17 dX10_proof_6 (by decide) (fun hc => ?_) (fun hc => ?_)
  · replace hf := x_ift hc hf
    refine x_lv (lv' := []) [] rfl ?_
    exact pJ_X10_proof_17 hd out hR _ hf
  · replace hf := x_iff hc hf
    refine x_iload_n dX10_proof_9 rfl ?_
    refine x_aload_n dX10_proof_10 rfl ?_
    refine f_getI dX10_proof_11 xcl_10 (by decide) fl_RX10_264 (by decide) sh_87 rfl ?_
    refine x_icmp_lt 21 dX10_proof_14 (by decide) (fun hc => ?_) (fun hc => ?_)
    · replace hf := x_ift hc hf
      refine x_aload_n dX10_proof_21 rfl ?_
      refine f_getR (b := 116) dX10_proof_22 xcl_10 (by decide) fl_RX10_124 (by decide) sh_87 rfl ?_
      refine x_iload_n dX10_proof_25 rfl ?_
      have hg_1 := x_gd hf
      replace hf := hg_1.2
      refine f_iald dX10_proof_26 (by decide) sh_116 hg_1.1 ?_
      exact x_iret dX10_proof_27 rfl (by cases hf; exact hR)
    · replace hf := x_iff hc hf
      refine x_lv (lv' := []) [] rfl ?_
      exact pJ_X10_proof_17 hd out hR _ hf
theorem c_X10_proof {E : xE} {d : Nat} (hd : 1 ≤ d) (x1 : Int32) (m : xMem) (out : Int32 × xMem) (h : F_X10_proof x1 m = some out) : xCi E mX10_proof d [.ref (xB E + 87), .int x1] m out.1 out.2 :=
  x_enter (by decide +kernel) (Nat.le_of_ble_eq_true rfl) (pF_X10_proof hd (Q := _) out ⟨rfl, rfl⟩ x1 m h)
-- X9_isWalker
def F_X9_isWalker (x0 : Int32) (m : xMem) : Option (Int32 × xMem) :=
  (F_X9_within (x0) ((4 : Int32)) m).bind fun q_1 => (
  if xbb q_1.1 = true then (
  some (q_1.1, q_1.2))
  else none)
set_option maxHeartbeats 4000000 in
set_option maxRecDepth 100000 in
theorem pF_X9_isWalker {E : xE} {d : Nat} {Q : Option Value → xS → Prop} (hd : 2 ≤ d) (out : Int32 × xMem) (hR : Q (some (.int out.1)) (xf E out.2)) (x0 : Int32) (m : xMem) (hf : F_X9_isWalker x0 m = some out) : xX E mX9_isWalker d 0 0 0 0 Q 0 [(0, .int (x0))] [] (xf E m) := by
  unfold F_X9_isWalker at hf
  refine x_iload_n dX9_isWalker_0 rfl ?_
  refine x_iconst (v := 4) dX9_isWalker_1 (by decide) ?_
  obtain ⟨q_1, hq_1, hf⟩ := Option.bind_eq_some_iff.mp hf
  refine f_cSi mX9_within [.int (x0), .int ((4 : Int32))] [] dX9_isWalker_2 cs_RX9_82 w_389 rfl rfl (Nat.le_of_ble_eq_true rfl) (by omega) (c_X9_within (d := d - 1) (by omega) (x0) ((4 : Int32)) m q_1 hq_1) ?_
  have hg_2 := x_gd hf
  replace hf := hg_2.2
  exact x_zret dX9_isWalker_5 rfl (xbb_n hg_2.1) (by cases hf; exact hR)
theorem c_X9_isWalker {E : xE} {d : Nat} (hd : 2 ≤ d) (x0 : Int32) (m : xMem) (out : Int32 × xMem) (h : F_X9_isWalker x0 m = some out) : xCi E mX9_isWalker d [.int x0] m out.1 out.2 :=
  x_enter (by decide +kernel) (Nat.le_of_ble_eq_true rfl) (pF_X9_isWalker hd (Q := _) out ⟨rfl, rfl⟩ x0 m h)
-- X9_mark
def F_X9_mark (x1 : Int32) (x2 : Int32) (x3 : Int32) (m : xMem) : Option (Int32 × xMem) :=
  (F_X9_isPlace (x1) m).bind fun q_1 => (
  if q_1.1 = 0 then (
    some ((0 : Int32), q_1.2))
  else (
    (F_X9_isWalker (x2) q_1.2).bind fun q_2 => (
    if q_2.1 = 0 then (
      some ((0 : Int32), q_2.2))
    else (
      (F_X9_within (x3) ((100 : Int32)) q_2.2).bind fun q_3 => (
      if q_3.1 = 0 then (
        some ((0 : Int32), q_3.2))
      else (
        if xin x1 10 = true then (
        if xin x2 5 = true then (
        some ((1 : Int32), (xst q_3.2.1 (19 + (x1).toNatClampNeg) x2.toNatClampNeg x3, q_3.2.2)))
        else none)
        else none))))))
set_option maxHeartbeats 4000000 in
set_option maxRecDepth 100000 in
theorem pF_X9_mark {E : xE} {d : Nat} {Q : Option Value → xS → Prop} (hd : 3 ≤ d) (out : Int32 × xMem) (hR : Q (some (.int out.1)) (xf E out.2)) (x1 : Int32) (x2 : Int32) (x3 : Int32) (m : xMem) (hf : F_X9_mark x1 x2 x3 m = some out) : xX E mX9_mark d 0 0 0 0 Q 0 [(0, .ref (xB E + 0)), (1, .int (x1)), (2, .int (x2)), (3, .int (x3))] [] (xf E m) := by
  unfold F_X9_mark at hf
  refine x_iload_n dX9_mark_0 rfl ?_
  obtain ⟨q_1, hq_1, hf⟩ := Option.bind_eq_some_iff.mp hf
  refine f_cSi mX9_isPlace [.int (x1)] [] dX9_mark_1 cs_RX9_94 w_399 rfl rfl (Nat.le_of_ble_eq_true rfl) (by omega) (c_X9_isPlace (d := d - 1) (by omega) (x1) m q_1 hq_1) ?_
  refine x_if_eq 23 dX9_mark_4 (by decide) (fun hc => ?_) (fun hc => ?_)
  · replace hf := x_ift hc hf
    refine x_iconst (v := 0) dX9_mark_23 (by decide) ?_
    exact x_zret dX9_mark_24 rfl (by decide) (by cases hf; exact hR)
  · replace hf := x_iff hc hf
    refine x_iload_n dX9_mark_7 rfl ?_
    obtain ⟨q_2, hq_2, hf⟩ := Option.bind_eq_some_iff.mp hf
    refine f_cSi mX9_isWalker [.int (x2)] [] dX9_mark_8 cs_RX9_157 w_561 rfl rfl (Nat.le_of_ble_eq_true rfl) (by omega) (c_X9_isWalker (d := d - 1) (by omega) (x2) q_1.2 q_2 hq_2) ?_
    refine x_if_eq 23 dX9_mark_11 (by decide) (fun hc => ?_) (fun hc => ?_)
    · replace hf := x_ift hc hf
      refine x_iconst (v := 0) dX9_mark_23 (by decide) ?_
      exact x_zret dX9_mark_24 rfl (by decide) (by cases hf; exact hR)
    · replace hf := x_iff hc hf
      refine x_iload_n dX9_mark_14 rfl ?_
      refine x_bipush (v := 100) dX9_mark_15 (by decide) ?_
      obtain ⟨q_3, hq_3, hf⟩ := Option.bind_eq_some_iff.mp hf
      refine f_cSi mX9_within [.int (x3), .int ((100 : Int32))] [] dX9_mark_17 cs_RX9_82 w_389 rfl rfl (Nat.le_of_ble_eq_true rfl) (by omega) (c_X9_within (d := d - 1) (by omega) (x3) ((100 : Int32)) q_2.2 q_3 hq_3) ?_
      refine x_if_ne 25 dX9_mark_20 (by decide) (fun hc => ?_) (fun hc => ?_)
      · replace hf := x_iff hc hf
        refine x_aload_n dX9_mark_25 rfl ?_
        refine f_getR (b := 17) dX9_mark_26 xcl_9 (by decide) fl_RX9_26 (by decide) sh_0 rfl ?_
        refine f_getR (b := 18) dX9_mark_29 xcl_4 (by decide) fl_RX9_160 (by decide) sh_17 rfl ?_
        refine x_iload_n dX9_mark_32 rfl ?_
        have hg_4 := x_gd hf
        replace hf := hg_4.2
        refine f_aald dX9_mark_33 (by decide) sh_18 hg_4.1 ?_
        refine x_iload_n dX9_mark_34 rfl ?_
        refine x_iload_n dX9_mark_35 rfl ?_
        have hg_5 := x_gd hf
        replace hf := hg_5.2
        refine f_iast dX9_mark_36 (shn_18 _ (xin_lt hg_4.1)) (shr_18 _ (xin_lt hg_4.1)) hg_5.1 ?_
        refine x_iconst (v := 1) dX9_mark_37 (by decide) ?_
        exact x_zret dX9_mark_38 rfl (by decide) (by cases hf; exact hR)
      · replace hf := x_ift hc hf
        refine x_iconst (v := 0) dX9_mark_23 (by decide) ?_
        exact x_zret dX9_mark_24 rfl (by decide) (by cases hf; exact hR)
theorem c_X9_mark {E : xE} {d : Nat} (hd : 3 ≤ d) (x1 : Int32) (x2 : Int32) (x3 : Int32) (m : xMem) (out : Int32 × xMem) (h : F_X9_mark x1 x2 x3 m = some out) : xCi E mX9_mark d [.ref (xB E + 0), .int x1, .int x2, .int x3] m out.1 out.2 :=
  x_enter (by decide +kernel) (Nat.le_of_ble_eq_true rfl) (pF_X9_mark hd (Q := _) out ⟨rfl, rfl⟩ x1 x2 x3 m h)
-- X10_mark
def F_X10_mark (x1 : Int32) (x2 : Int32) (x3 : Int32) (m : xMem) : Option (Int32 × xMem) :=
  (F_X10_isPlace (x1) (xst m.1 am fGuideBookModel_thrown (0 : Int32), m.2)).bind fun q_1 => (
  if q_1.1 = 0 then (
    some ((0 : Int32), q_1.2))
  else (
    if x2 < 0 then (
      some ((0 : Int32), q_1.2))
    else (
      if (4 : Int32) < x2 then (
        some ((0 : Int32), q_1.2))
      else (
        if x3 < 0 then (
          some ((0 : Int32), q_1.2))
        else (
          if x3 ≤ (100 : Int32) then (
            if xin (((5 : Int32) * x1) + x2) 50 = true then (
            some ((1 : Int32), (xst q_1.2.1 am_marks (((5 : Int32) * x1) + x2).toNatClampNeg x3, q_1.2.2)))
            else none)
          else (
            some ((0 : Int32), q_1.2)))))))
set_option maxHeartbeats 4000000 in
set_option maxRecDepth 100000 in
theorem pF_X10_mark {E : xE} {d : Nat} {Q : Option Value → xS → Prop} (hd : 2 ≤ d) (out : Int32 × xMem) (hR : Q (some (.int out.1)) (xf E out.2)) (x1 : Int32) (x2 : Int32) (x3 : Int32) (m : xMem) (hf : F_X10_mark x1 x2 x3 m = some out) : xX E mX10_mark d 0 0 0 0 Q 0 [(0, .ref (xB E + 87)), (1, .int (x1)), (2, .int (x2)), (3, .int (x3))] [] (xf E m) := by
  unfold F_X10_mark at hf
  refine x_aload_n dX10_mark_0 rfl ?_
  refine x_iconst (v := 0) dX10_mark_1 (by decide) ?_
  refine f_putI dX10_mark_2 xcl_10 (by decide) fl_RX10_1 rfl rfl (by decide) sh_87 rfl ?_
  refine x_iload_n dX10_mark_5 rfl ?_
  obtain ⟨q_1, hq_1, hf⟩ := Option.bind_eq_some_iff.mp hf
  refine f_cSi mX10_isPlace [.int (x1)] [] dX10_mark_6 cs_RX10_244 w_1176 rfl rfl (Nat.le_of_ble_eq_true rfl) (by omega) (c_X10_isPlace (d := d - 1) (by omega) (x1) (xst m.1 am fGuideBookModel_thrown (0 : Int32), m.2) q_1 hq_1) ?_
  refine x_if_eq 31 dX10_mark_9 (by decide) (fun hc => ?_) (fun hc => ?_)
  · replace hf := x_ift hc hf
    refine x_iconst (v := 0) dX10_mark_31 (by decide) ?_
    exact x_zret dX10_mark_32 rfl (by decide) (by cases hf; exact hR)
  · replace hf := x_iff hc hf
    refine x_iload_n dX10_mark_12 rfl ?_
    refine x_if_lt 31 dX10_mark_13 (by decide) (fun hc => ?_) (fun hc => ?_)
    · replace hf := x_ift hc hf
      refine x_iconst (v := 0) dX10_mark_31 (by decide) ?_
      exact x_zret dX10_mark_32 rfl (by decide) (by cases hf; exact hR)
    · replace hf := x_iff hc hf
      refine x_iload_n dX10_mark_16 rfl ?_
      refine x_iconst (v := 4) dX10_mark_17 (by decide) ?_
      refine x_icmp_gt 31 dX10_mark_18 (by decide) (fun hc => ?_) (fun hc => ?_)
      · replace hf := x_ift hc hf
        refine x_iconst (v := 0) dX10_mark_31 (by decide) ?_
        exact x_zret dX10_mark_32 rfl (by decide) (by cases hf; exact hR)
      · replace hf := x_iff hc hf
        refine x_iload_n dX10_mark_21 rfl ?_
        refine x_if_lt 31 dX10_mark_22 (by decide) (fun hc => ?_) (fun hc => ?_)
        · replace hf := x_ift hc hf
          refine x_iconst (v := 0) dX10_mark_31 (by decide) ?_
          exact x_zret dX10_mark_32 rfl (by decide) (by cases hf; exact hR)
        · replace hf := x_iff hc hf
          refine x_iload_n dX10_mark_25 rfl ?_
          refine x_bipush (v := 100) dX10_mark_26 (by decide) ?_
          refine x_icmp_le 33 dX10_mark_28 (by decide) (fun hc => ?_) (fun hc => ?_)
          · replace hf := x_ift hc hf
            refine x_aload_n dX10_mark_33 rfl ?_
            refine f_getR (b := 117) dX10_mark_34 xcl_10 (by decide) fl_RX10_127 (by decide) sh_87 rfl ?_
            refine x_iconst (v := 5) dX10_mark_37 (by decide) ?_
            refine x_iload_n dX10_mark_38 rfl ?_
            refine x_imul dX10_mark_39 ?_
            refine x_iload_n dX10_mark_40 rfl ?_
            refine x_iadd dX10_mark_41 ?_
            refine x_iload_n dX10_mark_42 rfl ?_
            have hg_2 := x_gd hf
            replace hf := hg_2.2
            refine f_iast dX10_mark_43 (by decide) sh_117 hg_2.1 ?_
            refine x_iconst (v := 1) dX10_mark_44 (by decide) ?_
            exact x_zret dX10_mark_45 rfl (by decide) (by cases hf; exact hR)
          · replace hf := x_iff hc hf
            refine x_iconst (v := 0) dX10_mark_31 (by decide) ?_
            exact x_zret dX10_mark_32 rfl (by decide) (by cases hf; exact hR)
theorem c_X10_mark {E : xE} {d : Nat} (hd : 2 ≤ d) (x1 : Int32) (x2 : Int32) (x3 : Int32) (m : xMem) (out : Int32 × xMem) (h : F_X10_mark x1 x2 x3 m = some out) : xCi E mX10_mark d [.ref (xB E + 87), .int x1, .int x2, .int x3] m out.1 out.2 :=
  x_enter (by decide +kernel) (Nat.le_of_ble_eq_true rfl) (pF_X10_mark hd (Q := _) out ⟨rfl, rfl⟩ x1 x2 x3 m h)
-- X10_shiftOf
def J_X10_shiftOf_67 (rec : Int32 → Int32 → Int32 → xMem → Option (Int32 × xMem)) (c73 : Int32 → Int32 → xMem → Option (Int32 × xMem)) (x1 : Int32) (x2 : Int32) (x3 : Int32) (x4 : Int32) (m : xMem) : Option (Int32 × xMem) :=
  rec (x2) (x3) (x4 + 1) m
def L_X10_shiftOf_7 (x1 : Int32) (c73 : Int32 → Int32 → xMem → Option (Int32 × xMem)) : Nat → Int32 → Int32 → Int32 → xMem → Option (Int32 × xMem)
  | 0, _, _, _, _ => none
  | fk + 1, x2, x3, x4, m =>
    if (10 : Int32) ≤ x4 then (
      c73 (x2) (x3) m)
    else (
      if xin ((5 : Int32) * x4) 50 = true then (
      if (m.1 am_marks ((5 : Int32) * x4).toNatClampNeg) < 0 then (
        J_X10_shiftOf_67 (fun y_5 y_6 y_7 m_8 => L_X10_shiftOf_7 x1 c73 fk y_5 y_6 y_7 m_8) c73 (x1) (x2) (x3) (x4) m)
      else (
        if xin (((5 : Int32) * x4) + x1) 50 = true then (
        if (m.1 am_marks (((5 : Int32) * x4) + x1).toNatClampNeg) < 0 then (
          J_X10_shiftOf_67 (fun y_9 y_10 y_11 m_12 => L_X10_shiftOf_7 x1 c73 fk y_9 y_10 y_11 m_12) c73 (x1) (x2) (x3) (x4) m)
        else (
          if xin (((5 : Int32) * x4) + x1) 50 = true then (
          if xin ((5 : Int32) * x4) 50 = true then (
          J_X10_shiftOf_67 (fun y_13 y_14 y_15 m_16 => L_X10_shiftOf_7 x1 c73 fk y_13 y_14 y_15 m_16) c73 (x1) (x2 + ((m.1 am_marks (((5 : Int32) * x4) + x1).toNatClampNeg) - (m.1 am_marks ((5 : Int32) * x4).toNatClampNeg))) (x3 + 1) (x4) m)
          else none)
          else none))
        else none))
      else none)
def F_X10_shiftOf (x1 : Int32) (m : xMem) : Option (Int32 × xMem) :=
  L_X10_shiftOf_7 (x1) (fun x2_17 x3_18 m_19 => (
    if x3_18 = 0 then (
      some ((0 : Int32), m_19))
    else (
      if x3_18 = 0 then none else (
      some (x2_17 / x3_18, m_19))))) xfuel ((0 : Int32)) ((0 : Int32)) ((0 : Int32)) m
set_option maxHeartbeats 4000000 in
set_option maxRecDepth 100000 in
theorem pJ_X10_shiftOf_67 {E : xE} {d : Nat} {Q : Option Value → xS → Prop} (hd : 1 ≤ d) (out : Int32 × xMem) (hR : Q (some (.int out.1)) (xf E out.2)) (rec : Int32 → Int32 → Int32 → xMem → Option (Int32 × xMem)) (c73 : Int32 → Int32 → xMem → Option (Int32 × xMem)) (x1 : Int32) (x2 : Int32) (x3 : Int32) (x4 : Int32) (hrec : ∀ (x2 : Int32) (x3 : Int32) (x4 : Int32) (m : xMem), rec x2 x3 x4 m = some out → xX E mX10_shiftOf d 0 0 0 0 Q 7 [(0, .ref (xB E + 87)), (1, .int (x1)), (2, .int (x2)), (3, .int (x3)), (4, .int (x4))] [] (xf E m)) (hc73 : ∀ (x2 : Int32) (x3 : Int32) (m : xMem), c73 x2 x3 m = some out → xX E mX10_shiftOf d 0 0 0 0 Q 73 [(2, .int (x2)), (3, .int (x3))] [] (xf E m)) (m : xMem) (hf : J_X10_shiftOf_67 rec c73 x1 x2 x3 x4 m = some out) : xX E mX10_shiftOf d 0 0 0 0 Q 67 [(0, .ref (xB E + 87)), (1, .int (x1)), (2, .int (x2)), (3, .int (x3)), (4, .int (x4))] [] (xf E m) := by
  unfold J_X10_shiftOf_67 at hf
  refine x_iinc (v := x4 + 1) (lv' := [(0, .ref (xB E + 87)), (1, .int (x1)), (2, .int (x2)), (3, .int (x3)), (4, .int (x4 + 1))]) dX10_shiftOf_67 4 [1, 2, 3, 4, 0] rfl rfl (by decide) rfl ?_
  refine x_goto 7 dX10_shiftOf_70 (by decide) ?_
  exact hrec _ _ _ _ hf
set_option maxHeartbeats 4000000 in
set_option maxRecDepth 100000 in
theorem pL_X10_shiftOf_7 {E : xE} {d : Nat} {Q : Option Value → xS → Prop} (hd : 1 ≤ d) (out : Int32 × xMem) (hR : Q (some (.int out.1)) (xf E out.2)) (x1 : Int32) (c73 : Int32 → Int32 → xMem → Option (Int32 × xMem)) (hc73 : ∀ (x2 : Int32) (x3 : Int32) (m : xMem), c73 x2 x3 m = some out → xX E mX10_shiftOf d 0 0 0 0 Q 73 [(2, .int (x2)), (3, .int (x3))] [] (xf E m)) : ∀ (fk : Nat) (x2 : Int32) (x3 : Int32) (x4 : Int32) (m : xMem), L_X10_shiftOf_7 x1 c73 fk x2 x3 x4 m = some out → xX E mX10_shiftOf d 0 0 0 0 Q 7 [(0, .ref (xB E + 87)), (1, .int (x1)), (2, .int (x2)), (3, .int (x3)), (4, .int (x4))] [] (xf E m) := by
  intro fk
  induction fk with
  | zero => intro x2 x3 x4 m hf; cases hf
  | succ fk ih =>
    intro x2 x3 x4 m hf
    rw [L_X10_shiftOf_7] at hf
    refine x_iload dX10_shiftOf_7 rfl ?_
    refine x_bipush (v := 10) dX10_shiftOf_9 (by decide) ?_
    refine x_icmp_ge 73 dX10_shiftOf_11 (by decide) (fun hc => ?_) (fun hc => ?_)
    · replace hf := x_ift hc hf
      refine x_lv (lv' := [(2, .int (x2)), (3, .int (x3))]) [2, 3] rfl ?_
      exact hc73 _ _ _ hf
    · replace hf := x_iff hc hf
      refine x_aload_n dX10_shiftOf_14 rfl ?_
      refine f_getR (b := 117) dX10_shiftOf_15 xcl_10 (by decide) fl_RX10_127 (by decide) sh_87 rfl ?_
      refine x_iconst (v := 5) dX10_shiftOf_18 (by decide) ?_
      refine x_iload dX10_shiftOf_19 rfl ?_
      refine x_imul dX10_shiftOf_21 ?_
      have hg_1 := x_gd hf
      replace hf := hg_1.2
      refine f_iald dX10_shiftOf_22 (by decide) sh_117 hg_1.1 ?_
      refine x_if_lt 67 dX10_shiftOf_23 (by decide) (fun hc => ?_) (fun hc => ?_)
      · replace hf := x_ift hc hf
        exact pJ_X10_shiftOf_67 hd out hR _ _ _ _ _ _ (fun y0 y1 y2 m9 h9 => ih y0 y1 y2 m9 h9) hc73 _ hf
      · replace hf := x_iff hc hf
        refine x_aload_n dX10_shiftOf_26 rfl ?_
        refine f_getR (b := 117) dX10_shiftOf_27 xcl_10 (by decide) fl_RX10_127 (by decide) sh_87 rfl ?_
        refine x_iconst (v := 5) dX10_shiftOf_30 (by decide) ?_
        refine x_iload dX10_shiftOf_31 rfl ?_
        refine x_imul dX10_shiftOf_33 ?_
        refine x_iload_n dX10_shiftOf_34 rfl ?_
        refine x_iadd dX10_shiftOf_35 ?_
        have hg_2 := x_gd hf
        replace hf := hg_2.2
        refine f_iald dX10_shiftOf_36 (by decide) sh_117 hg_2.1 ?_
        refine x_if_lt 67 dX10_shiftOf_37 (by decide) (fun hc => ?_) (fun hc => ?_)
        · replace hf := x_ift hc hf
          exact pJ_X10_shiftOf_67 hd out hR _ _ _ _ _ _ (fun y0 y1 y2 m9 h9 => ih y0 y1 y2 m9 h9) hc73 _ hf
        · replace hf := x_iff hc hf
          refine x_iload_n dX10_shiftOf_40 rfl ?_
          refine x_aload_n dX10_shiftOf_41 rfl ?_
          refine f_getR (b := 117) dX10_shiftOf_42 xcl_10 (by decide) fl_RX10_127 (by decide) sh_87 rfl ?_
          refine x_iconst (v := 5) dX10_shiftOf_45 (by decide) ?_
          refine x_iload dX10_shiftOf_46 rfl ?_
          refine x_imul dX10_shiftOf_48 ?_
          refine x_iload_n dX10_shiftOf_49 rfl ?_
          refine x_iadd dX10_shiftOf_50 ?_
          have hg_3 := x_gd hf
          replace hf := hg_3.2
          refine f_iald dX10_shiftOf_51 (by decide) sh_117 hg_3.1 ?_
          refine x_aload_n dX10_shiftOf_52 rfl ?_
          refine f_getR (b := 117) dX10_shiftOf_53 xcl_10 (by decide) fl_RX10_127 (by decide) sh_87 rfl ?_
          refine x_iconst (v := 5) dX10_shiftOf_56 (by decide) ?_
          refine x_iload dX10_shiftOf_57 rfl ?_
          refine x_imul dX10_shiftOf_59 ?_
          have hg_4 := x_gd hf
          replace hf := hg_4.2
          refine f_iald dX10_shiftOf_60 (by decide) sh_117 hg_4.1 ?_
          refine x_isub dX10_shiftOf_61 ?_
          refine x_iadd dX10_shiftOf_62 ?_
          refine x_istore_n (lv' := [(0, .ref (xB E + 87)), (1, .int (x1)), (2, .int (x2 + ((m.1 am_marks (((5 : Int32) * x4) + x1).toNatClampNeg) - (m.1 am_marks ((5 : Int32) * x4).toNatClampNeg)))), (3, .int (x3)), (4, .int (x4))]) dX10_shiftOf_63 [1, 2, 0, 3, 4] (by decide) rfl ?_
          refine x_iinc (v := x3 + 1) (lv' := [(0, .ref (xB E + 87)), (1, .int (x1)), (2, .int (x2 + ((m.1 am_marks (((5 : Int32) * x4) + x1).toNatClampNeg) - (m.1 am_marks ((5 : Int32) * x4).toNatClampNeg)))), (3, .int (x3 + 1)), (4, .int (x4))]) dX10_shiftOf_64 3 [1, 2, 3, 0, 4] rfl rfl (by decide) rfl ?_
          exact pJ_X10_shiftOf_67 hd out hR _ _ _ _ _ _ (fun y0 y1 y2 m9 h9 => ih y0 y1 y2 m9 h9) hc73 _ hf
set_option maxHeartbeats 4000000 in
set_option maxRecDepth 100000 in
theorem pF_X10_shiftOf {E : xE} {d : Nat} {Q : Option Value → xS → Prop} (hd : 1 ≤ d) (out : Int32 × xMem) (hR : Q (some (.int out.1)) (xf E out.2)) (x1 : Int32) (m : xMem) (hf : F_X10_shiftOf x1 m = some out) : xX E mX10_shiftOf d 0 0 0 0 Q 0 [(0, .ref (xB E + 87)), (1, .int (x1))] [] (xf E m) := by
  unfold F_X10_shiftOf at hf
  refine x_iconst (v := 0) dX10_shiftOf_0 (by decide) ?_
  refine x_istore_n (lv' := [(0, .ref (xB E + 87)), (1, .int (x1)), (2, .int ((0 : Int32)))]) dX10_shiftOf_1 [1, 2, 0] (by decide) rfl ?_
  refine x_iconst (v := 0) dX10_shiftOf_2 (by decide) ?_
  refine x_istore_n (lv' := [(0, .ref (xB E + 87)), (1, .int (x1)), (2, .int ((0 : Int32))), (3, .int ((0 : Int32)))]) dX10_shiftOf_3 [1, 2, 3, 0] (by decide) rfl ?_
  refine x_iconst (v := 0) dX10_shiftOf_4 (by decide) ?_
  refine x_istore (lv' := [(0, .ref (xB E + 87)), (1, .int (x1)), (2, .int ((0 : Int32))), (3, .int ((0 : Int32))), (4, .int ((0 : Int32)))]) dX10_shiftOf_5 [1, 2, 3, 4, 0] (by decide) rfl ?_
  refine pL_X10_shiftOf_7 hd out hR _ _ (fun x2_17 x3_18 m_19 hf => ?_) xfuel _ _ _ _ hf
  refine x_iload_n dX10_shiftOf_73 rfl ?_
  refine x_if_ne 81 dX10_shiftOf_74 (by decide) (fun hc => ?_) (fun hc => ?_)
  · replace hf := x_iff hc hf
    refine x_iload_n dX10_shiftOf_81 rfl ?_
    refine x_iload_n dX10_shiftOf_82 rfl ?_
    have hg_20 := x_gp hf
    replace hf := hg_20.2
    refine x_idiv dX10_shiftOf_83 hg_20.1 ?_
    exact x_iret dX10_shiftOf_84 rfl (by cases hf; exact hR)
  · replace hf := x_ift hc hf
    refine x_iconst (v := 0) dX10_shiftOf_77 (by decide) ?_
    refine x_goto 84 dX10_shiftOf_78 (by decide) ?_
    exact x_iret dX10_shiftOf_84 rfl (by cases hf; exact hR)
theorem c_X10_shiftOf {E : xE} {d : Nat} (hd : 1 ≤ d) (x1 : Int32) (m : xMem) (out : Int32 × xMem) (h : F_X10_shiftOf x1 m = some out) : xCi E mX10_shiftOf d [.ref (xB E + 87), .int x1] m out.1 out.2 :=
  x_enter (by decide +kernel) (Nat.le_of_ble_eq_true rfl) (pF_X10_shiftOf hd (Q := _) out ⟨rfl, rfl⟩ x1 m h)
-- X10_shift
def F_X10_shift (x1 : Int32) (m : xMem) : Option (Int32 × xMem) :=
  if x1 < 0 then (
    if ((xst m.1 am fGuideBookModel_thrown (1 : Int32)) am fGuideBookModel_thrown) ≤ 0 then (
      (F_X10_shiftOf (x1) (xst m.1 am fGuideBookModel_thrown (1 : Int32), m.2)).bind fun q_1 => (
      some (q_1.1, q_1.2)))
    else (
      some ((0 : Int32), (xst m.1 am fGuideBookModel_thrown (1 : Int32), m.2))))
  else (
    if (4 : Int32) < x1 then (
      if ((xst m.1 am fGuideBookModel_thrown (1 : Int32)) am fGuideBookModel_thrown) ≤ 0 then (
        (F_X10_shiftOf (x1) (xst m.1 am fGuideBookModel_thrown (1 : Int32), m.2)).bind fun q_2 => (
        some (q_2.1, q_2.2)))
      else (
        some ((0 : Int32), (xst m.1 am fGuideBookModel_thrown (1 : Int32), m.2))))
    else (
      if ((xst m.1 am fGuideBookModel_thrown (0 : Int32)) am fGuideBookModel_thrown) ≤ 0 then (
        (F_X10_shiftOf (x1) (xst m.1 am fGuideBookModel_thrown (0 : Int32), m.2)).bind fun q_3 => (
        some (q_3.1, q_3.2)))
      else (
        some ((0 : Int32), (xst m.1 am fGuideBookModel_thrown (0 : Int32), m.2)))))
set_option maxHeartbeats 4000000 in
set_option maxRecDepth 100000 in
theorem pF_X10_shift {E : xE} {d : Nat} {Q : Option Value → xS → Prop} (hd : 2 ≤ d) (out : Int32 × xMem) (hR : Q (some (.int out.1)) (xf E out.2)) (x1 : Int32) (m : xMem) (hf : F_X10_shift x1 m = some out) : xX E mX10_shift d 0 0 0 0 Q 0 [(0, .ref (xB E + 87)), (1, .int (x1))] [] (xf E m) := by
  unfold F_X10_shift at hf
  refine x_aload_n dX10_shift_0 rfl ?_
  refine x_iload_n dX10_shift_1 rfl ?_
  refine x_if_lt 14 dX10_shift_2 (by decide) (fun hc => ?_) (fun hc => ?_)
  · replace hf := x_ift hc hf
    refine x_iconst (v := 1) dX10_shift_14 (by decide) ?_
    refine f_putI dX10_shift_15 xcl_10 (by decide) fl_RX10_1 rfl rfl (by decide) sh_87 rfl ?_
    refine x_aload_n dX10_shift_18 rfl ?_
    refine f_getI dX10_shift_19 xcl_10 (by decide) fl_RX10_1 (by decide) sh_87 rfl ?_
    refine x_if_le 29 dX10_shift_22 (by decide) (fun hc => ?_) (fun hc => ?_)
    · replace hf := x_ift hc hf
      refine x_aload_n dX10_shift_29 rfl ?_
      refine x_iload_n dX10_shift_30 rfl ?_
      obtain ⟨q_1, hq_1, hf⟩ := Option.bind_eq_some_iff.mp hf
      refine f_cVi mX10_shiftOf [.int (x1)] [] dX10_shift_31 cs_RX10_294 ⟨w_1278, w_81⟩ (ci := 10) rfl (by decide) sh_87 rfl rfl (Nat.le_of_ble_eq_true rfl) (by omega) (c_X10_shiftOf (d := d - 1) (by omega) (x1) (xst m.1 am fGuideBookModel_thrown (1 : Int32), m.2) q_1 hq_1) ?_
      exact x_iret dX10_shift_34 rfl (by cases hf; exact hR)
    · replace hf := x_iff hc hf
      refine x_iconst (v := 0) dX10_shift_25 (by decide) ?_
      refine x_goto 34 dX10_shift_26 (by decide) ?_
      exact x_iret dX10_shift_34 rfl (by cases hf; exact hR)
  · replace hf := x_iff hc hf
    refine x_iload_n dX10_shift_5 rfl ?_
    refine x_iconst (v := 4) dX10_shift_6 (by decide) ?_
    refine x_icmp_gt 14 dX10_shift_7 (by decide) (fun hc => ?_) (fun hc => ?_)
    · replace hf := x_ift hc hf
      refine x_iconst (v := 1) dX10_shift_14 (by decide) ?_
      refine f_putI dX10_shift_15 xcl_10 (by decide) fl_RX10_1 rfl rfl (by decide) sh_87 rfl ?_
      refine x_aload_n dX10_shift_18 rfl ?_
      refine f_getI dX10_shift_19 xcl_10 (by decide) fl_RX10_1 (by decide) sh_87 rfl ?_
      refine x_if_le 29 dX10_shift_22 (by decide) (fun hc => ?_) (fun hc => ?_)
      · replace hf := x_ift hc hf
        refine x_aload_n dX10_shift_29 rfl ?_
        refine x_iload_n dX10_shift_30 rfl ?_
        obtain ⟨q_2, hq_2, hf⟩ := Option.bind_eq_some_iff.mp hf
        refine f_cVi mX10_shiftOf [.int (x1)] [] dX10_shift_31 cs_RX10_294 ⟨w_1278, w_81⟩ (ci := 10) rfl (by decide) sh_87 rfl rfl (Nat.le_of_ble_eq_true rfl) (by omega) (c_X10_shiftOf (d := d - 1) (by omega) (x1) (xst m.1 am fGuideBookModel_thrown (1 : Int32), m.2) q_2 hq_2) ?_
        exact x_iret dX10_shift_34 rfl (by cases hf; exact hR)
      · replace hf := x_iff hc hf
        refine x_iconst (v := 0) dX10_shift_25 (by decide) ?_
        refine x_goto 34 dX10_shift_26 (by decide) ?_
        exact x_iret dX10_shift_34 rfl (by cases hf; exact hR)
    · replace hf := x_iff hc hf
      refine x_iconst (v := 0) dX10_shift_10 (by decide) ?_
      refine x_goto 15 dX10_shift_11 (by decide) ?_
      refine f_putI dX10_shift_15 xcl_10 (by decide) fl_RX10_1 rfl rfl (by decide) sh_87 rfl ?_
      refine x_aload_n dX10_shift_18 rfl ?_
      refine f_getI dX10_shift_19 xcl_10 (by decide) fl_RX10_1 (by decide) sh_87 rfl ?_
      refine x_if_le 29 dX10_shift_22 (by decide) (fun hc => ?_) (fun hc => ?_)
      · replace hf := x_ift hc hf
        refine x_aload_n dX10_shift_29 rfl ?_
        refine x_iload_n dX10_shift_30 rfl ?_
        obtain ⟨q_3, hq_3, hf⟩ := Option.bind_eq_some_iff.mp hf
        refine f_cVi mX10_shiftOf [.int (x1)] [] dX10_shift_31 cs_RX10_294 ⟨w_1278, w_81⟩ (ci := 10) rfl (by decide) sh_87 rfl rfl (Nat.le_of_ble_eq_true rfl) (by omega) (c_X10_shiftOf (d := d - 1) (by omega) (x1) (xst m.1 am fGuideBookModel_thrown (0 : Int32), m.2) q_3 hq_3) ?_
        exact x_iret dX10_shift_34 rfl (by cases hf; exact hR)
      · replace hf := x_iff hc hf
        refine x_iconst (v := 0) dX10_shift_25 (by decide) ?_
        refine x_goto 34 dX10_shift_26 (by decide) ?_
        exact x_iret dX10_shift_34 rfl (by cases hf; exact hR)
theorem c_X10_shift {E : xE} {d : Nat} (hd : 2 ≤ d) (x1 : Int32) (m : xMem) (out : Int32 × xMem) (h : F_X10_shift x1 m = some out) : xCi E mX10_shift d [.ref (xB E + 87), .int x1] m out.1 out.2 :=
  x_enter (by decide +kernel) (Nat.le_of_ble_eq_true rfl) (pF_X10_shift hd (Q := _) out ⟨rfl, rfl⟩ x1 m h)
-- X10_thrown
def F_X10_thrown (m : xMem) : Option (Int32 × xMem) :=
  some (m.1 am fGuideBookModel_thrown, m)
set_option maxHeartbeats 4000000 in
set_option maxRecDepth 100000 in
theorem pF_X10_thrown {E : xE} {d : Nat} {Q : Option Value → xS → Prop} (hd : 1 ≤ d) (out : Int32 × xMem) (hR : Q (some (.int out.1)) (xf E out.2)) (m : xMem) (hf : F_X10_thrown m = some out) : xX E mX10_thrown d 0 0 0 0 Q 0 [(0, .ref (xB E + 87))] [] (xf E m) := by
  unfold F_X10_thrown at hf
  refine x_aload_n dX10_thrown_0 rfl ?_
  refine f_getI dX10_thrown_1 xcl_10 (by decide) fl_RX10_1 (by decide) sh_87 rfl ?_
  exact x_iret dX10_thrown_4 rfl (by cases hf; exact hR)
theorem c_X10_thrown {E : xE} {d : Nat} (hd : 1 ≤ d) (m : xMem) (out : Int32 × xMem) (h : F_X10_thrown m = some out) : xCi E mX10_thrown d [.ref (xB E + 87)] m out.1 out.2 :=
  x_enter (by decide +kernel) (Nat.le_of_ble_eq_true rfl) (pF_X10_thrown hd (Q := _) out ⟨rfl, rfl⟩ m h)
-- X9_paid
def F_X9_paid (x1 : Int32) (x2 : Int32) (m : xMem) : Option (Int32 × xMem) :=
  (F_X9_isPlace (x1) m).bind fun q_1 => (
  if q_1.1 = 0 then (
    some ((0 : Int32), q_1.2))
  else (
    if xin x1 10 = true then (
    some ((1 : Int32), (xst q_1.2.1 ag_praised x1.toNatClampNeg (vp_nar .boolean x2), q_1.2.2)))
    else none))
set_option maxHeartbeats 4000000 in
set_option maxRecDepth 100000 in
theorem pF_X9_paid {E : xE} {d : Nat} {Q : Option Value → xS → Prop} (hd : 3 ≤ d) (out : Int32 × xMem) (hR : Q (some (.int out.1)) (xf E out.2)) (x1 : Int32) (x2 : Int32) (m : xMem) (hf : F_X9_paid x1 x2 m = some out) : xX E mX9_paid d 0 0 0 0 Q 0 [(0, .ref (xB E + 0)), (1, .int (x1)), (2, .int (x2))] [] (xf E m) := by
  unfold F_X9_paid at hf
  refine x_iload_n dX9_paid_0 rfl ?_
  obtain ⟨q_1, hq_1, hf⟩ := Option.bind_eq_some_iff.mp hf
  refine f_cSi mX9_isPlace [.int (x1)] [] dX9_paid_1 cs_RX9_94 w_399 rfl rfl (Nat.le_of_ble_eq_true rfl) (by omega) (c_X9_isPlace (d := d - 1) (by omega) (x1) m q_1 hq_1) ?_
  refine x_if_ne 9 dX9_paid_4 (by decide) (fun hc => ?_) (fun hc => ?_)
  · replace hf := x_iff hc hf
    refine x_aload_n dX9_paid_9 rfl ?_
    refine f_getR (b := 85) dX9_paid_10 xcl_9 (by decide) fl_RX9_69 (by decide) sh_0 rfl ?_
    refine x_iload_n dX9_paid_13 rfl ?_
    refine x_iload_n dX9_paid_14 rfl ?_
    have hg_2 := x_gd hf
    replace hf := hg_2.2
    refine f_zast dX9_paid_15 (by decide) sh_85 hg_2.1 ?_
    refine x_iconst (v := 1) dX9_paid_16 (by decide) ?_
    exact x_zret dX9_paid_17 rfl (by decide) (by cases hf; exact hR)
  · replace hf := x_ift hc hf
    refine x_iconst (v := 0) dX9_paid_7 (by decide) ?_
    exact x_zret dX9_paid_8 rfl (by decide) (by cases hf; exact hR)
theorem c_X9_paid {E : xE} {d : Nat} (hd : 3 ≤ d) (x1 : Int32) (x2 : Int32) (m : xMem) (out : Int32 × xMem) (h : F_X9_paid x1 x2 m = some out) : xCi E mX9_paid d [.ref (xB E + 0), .int x1, .int x2] m out.1 out.2 :=
  x_enter (by decide +kernel) (Nat.le_of_ble_eq_true rfl) (pF_X9_paid hd (Q := _) out ⟨rfl, rfl⟩ x1 x2 m h)
-- X10_paid
def F_X10_paid (x1 : Int32) (x2 : Int32) (m : xMem) : Option (Int32 × xMem) :=
  (F_X10_isPlace (x1) (xst m.1 am fGuideBookModel_thrown (0 : Int32), m.2)).bind fun q_1 => (
  if q_1.1 = 0 then (
    some ((0 : Int32), q_1.2))
  else (
    if xin x1 10 = true then (
    some ((1 : Int32), (xst q_1.2.1 am_isPaid x1.toNatClampNeg (vp_nar .boolean x2), q_1.2.2)))
    else none))
set_option maxHeartbeats 4000000 in
set_option maxRecDepth 100000 in
theorem pF_X10_paid {E : xE} {d : Nat} {Q : Option Value → xS → Prop} (hd : 2 ≤ d) (out : Int32 × xMem) (hR : Q (some (.int out.1)) (xf E out.2)) (x1 : Int32) (x2 : Int32) (m : xMem) (hf : F_X10_paid x1 x2 m = some out) : xX E mX10_paid d 0 0 0 0 Q 0 [(0, .ref (xB E + 87)), (1, .int (x1)), (2, .int (x2))] [] (xf E m) := by
  unfold F_X10_paid at hf
  refine x_aload_n dX10_paid_0 rfl ?_
  refine x_iconst (v := 0) dX10_paid_1 (by decide) ?_
  refine f_putI dX10_paid_2 xcl_10 (by decide) fl_RX10_1 rfl rfl (by decide) sh_87 rfl ?_
  refine x_iload_n dX10_paid_5 rfl ?_
  obtain ⟨q_1, hq_1, hf⟩ := Option.bind_eq_some_iff.mp hf
  refine f_cSi mX10_isPlace [.int (x1)] [] dX10_paid_6 cs_RX10_244 w_1176 rfl rfl (Nat.le_of_ble_eq_true rfl) (by omega) (c_X10_isPlace (d := d - 1) (by omega) (x1) (xst m.1 am fGuideBookModel_thrown (0 : Int32), m.2) q_1 hq_1) ?_
  refine x_if_ne 14 dX10_paid_9 (by decide) (fun hc => ?_) (fun hc => ?_)
  · replace hf := x_iff hc hf
    refine x_aload_n dX10_paid_14 rfl ?_
    refine f_getR (b := 118) dX10_paid_15 xcl_10 (by decide) fl_RX10_130 (by decide) sh_87 rfl ?_
    refine x_iload_n dX10_paid_18 rfl ?_
    refine x_iload_n dX10_paid_19 rfl ?_
    have hg_2 := x_gd hf
    replace hf := hg_2.2
    refine f_zast dX10_paid_20 (by decide) sh_118 hg_2.1 ?_
    refine x_iconst (v := 1) dX10_paid_21 (by decide) ?_
    exact x_zret dX10_paid_22 rfl (by decide) (by cases hf; exact hR)
  · replace hf := x_ift hc hf
    refine x_iconst (v := 0) dX10_paid_12 (by decide) ?_
    exact x_zret dX10_paid_13 rfl (by decide) (by cases hf; exact hR)
theorem c_X10_paid {E : xE} {d : Nat} (hd : 2 ≤ d) (x1 : Int32) (x2 : Int32) (m : xMem) (out : Int32 × xMem) (h : F_X10_paid x1 x2 m = some out) : xCi E mX10_paid d [.ref (xB E + 87), .int x1, .int x2] m out.1 out.2 :=
  x_enter (by decide +kernel) (Nat.le_of_ble_eq_true rfl) (pF_X10_paid hd (Q := _) out ⟨rfl, rfl⟩ x1 x2 m h)
-- X7_append
def J_X7_append_23 (x1 : Int32) (s0 : Int32) (m : xMem) : Option (Int32 × xMem) :=
  if s0 = 0 then (
    some (0, m))
  else (
    if (600 : Int32) ≤ (m.1 ag_tape fTape_length) then (
      some (0, m))
    else (
      if xin (m.1 ag_tape fTape_length) 600 = true then (
      some (0, (xst (xst m.1 ag_tape_signs (m.1 ag_tape fTape_length).toNatClampNeg (vp_nar .byte x1.toInt8.toInt32)) ag_tape fTape_length (((xst m.1 ag_tape_signs (m.1 ag_tape fTape_length).toNatClampNeg (vp_nar .byte x1.toInt8.toInt32)) ag_tape fTape_length) + (1 : Int32)), m.2)))
      else none))
def J_X7_append_18 (x1 : Int32) (m : xMem) : Option (Int32 × xMem) :=
  J_X7_append_23 (x1) ((1 : Int32)) m
def J_X7_append_22 (x1 : Int32) (m : xMem) : Option (Int32 × xMem) :=
  J_X7_append_23 (x1) ((0 : Int32)) m
def F_X7_append (x1 : Int32) (m : xMem) : Option (Int32 × xMem) :=
  if x1 = (10 : Int32) then (
    J_X7_append_18 (x1) m)
  else (
    if x1 < (32 : Int32) then (
      J_X7_append_22 (x1) m)
    else (
      if (126 : Int32) < x1 then (
        J_X7_append_22 (x1) m)
      else (
        J_X7_append_18 (x1) m)))
set_option maxHeartbeats 4000000 in
set_option maxRecDepth 100000 in
theorem pJ_X7_append_23 {E : xE} {d : Nat} {Q : Option Value → xS → Prop} (hd : 1 ≤ d) (out : Int32 × xMem) (hR : Q none (xf E out.2)) (x1 : Int32) (s0 : Int32) (m : xMem) (hf : J_X7_append_23 x1 s0 m = some out) : xX E mX7_append d 0 0 0 0 Q 23 [(0, .ref (xB E + 29)), (1, .int (x1))] [.int (s0)] (xf E m) := by
  unfold J_X7_append_23 at hf
  refine x_istore_n (lv' := [(0, .ref (xB E + 29)), (1, .int (x1)), (2, .int (s0))]) dX7_append_23 [1, 2, 0] (by decide) rfl ?_
  refine x_iload_n dX7_append_24 rfl ?_
  refine x_if_eq 59 dX7_append_25 (by decide) (fun hc => ?_) (fun hc => ?_)
  · replace hf := x_ift hc hf
    exact x_vret dX7_append_59 rfl (by cases hf; exact hR)
  · replace hf := x_iff hc hf
    refine x_aload_n dX7_append_28 rfl ?_
    refine f_getI dX7_append_29 xcl_7 (by decide) fl_RX7_21 (by decide) sh_29 rfl ?_
    refine x_sipush (v := 600) dX7_append_32 (by decide) ?_
    refine x_icmp_ge 59 dX7_append_35 (by decide) (fun hc => ?_) (fun hc => ?_)
    · replace hf := x_ift hc hf
      exact x_vret dX7_append_59 rfl (by cases hf; exact hR)
    · replace hf := x_iff hc hf
      refine x_aload_n dX7_append_38 rfl ?_
      refine f_getR (b := 30) dX7_append_39 xcl_7 (by decide) fl_RX7_9 (by decide) sh_29 rfl ?_
      refine x_aload_n dX7_append_42 rfl ?_
      refine f_getI dX7_append_43 xcl_7 (by decide) fl_RX7_21 (by decide) sh_29 rfl ?_
      refine x_iload_n dX7_append_46 rfl ?_
      refine x_i2b dX7_append_47 ?_
      have hg_1 := x_gd hf
      replace hf := hg_1.2
      refine f_bast dX7_append_48 (by decide) sh_30 hg_1.1 ?_
      refine x_aload_n dX7_append_49 rfl ?_
      refine x_dup dX7_append_50 rfl ?_
      refine f_getI dX7_append_51 xcl_7 (by decide) fl_RX7_21 (by decide) sh_29 rfl ?_
      refine x_iconst (v := 1) dX7_append_54 (by decide) ?_
      refine x_iadd dX7_append_55 ?_
      refine f_putI dX7_append_56 xcl_7 (by decide) fl_RX7_21 rfl rfl (by decide) sh_29 rfl ?_
      exact x_vret dX7_append_59 rfl (by cases hf; exact hR)
set_option maxHeartbeats 4000000 in
set_option maxRecDepth 100000 in
theorem pJ_X7_append_18 {E : xE} {d : Nat} {Q : Option Value → xS → Prop} (hd : 1 ≤ d) (out : Int32 × xMem) (hR : Q none (xf E out.2)) (x1 : Int32) (m : xMem) (hf : J_X7_append_18 x1 m = some out) : xX E mX7_append d 0 0 0 0 Q 18 [(0, .ref (xB E + 29)), (1, .int (x1))] [] (xf E m) := by
  unfold J_X7_append_18 at hf
  refine x_iconst (v := 1) dX7_append_18 (by decide) ?_
  refine x_goto 23 dX7_append_19 (by decide) ?_
  exact pJ_X7_append_23 hd out hR _ _ _ hf
set_option maxHeartbeats 4000000 in
set_option maxRecDepth 100000 in
theorem pJ_X7_append_22 {E : xE} {d : Nat} {Q : Option Value → xS → Prop} (hd : 1 ≤ d) (out : Int32 × xMem) (hR : Q none (xf E out.2)) (x1 : Int32) (m : xMem) (hf : J_X7_append_22 x1 m = some out) : xX E mX7_append d 0 0 0 0 Q 22 [(0, .ref (xB E + 29)), (1, .int (x1))] [] (xf E m) := by
  unfold J_X7_append_22 at hf
  refine x_iconst (v := 0) dX7_append_22 (by decide) ?_
  exact pJ_X7_append_23 hd out hR _ _ _ hf
set_option maxHeartbeats 4000000 in
set_option maxRecDepth 100000 in
theorem pF_X7_append {E : xE} {d : Nat} {Q : Option Value → xS → Prop} (hd : 1 ≤ d) (out : Int32 × xMem) (hR : Q none (xf E out.2)) (x1 : Int32) (m : xMem) (hf : F_X7_append x1 m = some out) : xX E mX7_append d 0 0 0 0 Q 0 [(0, .ref (xB E + 29)), (1, .int (x1))] [] (xf E m) := by
  unfold F_X7_append at hf
  refine x_iload_n dX7_append_0 rfl ?_
  refine x_bipush (v := 10) dX7_append_1 (by decide) ?_
  refine x_icmp_eq 18 dX7_append_3 (by decide) (fun hc => ?_) (fun hc => ?_)
  · replace hf := x_ift hc hf
    exact pJ_X7_append_18 hd out hR _ _ hf
  · replace hf := x_iff hc hf
    refine x_iload_n dX7_append_6 rfl ?_
    refine x_bipush (v := 32) dX7_append_7 (by decide) ?_
    refine x_icmp_lt 22 dX7_append_9 (by decide) (fun hc => ?_) (fun hc => ?_)
    · replace hf := x_ift hc hf
      exact pJ_X7_append_22 hd out hR _ _ hf
    · replace hf := x_iff hc hf
      refine x_iload_n dX7_append_12 rfl ?_
      refine x_bipush (v := 126) dX7_append_13 (by decide) ?_
      refine x_icmp_gt 22 dX7_append_15 (by decide) (fun hc => ?_) (fun hc => ?_)
      · replace hf := x_ift hc hf
        exact pJ_X7_append_22 hd out hR _ _ hf
      · replace hf := x_iff hc hf
        exact pJ_X7_append_18 hd out hR _ _ hf
theorem c_X7_append {E : xE} {d : Nat} (hd : 1 ≤ d) (x1 : Int32) (m : xMem) (out : Int32 × xMem) (h : F_X7_append x1 m = some out) : xCv E mX7_append d [.ref (xB E + 29), .int x1] m out.2 :=
  x_enter (by decide +kernel) (Nat.le_of_ble_eq_true rfl) (pF_X7_append hd (Q := _) out ⟨rfl, rfl⟩ x1 m h)
-- X7_appendBytes
def L_X7_appendBytes_3 (l1 : Int64) : Nat → Int32 → xMem → Option (Int32 × xMem)
  | 0, _, _ => none
  | fk + 1, x3, m =>
    if x3 < 0 then (
      some (0, m))
    else (
      (F_X7_append (((xushr l1 x3) &&& (255 : Int64)).toInt32) m).bind fun q_1 => (
      L_X7_appendBytes_3 (l1) fk (x3 + (-8 : Int32)) q_1.2))
def F_X7_appendBytes (l1 : Int64) (m : xMem) : Option (Int32 × xMem) :=
  L_X7_appendBytes_3 (l1) xfuel ((56 : Int32)) m
set_option maxHeartbeats 4000000 in
set_option maxRecDepth 100000 in
theorem pL_X7_appendBytes_3 {E : xE} {d : Nat} {Q : Option Value → xS → Prop} (hd : 2 ≤ d) (out : Int32 × xMem) (hR : Q none (xf E out.2)) (l1 : Int64) : ∀ (fk : Nat) (x3 : Int32) (m : xMem), L_X7_appendBytes_3 l1 fk x3 m = some out → xX E mX7_appendBytes d 0 0 0 0 Q 3 [(0, .ref (xB E + 29)), (1, .long (l1)), (3, .int (x3))] [] (xf E m) := by
  intro fk
  induction fk with
  | zero => intro x3 m hf; cases hf
  | succ fk ih =>
    intro x3 m hf
    rw [L_X7_appendBytes_3] at hf
    refine x_iload_n dX7_appendBytes_3 rfl ?_
    refine x_if_lt 25 dX7_appendBytes_4 (by decide) (fun hc => ?_) (fun hc => ?_)
    · replace hf := x_ift hc hf
      exact x_vret dX7_appendBytes_25 rfl (by cases hf; exact hR)
    · replace hf := x_iff hc hf
      refine x_aload_n dX7_appendBytes_7 rfl ?_
      refine x_lload_n dX7_appendBytes_8 rfl ?_
      refine x_iload_n dX7_appendBytes_9 rfl ?_
      refine x_lushr dX7_appendBytes_10 ?_
      refine x_ldc2 (v := 255) dX7_appendBytes_11 w_575 ?_
      refine x_land dX7_appendBytes_14 ?_
      refine x_l2i dX7_appendBytes_15 ?_
      obtain ⟨q_1, hq_1, hf⟩ := Option.bind_eq_some_iff.mp hf
      refine f_cVv mX7_append [.int (((xushr l1 x3) &&& (255 : Int64)).toInt32)] [] dX7_appendBytes_16 cs_RX7_17 ⟨w_578, w_23⟩ (ci := 7) rfl (by decide) sh_29 rfl rfl (Nat.le_of_ble_eq_true rfl) (by omega) (c_X7_append (d := d - 1) (by omega) (((xushr l1 x3) &&& (255 : Int64)).toInt32) m q_1 hq_1) ?_
      refine x_iinc (v := x3 + (-8 : Int32)) (lv' := [(0, .ref (xB E + 29)), (1, .long (l1)), (3, .int (x3 + (-8 : Int32)))]) dX7_appendBytes_19 2 [1, 2, 0] rfl rfl (by decide) rfl ?_
      refine x_goto 3 dX7_appendBytes_22 (by decide) ?_
      exact ih _ _ hf
set_option maxHeartbeats 4000000 in
set_option maxRecDepth 100000 in
theorem pF_X7_appendBytes {E : xE} {d : Nat} {Q : Option Value → xS → Prop} (hd : 2 ≤ d) (out : Int32 × xMem) (hR : Q none (xf E out.2)) (l1 : Int64) (m : xMem) (hf : F_X7_appendBytes l1 m = some out) : xX E mX7_appendBytes d 0 0 0 0 Q 0 [(0, .ref (xB E + 29)), (1, .long (l1))] [] (xf E m) := by
  unfold F_X7_appendBytes at hf
  refine x_bipush (v := 56) dX7_appendBytes_0 (by decide) ?_
  refine x_istore_n (lv' := [(0, .ref (xB E + 29)), (1, .long (l1)), (3, .int ((56 : Int32)))]) dX7_appendBytes_2 [1, 2, 0] (by decide) rfl ?_
  refine pL_X7_appendBytes_3 hd out hR _ xfuel _ _ hf
theorem c_X7_appendBytes {E : xE} {d : Nat} (hd : 2 ≤ d) (l1 : Int64) (m : xMem) (out : Int32 × xMem) (h : F_X7_appendBytes l1 m = some out) : xCv E mX7_appendBytes d [.ref (xB E + 29), .long l1] m out.2 :=
  x_enter (by decide +kernel) (Nat.le_of_ble_eq_true rfl) (pF_X7_appendBytes hd (Q := _) out ⟨rfl, rfl⟩ l1 m h)
-- X9_feed
def F_X9_feed (l1 : Int64) (l3 : Int64) (l5 : Int64) (m : xMem) : Option (Int32 × xMem) :=
  (F_X7_appendBytes (l1) m).bind fun q_1 => (
  (F_X7_appendBytes (l3) q_1.2).bind fun q_2 => (
  (F_X7_appendBytes (l5) q_2.2).bind fun q_3 => (
  some (q_3.2.1 ag_tape fTape_length, q_3.2))))
set_option maxHeartbeats 4000000 in
set_option maxRecDepth 100000 in
theorem pF_X9_feed {E : xE} {d : Nat} {Q : Option Value → xS → Prop} (hd : 3 ≤ d) (out : Int32 × xMem) (hR : Q (some (.int out.1)) (xf E out.2)) (l1 : Int64) (l3 : Int64) (l5 : Int64) (m : xMem) (hf : F_X9_feed l1 l3 l5 m = some out) : xX E mX9_feed d 0 0 0 0 Q 0 [(0, .ref (xB E + 0)), (1, .long (l1)), (3, .long (l3)), (5, .long (l5))] [] (xf E m) := by
  unfold F_X9_feed at hf
  refine x_aload_n dX9_feed_0 rfl ?_
  refine f_getR (b := 29) dX9_feed_1 xcl_9 (by decide) fl_RX9_33 (by decide) sh_0 rfl ?_
  refine x_lload_n dX9_feed_4 rfl ?_
  obtain ⟨q_1, hq_1, hf⟩ := Option.bind_eq_some_iff.mp hf
  refine f_cVv mX7_appendBytes [.long (l1)] [] dX9_feed_5 cs_RX9_174 ⟨w_573, w_22⟩ (ci := 7) rfl (by decide) sh_29 rfl rfl (Nat.le_of_ble_eq_true rfl) (by omega) (c_X7_appendBytes (d := d - 1) (by omega) (l1) m q_1 hq_1) ?_
  refine x_aload_n dX9_feed_8 rfl ?_
  refine f_getR (b := 29) dX9_feed_9 xcl_9 (by decide) fl_RX9_33 (by decide) sh_0 rfl ?_
  refine x_lload_n dX9_feed_12 rfl ?_
  obtain ⟨q_2, hq_2, hf⟩ := Option.bind_eq_some_iff.mp hf
  refine f_cVv mX7_appendBytes [.long (l3)] [] dX9_feed_13 cs_RX9_174 ⟨w_573, w_22⟩ (ci := 7) rfl (by decide) sh_29 rfl rfl (Nat.le_of_ble_eq_true rfl) (by omega) (c_X7_appendBytes (d := d - 1) (by omega) (l3) q_1.2 q_2 hq_2) ?_
  refine x_aload_n dX9_feed_16 rfl ?_
  refine f_getR (b := 29) dX9_feed_17 xcl_9 (by decide) fl_RX9_33 (by decide) sh_0 rfl ?_
  refine x_lload dX9_feed_20 rfl ?_
  obtain ⟨q_3, hq_3, hf⟩ := Option.bind_eq_some_iff.mp hf
  refine f_cVv mX7_appendBytes [.long (l5)] [] dX9_feed_22 cs_RX9_174 ⟨w_573, w_22⟩ (ci := 7) rfl (by decide) sh_29 rfl rfl (Nat.le_of_ble_eq_true rfl) (by omega) (c_X7_appendBytes (d := d - 1) (by omega) (l5) q_2.2 q_3 hq_3) ?_
  refine x_aload_n dX9_feed_25 rfl ?_
  refine f_getR (b := 29) dX9_feed_26 xcl_9 (by decide) fl_RX9_33 (by decide) sh_0 rfl ?_
  refine f_getI dX9_feed_29 xcl_7 (by decide) fl_RX9_178 (by decide) sh_29 rfl ?_
  exact x_iret dX9_feed_32 rfl (by cases hf; exact hR)
theorem c_X9_feed {E : xE} {d : Nat} (hd : 3 ≤ d) (l1 : Int64) (l3 : Int64) (l5 : Int64) (m : xMem) (out : Int32 × xMem) (h : F_X9_feed l1 l3 l5 m = some out) : xCi E mX9_feed d [.ref (xB E + 0), .long l1, .long l3, .long l5] m out.1 out.2 :=
  x_enter (by decide +kernel) (Nat.le_of_ble_eq_true rfl) (pF_X9_feed hd (Q := _) out ⟨rfl, rfl⟩ l1 l3 l5 m h)
-- X10_lay
def J_X10_lay_69 (rec : Int32 → xMem → Option (Int32 × xMem)) (l1 : Int64) (x3 : Int32) (m : xMem) : Option (Int32 × xMem) :=
  rec (x3 + (-8 : Int32)) m
def J_X10_lay_38 (rec : Int32 → xMem → Option (Int32 × xMem)) (l1 : Int64) (x3 : Int32) (x4 : Int32) (m : xMem) : Option (Int32 × xMem) :=
  if (600 : Int32) ≤ (m.1 am fGuideBookModel_taped) then (
    J_X10_lay_69 rec (l1) (x3) m)
  else (
    if xin (m.1 am fGuideBookModel_taped) 600 = true then (
    J_X10_lay_69 rec (l1) (x3) (xst (xst m.1 am_tape (m.1 am fGuideBookModel_taped).toNatClampNeg x4) am fGuideBookModel_taped (((xst m.1 am_tape (m.1 am fGuideBookModel_taped).toNatClampNeg x4) am fGuideBookModel_taped) + (1 : Int32)), m.2))
    else none)
def L_X10_lay_3 (l1 : Int64) : Nat → Int32 → xMem → Option (Int32 × xMem)
  | 0, _, _ => none
  | fk + 1, x3, m =>
    if x3 < 0 then (
      some (0, m))
    else (
      if (((l1 >>> (x3.toInt64 &&& 63)).toInt32) &&& (255 : Int32)) = (10 : Int32) then (
        J_X10_lay_38 (fun y_6 m_7 => L_X10_lay_3 l1 fk y_6 m_7) (l1) (x3) (((l1 >>> (x3.toInt64 &&& 63)).toInt32) &&& (255 : Int32)) m)
      else (
        if (((l1 >>> (x3.toInt64 &&& 63)).toInt32) &&& (255 : Int32)) < (32 : Int32) then (
          J_X10_lay_69 (fun y_8 m_9 => L_X10_lay_3 l1 fk y_8 m_9) (l1) (x3) m)
        else (
          if (126 : Int32) < (((l1 >>> (x3.toInt64 &&& 63)).toInt32) &&& (255 : Int32)) then (
            J_X10_lay_69 (fun y_10 m_11 => L_X10_lay_3 l1 fk y_10 m_11) (l1) (x3) m)
          else (
            J_X10_lay_38 (fun y_12 m_13 => L_X10_lay_3 l1 fk y_12 m_13) (l1) (x3) (((l1 >>> (x3.toInt64 &&& 63)).toInt32) &&& (255 : Int32)) m))))
def F_X10_lay (l1 : Int64) (m : xMem) : Option (Int32 × xMem) :=
  L_X10_lay_3 (l1) xfuel ((56 : Int32)) m
set_option maxHeartbeats 4000000 in
set_option maxRecDepth 100000 in
theorem pJ_X10_lay_69 {E : xE} {d : Nat} {Q : Option Value → xS → Prop} (hd : 1 ≤ d) (out : Int32 × xMem) (hR : Q none (xf E out.2)) (rec : Int32 → xMem → Option (Int32 × xMem)) (l1 : Int64) (x3 : Int32) (hrec : ∀ (x3 : Int32) (m : xMem), rec x3 m = some out → xX E mX10_lay d 0 0 0 0 Q 3 [(0, .ref (xB E + 87)), (1, .long (l1)), (3, .int (x3))] [] (xf E m)) (m : xMem) (hf : J_X10_lay_69 rec l1 x3 m = some out) : xX E mX10_lay d 0 0 0 0 Q 69 [(0, .ref (xB E + 87)), (1, .long (l1)), (3, .int (x3))] [] (xf E m) := by
  unfold J_X10_lay_69 at hf
  refine x_iinc (v := x3 + (-8 : Int32)) (lv' := [(0, .ref (xB E + 87)), (1, .long (l1)), (3, .int (x3 + (-8 : Int32)))]) dX10_lay_69 2 [1, 2, 0] rfl rfl (by decide) rfl ?_
  refine x_goto 3 dX10_lay_72 (by decide) ?_
  exact hrec _ _ hf
set_option maxHeartbeats 4000000 in
set_option maxRecDepth 100000 in
theorem pJ_X10_lay_38 {E : xE} {d : Nat} {Q : Option Value → xS → Prop} (hd : 1 ≤ d) (out : Int32 × xMem) (hR : Q none (xf E out.2)) (rec : Int32 → xMem → Option (Int32 × xMem)) (l1 : Int64) (x3 : Int32) (x4 : Int32) (hrec : ∀ (x3 : Int32) (m : xMem), rec x3 m = some out → xX E mX10_lay d 0 0 0 0 Q 3 [(0, .ref (xB E + 87)), (1, .long (l1)), (3, .int (x3))] [] (xf E m)) (m : xMem) (hf : J_X10_lay_38 rec l1 x3 x4 m = some out) : xX E mX10_lay d 0 0 0 0 Q 38 [(0, .ref (xB E + 87)), (1, .long (l1)), (3, .int (x3)), (4, .int (x4))] [] (xf E m) := by
  unfold J_X10_lay_38 at hf
  refine x_aload_n dX10_lay_38 rfl ?_
  refine f_getI dX10_lay_39 xcl_10 (by decide) fl_RX10_11 (by decide) sh_87 rfl ?_
  refine x_sipush (v := 600) dX10_lay_42 (by decide) ?_
  refine x_icmp_ge 69 dX10_lay_45 (by decide) (fun hc => ?_) (fun hc => ?_)
  · replace hf := x_ift hc hf
    refine x_lv (lv' := [(0, .ref (xB E + 87)), (1, .long (l1)), (3, .int (x3))]) [0, 1, 2] rfl ?_
    exact pJ_X10_lay_69 hd out hR _ _ _ hrec _ hf
  · replace hf := x_iff hc hf
    refine x_aload_n dX10_lay_48 rfl ?_
    refine f_getR (b := 88) dX10_lay_49 xcl_10 (by decide) fl_RX10_14 (by decide) sh_87 rfl ?_
    refine x_aload_n dX10_lay_52 rfl ?_
    refine f_getI dX10_lay_53 xcl_10 (by decide) fl_RX10_11 (by decide) sh_87 rfl ?_
    refine x_iload dX10_lay_56 rfl ?_
    have hg_1 := x_gd hf
    replace hf := hg_1.2
    refine f_iast dX10_lay_58 (by decide) sh_88 hg_1.1 ?_
    refine x_aload_n dX10_lay_59 rfl ?_
    refine x_dup dX10_lay_60 rfl ?_
    refine f_getI dX10_lay_61 xcl_10 (by decide) fl_RX10_11 (by decide) sh_87 rfl ?_
    refine x_iconst (v := 1) dX10_lay_64 (by decide) ?_
    refine x_iadd dX10_lay_65 ?_
    refine f_putI dX10_lay_66 xcl_10 (by decide) fl_RX10_11 rfl rfl (by decide) sh_87 rfl ?_
    refine x_lv (lv' := [(0, .ref (xB E + 87)), (1, .long (l1)), (3, .int (x3))]) [0, 1, 2] rfl ?_
    exact pJ_X10_lay_69 hd out hR _ _ _ hrec _ hf
set_option maxHeartbeats 4000000 in
set_option maxRecDepth 100000 in
theorem pL_X10_lay_3 {E : xE} {d : Nat} {Q : Option Value → xS → Prop} (hd : 1 ≤ d) (out : Int32 × xMem) (hR : Q none (xf E out.2)) (l1 : Int64) : ∀ (fk : Nat) (x3 : Int32) (m : xMem), L_X10_lay_3 l1 fk x3 m = some out → xX E mX10_lay d 0 0 0 0 Q 3 [(0, .ref (xB E + 87)), (1, .long (l1)), (3, .int (x3))] [] (xf E m) := by
  intro fk
  induction fk with
  | zero => intro x3 m hf; cases hf
  | succ fk ih =>
    intro x3 m hf
    rw [L_X10_lay_3] at hf
    refine x_iload_n dX10_lay_3 rfl ?_
    refine x_if_lt 75 dX10_lay_4 (by decide) (fun hc => ?_) (fun hc => ?_)
    · replace hf := x_ift hc hf
      exact x_vret dX10_lay_75 rfl (by cases hf; exact hR)
    · replace hf := x_iff hc hf
      refine x_lload_n dX10_lay_7 rfl ?_
      refine x_iload_n dX10_lay_8 rfl ?_
      refine x_lshr dX10_lay_9 ?_
      refine x_l2i dX10_lay_10 ?_
      refine x_sipush (v := 255) dX10_lay_11 (by decide) ?_
      refine x_iand dX10_lay_14 ?_
      refine x_istore (lv' := [(0, .ref (xB E + 87)), (1, .long (l1)), (3, .int (x3)), (4, .int (((l1 >>> (x3.toInt64 &&& 63)).toInt32) &&& (255 : Int32)))]) dX10_lay_15 [1, 2, 3, 0] (by decide) rfl ?_
      refine x_iload dX10_lay_17 rfl ?_
      refine x_bipush (v := 10) dX10_lay_19 (by decide) ?_
      refine x_icmp_eq 38 dX10_lay_21 (by decide) (fun hc => ?_) (fun hc => ?_)
      · replace hf := x_ift hc hf
        exact pJ_X10_lay_38 hd out hR _ _ _ _ (fun y0 m9 h9 => ih y0 m9 h9) _ hf
      · replace hf := x_iff hc hf
        refine x_iload dX10_lay_24 rfl ?_
        refine x_bipush (v := 32) dX10_lay_26 (by decide) ?_
        refine x_icmp_lt 69 dX10_lay_28 (by decide) (fun hc => ?_) (fun hc => ?_)
        · replace hf := x_ift hc hf
          refine x_lv (lv' := [(0, .ref (xB E + 87)), (1, .long (l1)), (3, .int (x3))]) [0, 1, 2] rfl ?_
          exact pJ_X10_lay_69 hd out hR _ _ _ (fun y0 m9 h9 => ih y0 m9 h9) _ hf
        · replace hf := x_iff hc hf
          refine x_iload dX10_lay_31 rfl ?_
          refine x_bipush (v := 126) dX10_lay_33 (by decide) ?_
          refine x_icmp_gt 69 dX10_lay_35 (by decide) (fun hc => ?_) (fun hc => ?_)
          · replace hf := x_ift hc hf
            refine x_lv (lv' := [(0, .ref (xB E + 87)), (1, .long (l1)), (3, .int (x3))]) [0, 1, 2] rfl ?_
            exact pJ_X10_lay_69 hd out hR _ _ _ (fun y0 m9 h9 => ih y0 m9 h9) _ hf
          · replace hf := x_iff hc hf
            exact pJ_X10_lay_38 hd out hR _ _ _ _ (fun y0 m9 h9 => ih y0 m9 h9) _ hf
set_option maxHeartbeats 4000000 in
set_option maxRecDepth 100000 in
theorem pF_X10_lay {E : xE} {d : Nat} {Q : Option Value → xS → Prop} (hd : 1 ≤ d) (out : Int32 × xMem) (hR : Q none (xf E out.2)) (l1 : Int64) (m : xMem) (hf : F_X10_lay l1 m = some out) : xX E mX10_lay d 0 0 0 0 Q 0 [(0, .ref (xB E + 87)), (1, .long (l1))] [] (xf E m) := by
  unfold F_X10_lay at hf
  refine x_bipush (v := 56) dX10_lay_0 (by decide) ?_
  refine x_istore_n (lv' := [(0, .ref (xB E + 87)), (1, .long (l1)), (3, .int ((56 : Int32)))]) dX10_lay_2 [1, 2, 0] (by decide) rfl ?_
  refine pL_X10_lay_3 hd out hR _ xfuel _ _ hf
theorem c_X10_lay {E : xE} {d : Nat} (hd : 1 ≤ d) (l1 : Int64) (m : xMem) (out : Int32 × xMem) (h : F_X10_lay l1 m = some out) : xCv E mX10_lay d [.ref (xB E + 87), .long l1] m out.2 :=
  x_enter (by decide +kernel) (Nat.le_of_ble_eq_true rfl) (pF_X10_lay hd (Q := _) out ⟨rfl, rfl⟩ l1 m h)
-- X10_feed
def F_X10_feed (l1 : Int64) (l3 : Int64) (l5 : Int64) (m : xMem) : Option (Int32 × xMem) :=
  (F_X10_lay (l1) (xst m.1 am fGuideBookModel_thrown (0 : Int32), m.2)).bind fun q_1 => (
  (F_X10_lay (l3) q_1.2).bind fun q_2 => (
  (F_X10_lay (l5) q_2.2).bind fun q_3 => (
  some (q_3.2.1 am fGuideBookModel_taped, q_3.2))))
set_option maxHeartbeats 4000000 in
set_option maxRecDepth 100000 in
theorem pF_X10_feed {E : xE} {d : Nat} {Q : Option Value → xS → Prop} (hd : 2 ≤ d) (out : Int32 × xMem) (hR : Q (some (.int out.1)) (xf E out.2)) (l1 : Int64) (l3 : Int64) (l5 : Int64) (m : xMem) (hf : F_X10_feed l1 l3 l5 m = some out) : xX E mX10_feed d 0 0 0 0 Q 0 [(0, .ref (xB E + 87)), (1, .long (l1)), (3, .long (l3)), (5, .long (l5))] [] (xf E m) := by
  unfold F_X10_feed at hf
  refine x_aload_n dX10_feed_0 rfl ?_
  refine x_iconst (v := 0) dX10_feed_1 (by decide) ?_
  refine f_putI dX10_feed_2 xcl_10 (by decide) fl_RX10_1 rfl rfl (by decide) sh_87 rfl ?_
  refine x_aload_n dX10_feed_5 rfl ?_
  refine x_lload_n dX10_feed_6 rfl ?_
  obtain ⟨q_1, hq_1, hf⟩ := Option.bind_eq_some_iff.mp hf
  refine f_cVv mX10_lay [.long (l1)] [] dX10_feed_7 cs_RX10_7 ⟨w_920, w_56⟩ (ci := 10) rfl (by decide) sh_87 rfl rfl (Nat.le_of_ble_eq_true rfl) (by omega) (c_X10_lay (d := d - 1) (by omega) (l1) (xst m.1 am fGuideBookModel_thrown (0 : Int32), m.2) q_1 hq_1) ?_
  refine x_aload_n dX10_feed_10 rfl ?_
  refine x_lload_n dX10_feed_11 rfl ?_
  obtain ⟨q_2, hq_2, hf⟩ := Option.bind_eq_some_iff.mp hf
  refine f_cVv mX10_lay [.long (l3)] [] dX10_feed_12 cs_RX10_7 ⟨w_920, w_56⟩ (ci := 10) rfl (by decide) sh_87 rfl rfl (Nat.le_of_ble_eq_true rfl) (by omega) (c_X10_lay (d := d - 1) (by omega) (l3) q_1.2 q_2 hq_2) ?_
  refine x_aload_n dX10_feed_15 rfl ?_
  refine x_lload dX10_feed_16 rfl ?_
  obtain ⟨q_3, hq_3, hf⟩ := Option.bind_eq_some_iff.mp hf
  refine f_cVv mX10_lay [.long (l5)] [] dX10_feed_18 cs_RX10_7 ⟨w_920, w_56⟩ (ci := 10) rfl (by decide) sh_87 rfl rfl (Nat.le_of_ble_eq_true rfl) (by omega) (c_X10_lay (d := d - 1) (by omega) (l5) q_2.2 q_3 hq_3) ?_
  refine x_aload_n dX10_feed_21 rfl ?_
  refine f_getI dX10_feed_22 xcl_10 (by decide) fl_RX10_11 (by decide) sh_87 rfl ?_
  exact x_iret dX10_feed_25 rfl (by cases hf; exact hR)
theorem c_X10_feed {E : xE} {d : Nat} (hd : 2 ≤ d) (l1 : Int64) (l3 : Int64) (l5 : Int64) (m : xMem) (out : Int32 × xMem) (h : F_X10_feed l1 l3 l5 m = some out) : xCi E mX10_feed d [.ref (xB E + 87), .long l1, .long l3, .long l5] m out.1 out.2 :=
  x_enter (by decide +kernel) (Nat.le_of_ble_eq_true rfl) (pF_X10_feed hd (Q := _) out ⟨rfl, rfl⟩ l1 l3 l5 m h)
-- X7_isLetter
def F_X7_isLetter (x1 : Int32) (m : xMem) : Option (Int32 × xMem) :=
  (F_X9_within (x1) ((m.1 ag_tape fTape_length) - (1 : Int32)) m).bind fun q_1 => (
  if q_1.1 = 0 then (
    some ((0 : Int32), q_1.2))
  else (
    if xin x1 600 = true then (
    if (q_1.2.1 ag_tape_signs x1.toNatClampNeg) < (97 : Int32) then (
      some ((0 : Int32), q_1.2))
    else (
      if xin x1 600 = true then (
      if (122 : Int32) < (q_1.2.1 ag_tape_signs x1.toNatClampNeg) then (
        some ((0 : Int32), q_1.2))
      else (
        some ((1 : Int32), q_1.2)))
      else none))
    else none))
set_option maxHeartbeats 4000000 in
set_option maxRecDepth 100000 in
theorem pF_X7_isLetter {E : xE} {d : Nat} {Q : Option Value → xS → Prop} (hd : 2 ≤ d) (out : Int32 × xMem) (hR : Q (some (.int out.1)) (xf E out.2)) (x1 : Int32) (m : xMem) (hf : F_X7_isLetter x1 m = some out) : xX E mX7_isLetter d 0 0 0 0 Q 0 [(0, .ref (xB E + 29)), (1, .int (x1))] [] (xf E m) := by
  unfold F_X7_isLetter at hf
  refine x_iload_n dX7_isLetter_0 rfl ?_
  refine x_aload_n dX7_isLetter_1 rfl ?_
  refine f_getI dX7_isLetter_2 xcl_7 (by decide) fl_RX7_21 (by decide) sh_29 rfl ?_
  refine x_iconst (v := 1) dX7_isLetter_5 (by decide) ?_
  refine x_isub dX7_isLetter_6 ?_
  obtain ⟨q_1, hq_1, hf⟩ := Option.bind_eq_some_iff.mp hf
  refine f_cSi mX9_within [.int (x1), .int ((m.1 ag_tape fTape_length) - (1 : Int32))] [] dX7_isLetter_7 cs_RX7_25 w_389 rfl rfl (Nat.le_of_ble_eq_true rfl) (by omega) (c_X9_within (d := d - 1) (by omega) (x1) ((m.1 ag_tape fTape_length) - (1 : Int32)) m q_1 hq_1) ?_
  refine x_if_eq 39 dX7_isLetter_10 (by decide) (fun hc => ?_) (fun hc => ?_)
  · replace hf := x_ift hc hf
    refine x_iconst (v := 0) dX7_isLetter_39 (by decide) ?_
    exact x_zret dX7_isLetter_40 rfl (by decide) (by cases hf; exact hR)
  · replace hf := x_iff hc hf
    refine x_aload_n dX7_isLetter_13 rfl ?_
    refine f_getR (b := 30) dX7_isLetter_14 xcl_7 (by decide) fl_RX7_9 (by decide) sh_29 rfl ?_
    refine x_iload_n dX7_isLetter_17 rfl ?_
    have hg_2 := x_gd hf
    replace hf := hg_2.2
    refine f_bald dX7_isLetter_18 (by decide) sh_30 hg_2.1 ?_
    refine x_bipush (v := 97) dX7_isLetter_19 (by decide) ?_
    refine x_icmp_lt 39 dX7_isLetter_21 (by decide) (fun hc => ?_) (fun hc => ?_)
    · replace hf := x_ift hc hf
      refine x_iconst (v := 0) dX7_isLetter_39 (by decide) ?_
      exact x_zret dX7_isLetter_40 rfl (by decide) (by cases hf; exact hR)
    · replace hf := x_iff hc hf
      refine x_aload_n dX7_isLetter_24 rfl ?_
      refine f_getR (b := 30) dX7_isLetter_25 xcl_7 (by decide) fl_RX7_9 (by decide) sh_29 rfl ?_
      refine x_iload_n dX7_isLetter_28 rfl ?_
      have hg_3 := x_gd hf
      replace hf := hg_3.2
      refine f_bald dX7_isLetter_29 (by decide) sh_30 hg_3.1 ?_
      refine x_bipush (v := 122) dX7_isLetter_30 (by decide) ?_
      refine x_icmp_gt 39 dX7_isLetter_32 (by decide) (fun hc => ?_) (fun hc => ?_)
      · replace hf := x_ift hc hf
        refine x_iconst (v := 0) dX7_isLetter_39 (by decide) ?_
        exact x_zret dX7_isLetter_40 rfl (by decide) (by cases hf; exact hR)
      · replace hf := x_iff hc hf
        refine x_iconst (v := 1) dX7_isLetter_35 (by decide) ?_
        refine x_goto 40 dX7_isLetter_36 (by decide) ?_
        exact x_zret dX7_isLetter_40 rfl (by decide) (by cases hf; exact hR)
theorem c_X7_isLetter {E : xE} {d : Nat} (hd : 2 ≤ d) (x1 : Int32) (m : xMem) (out : Int32 × xMem) (h : F_X7_isLetter x1 m = some out) : xCi E mX7_isLetter d [.ref (xB E + 29), .int x1] m out.1 out.2 :=
  x_enter (by decide +kernel) (Nat.le_of_ble_eq_true rfl) (pF_X7_isLetter hd (Q := _) out ⟨rfl, rfl⟩ x1 m h)
-- X7_isDigit
def F_X7_isDigit (x1 : Int32) (m : xMem) : Option (Int32 × xMem) :=
  (F_X9_within (x1) ((m.1 ag_tape fTape_length) - (1 : Int32)) m).bind fun q_1 => (
  if q_1.1 = 0 then (
    some ((0 : Int32), q_1.2))
  else (
    if xin x1 600 = true then (
    if (q_1.2.1 ag_tape_signs x1.toNatClampNeg) < (48 : Int32) then (
      some ((0 : Int32), q_1.2))
    else (
      if xin x1 600 = true then (
      if (57 : Int32) < (q_1.2.1 ag_tape_signs x1.toNatClampNeg) then (
        some ((0 : Int32), q_1.2))
      else (
        some ((1 : Int32), q_1.2)))
      else none))
    else none))
set_option maxHeartbeats 4000000 in
set_option maxRecDepth 100000 in
theorem pF_X7_isDigit {E : xE} {d : Nat} {Q : Option Value → xS → Prop} (hd : 2 ≤ d) (out : Int32 × xMem) (hR : Q (some (.int out.1)) (xf E out.2)) (x1 : Int32) (m : xMem) (hf : F_X7_isDigit x1 m = some out) : xX E mX7_isDigit d 0 0 0 0 Q 0 [(0, .ref (xB E + 29)), (1, .int (x1))] [] (xf E m) := by
  unfold F_X7_isDigit at hf
  refine x_iload_n dX7_isDigit_0 rfl ?_
  refine x_aload_n dX7_isDigit_1 rfl ?_
  refine f_getI dX7_isDigit_2 xcl_7 (by decide) fl_RX7_21 (by decide) sh_29 rfl ?_
  refine x_iconst (v := 1) dX7_isDigit_5 (by decide) ?_
  refine x_isub dX7_isDigit_6 ?_
  obtain ⟨q_1, hq_1, hf⟩ := Option.bind_eq_some_iff.mp hf
  refine f_cSi mX9_within [.int (x1), .int ((m.1 ag_tape fTape_length) - (1 : Int32))] [] dX7_isDigit_7 cs_RX7_25 w_389 rfl rfl (Nat.le_of_ble_eq_true rfl) (by omega) (c_X9_within (d := d - 1) (by omega) (x1) ((m.1 ag_tape fTape_length) - (1 : Int32)) m q_1 hq_1) ?_
  refine x_if_eq 39 dX7_isDigit_10 (by decide) (fun hc => ?_) (fun hc => ?_)
  · replace hf := x_ift hc hf
    refine x_iconst (v := 0) dX7_isDigit_39 (by decide) ?_
    exact x_zret dX7_isDigit_40 rfl (by decide) (by cases hf; exact hR)
  · replace hf := x_iff hc hf
    refine x_aload_n dX7_isDigit_13 rfl ?_
    refine f_getR (b := 30) dX7_isDigit_14 xcl_7 (by decide) fl_RX7_9 (by decide) sh_29 rfl ?_
    refine x_iload_n dX7_isDigit_17 rfl ?_
    have hg_2 := x_gd hf
    replace hf := hg_2.2
    refine f_bald dX7_isDigit_18 (by decide) sh_30 hg_2.1 ?_
    refine x_bipush (v := 48) dX7_isDigit_19 (by decide) ?_
    refine x_icmp_lt 39 dX7_isDigit_21 (by decide) (fun hc => ?_) (fun hc => ?_)
    · replace hf := x_ift hc hf
      refine x_iconst (v := 0) dX7_isDigit_39 (by decide) ?_
      exact x_zret dX7_isDigit_40 rfl (by decide) (by cases hf; exact hR)
    · replace hf := x_iff hc hf
      refine x_aload_n dX7_isDigit_24 rfl ?_
      refine f_getR (b := 30) dX7_isDigit_25 xcl_7 (by decide) fl_RX7_9 (by decide) sh_29 rfl ?_
      refine x_iload_n dX7_isDigit_28 rfl ?_
      have hg_3 := x_gd hf
      replace hf := hg_3.2
      refine f_bald dX7_isDigit_29 (by decide) sh_30 hg_3.1 ?_
      refine x_bipush (v := 57) dX7_isDigit_30 (by decide) ?_
      refine x_icmp_gt 39 dX7_isDigit_32 (by decide) (fun hc => ?_) (fun hc => ?_)
      · replace hf := x_ift hc hf
        refine x_iconst (v := 0) dX7_isDigit_39 (by decide) ?_
        exact x_zret dX7_isDigit_40 rfl (by decide) (by cases hf; exact hR)
      · replace hf := x_iff hc hf
        refine x_iconst (v := 1) dX7_isDigit_35 (by decide) ?_
        refine x_goto 40 dX7_isDigit_36 (by decide) ?_
        exact x_zret dX7_isDigit_40 rfl (by decide) (by cases hf; exact hR)
theorem c_X7_isDigit {E : xE} {d : Nat} (hd : 2 ≤ d) (x1 : Int32) (m : xMem) (out : Int32 × xMem) (h : F_X7_isDigit x1 m = some out) : xCi E mX7_isDigit d [.ref (xB E + 29), .int x1] m out.1 out.2 :=
  x_enter (by decide +kernel) (Nat.le_of_ble_eq_true rfl) (pF_X7_isDigit hd (Q := _) out ⟨rfl, rfl⟩ x1 m h)
