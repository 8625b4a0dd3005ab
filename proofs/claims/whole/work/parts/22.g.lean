-- X10_plan
def L_X10_plan_28 (x1 : Int32) (x2 : Int32) (c47 : xMem → Option (Int32 × xMem)) : Nat → Int32 → xMem → Option (Int32 × xMem)
  | 0, _, _ => none
  | fk + 1, x3, m =>
    if (10 : Int32) ≤ x3 then (
      c47 m)
    else (
      if xin x3 10 = true then (
      L_X10_plan_28 (x1) (x2) c47 fk (x3 + 1) (m.1, xsl m.2 am_doubt x3.toNatClampNeg (0 : Int64)))
      else none)
def L_X10_plan_49 (x1 : Int32) (x2 : Int32) (c87 : xMem → Option (Int32 × xMem)) : Nat → Int32 → xMem → Option (Int32 × xMem)
  | 0, _, _ => none
  | fk + 1, x3, m =>
    if (m.1 am fGuideBookModel_facts) ≤ x3 then (
      c87 m)
    else (
      if xin x3 60 = true then (
      if xin (m.1 am_placeOf x3.toNatClampNeg) 10 = true then (
      (F_X10_chanceOf (x3) m).bind fun q_5 => (
      if xin (m.1 am_placeOf x3.toNatClampNeg) 10 = true then (
      L_X10_plan_49 (x1) (x2) c87 fk (x3 + 1) (q_5.2.1, xsl q_5.2.2 am_doubt (m.1 am_placeOf x3.toNatClampNeg).toNatClampNeg ((m.2 am_doubt (m.1 am_placeOf x3.toNatClampNeg).toNatClampNeg) + (((1000000 : Int32) - q_5.1).toInt64))))
      else none))
      else none)
      else none)
def J_X10_plan_172 (rec : Int32 → Int32 → xMem → Option (Int32 × xMem)) (c179 : Int32 → xMem → Option (Int32 × xMem)) (x1 : Int32) (x2 : Int32) (x4 : Int32) (s0 : Int32) (m : xMem) : Option (Int32 × xMem) :=
  rec (s0) (x4 + 1) m
def J_X10_plan_171 (rec : Int32 → Int32 → xMem → Option (Int32 × xMem)) (c179 : Int32 → xMem → Option (Int32 × xMem)) (x1 : Int32) (x2 : Int32) (x3 : Int32) (x4 : Int32) (m : xMem) : Option (Int32 × xMem) :=
  J_X10_plan_172 rec c179 (x1) (x2) (x4) (x3) m
def J_X10_plan_149 (rec : Int32 → Int32 → xMem → Option (Int32 × xMem)) (c179 : Int32 → xMem → Option (Int32 × xMem)) (x1 : Int32) (x2 : Int32) (x3 : Int32) (x4 : Int32) (s0 : Int32) (m : xMem) : Option (Int32 × xMem) :=
  (F_X10_daysOf (x4) m).bind fun q_10 => (
  if x1 < q_10.1 then (
    J_X10_plan_171 rec c179 (x1) (x2) (x3) (x4) q_10.2)
  else (
    if s0 = 0 then (
      J_X10_plan_171 rec c179 (x1) (x2) (x3) (x4) q_10.2)
    else (
      J_X10_plan_172 rec c179 (x1) (x2) (x4) (x4) q_10.2)))
def J_X10_plan_144 (rec : Int32 → Int32 → xMem → Option (Int32 × xMem)) (c179 : Int32 → xMem → Option (Int32 × xMem)) (x1 : Int32) (x2 : Int32) (x3 : Int32) (x4 : Int32) (m : xMem) : Option (Int32 × xMem) :=
  J_X10_plan_149 rec c179 (x1) (x2) (x3) (x4) ((1 : Int32)) m
def J_X10_plan_148 (rec : Int32 → Int32 → xMem → Option (Int32 × xMem)) (c179 : Int32 → xMem → Option (Int32 × xMem)) (x1 : Int32) (x2 : Int32) (x3 : Int32) (x4 : Int32) (m : xMem) : Option (Int32 × xMem) :=
  J_X10_plan_149 rec c179 (x1) (x2) (x3) (x4) ((0 : Int32)) m
def L_X10_plan_92 (x1 : Int32) (x2 : Int32) (c179 : Int32 → xMem → Option (Int32 × xMem)) : Nat → Int32 → Int32 → xMem → Option (Int32 × xMem)
  | 0, _, _, _ => none
  | fk + 1, x3, x4, m =>
    if (1024 : Int32) ≤ x4 then (
      c179 (x3) m)
    else (
      (F_X10_doubtOf (x4) m).bind fun q_8 => (
      (F_X10_doubtOf (x3) q_8.2).bind fun q_9 => (
      if 0 < (lg_cmp q_8.1 q_9.1) then (
        J_X10_plan_144 (fun y_33 y_34 m_35 => L_X10_plan_92 x1 x2 c179 fk y_33 y_34 m_35) c179 (x1) (x2) (x3) (x4) q_9.2)
      else (
        (F_X10_doubtOf (x4) q_9.2).bind fun q_26 => (
        (F_X10_doubtOf (x3) q_26.2).bind fun q_27 => (
        if (lg_cmp q_26.1 q_27.1) = 0 then (
          (F_X10_daysOf (x4) q_27.2).bind fun q_31 => (
          (F_X10_daysOf (x3) q_31.2).bind fun q_32 => (
          if q_32.1 ≤ q_31.1 then (
            J_X10_plan_148 (fun y_36 y_37 m_38 => L_X10_plan_92 x1 x2 c179 fk y_36 y_37 m_38) c179 (x1) (x2) (x3) (x4) q_32.2)
          else (
            J_X10_plan_144 (fun y_39 y_40 m_41 => L_X10_plan_92 x1 x2 c179 fk y_39 y_40 m_41) c179 (x1) (x2) (x3) (x4) q_32.2))))
        else (
          J_X10_plan_148 (fun y_42 y_43 m_44 => L_X10_plan_92 x1 x2 c179 fk y_42 y_43 m_44) c179 (x1) (x2) (x3) (x4) q_27.2)))))))
def F_X10_plan (x1 : Int32) (x2 : Int32) (m : xMem) : Option (Int32 × xMem) :=
  if x1 < 0 then (
    some ((-1 : Int32), (xst m.1 am fGuideBookModel_thrown (0 : Int32), m.2)))
  else (
    if (99 : Int32) < x1 then (
      some ((-1 : Int32), (xst m.1 am fGuideBookModel_thrown (0 : Int32), m.2)))
    else (
      if x2 < 0 then (
        some ((-1 : Int32), (xst m.1 am fGuideBookModel_thrown (0 : Int32), m.2)))
      else (
        if x2 ≤ (1 : Int32) then (
          L_X10_plan_28 (x1) (x2) (fun m_2 => (
            L_X10_plan_49 (x1) (x2) (fun m_7 => (
              L_X10_plan_92 (x1) (x2) (fun x3_45 m_46 => (
                if x2 = 0 then (
                  some (x3_45, m_46))
                else (
                  (F_X10_doubtOf (x3_45) m_46).bind fun q_47 => (
                  some ((q_47.1 / (1000 : Int64)).toInt32, q_47.2))))) xfuel ((0 : Int32)) ((1 : Int32)) m_7)) xfuel ((0 : Int32)) m_2)) xfuel ((0 : Int32)) (xst m.1 am fGuideBookModel_thrown (0 : Int32), m.2))
        else (
          some ((-1 : Int32), (xst m.1 am fGuideBookModel_thrown (0 : Int32), m.2))))))
set_option maxHeartbeats 4000000 in
set_option maxRecDepth 100000 in
theorem pL_X10_plan_28 {E : xE} {d : Nat} {Q : Option Value → xS → Prop} (hd : 3 ≤ d) (out : Int32 × xMem) (hR : Q (some (.int out.1)) (xf E out.2)) (x1 : Int32) (x2 : Int32) (c47 : xMem → Option (Int32 × xMem)) (hc47 : ∀ (m : xMem), c47 m = some out → xX E mX10_plan d 0 0 0 0 Q 47 [(0, .ref (xB E + 87)), (1, .int (x1)), (2, .int (x2))] [] (xf E m)) : ∀ (fk : Nat) (x3 : Int32) (m : xMem), L_X10_plan_28 x1 x2 c47 fk x3 m = some out → xX E mX10_plan d 0 0 0 0 Q 28 [(0, .ref (xB E + 87)), (1, .int (x1)), (2, .int (x2)), (3, .int (x3))] [] (xf E m) := by
  intro fk
  induction fk with
  | zero => intro x3 m hf; cases hf
  | succ fk ih =>
    intro x3 m hf
    rw [L_X10_plan_28] at hf
    refine x_iload_n dX10_plan_28 rfl ?_
    refine x_bipush (v := 10) dX10_plan_29 (by decide) ?_
    refine x_icmp_ge 47 dX10_plan_31 (by decide) (fun hc => ?_) (fun hc => ?_)
    · replace hf := x_ift hc hf
      refine x_lv (lv' := [(0, .ref (xB E + 87)), (1, .int (x1)), (2, .int (x2))]) [0, 1, 2] rfl ?_
      exact hc47 _ hf
    · replace hf := x_iff hc hf
      refine x_aload_n dX10_plan_34 rfl ?_
      refine f_getR (b := 112) dX10_plan_35 xcl_10 (by decide) fl_RX10_112 (by decide) sh_87 rfl ?_
      refine x_iload_n dX10_plan_38 rfl ?_
      refine x_lconst (v := 0) dX10_plan_39 (by decide) ?_
      have hg_1 := x_gd hf
      replace hf := hg_1.2
      refine f_last dX10_plan_40 (by decide) sh_112 hg_1.1 ?_
      refine x_iinc (v := x3 + 1) (lv' := [(0, .ref (xB E + 87)), (1, .int (x1)), (2, .int (x2)), (3, .int (x3 + 1))]) dX10_plan_41 3 [1, 2, 3, 0] rfl rfl (by decide) rfl ?_
      refine x_goto 28 dX10_plan_44 (by decide) ?_
      exact ih _ _ hf
set_option maxHeartbeats 4000000 in
set_option maxRecDepth 100000 in
theorem pL_X10_plan_49 {E : xE} {d : Nat} {Q : Option Value → xS → Prop} (hd : 3 ≤ d) (out : Int32 × xMem) (hR : Q (some (.int out.1)) (xf E out.2)) (x1 : Int32) (x2 : Int32) (c87 : xMem → Option (Int32 × xMem)) (hc87 : ∀ (m : xMem), c87 m = some out → xX E mX10_plan d 0 0 0 0 Q 87 [(0, .ref (xB E + 87)), (1, .int (x1)), (2, .int (x2))] [] (xf E m)) : ∀ (fk : Nat) (x3 : Int32) (m : xMem), L_X10_plan_49 x1 x2 c87 fk x3 m = some out → xX E mX10_plan d 0 0 0 0 Q 49 [(0, .ref (xB E + 87)), (1, .int (x1)), (2, .int (x2)), (3, .int (x3))] [] (xf E m) := by
  intro fk
  induction fk with
  | zero => intro x3 m hf; cases hf
  | succ fk ih =>
    intro x3 m hf
    rw [L_X10_plan_49] at hf
    refine x_iload_n dX10_plan_49 rfl ?_
    refine x_aload_n dX10_plan_50 rfl ?_
    refine f_getI dX10_plan_51 xcl_10 (by decide) fl_RX10_250 (by decide) sh_87 rfl ?_
    refine x_icmp_ge 87 dX10_plan_54 (by decide) (fun hc => ?_) (fun hc => ?_)
    · replace hf := x_ift hc hf
      refine x_lv (lv' := [(0, .ref (xB E + 87)), (1, .int (x1)), (2, .int (x2))]) [0, 1, 2] rfl ?_
      exact hc87 _ hf
    · replace hf := x_iff hc hf
      refine x_aload_n dX10_plan_57 rfl ?_
      refine f_getR (b := 112) dX10_plan_58 xcl_10 (by decide) fl_RX10_112 (by decide) sh_87 rfl ?_
      refine x_aload_n dX10_plan_61 rfl ?_
      refine f_getR (b := 104) dX10_plan_62 xcl_10 (by decide) fl_RX10_88 (by decide) sh_87 rfl ?_
      refine x_iload_n dX10_plan_65 rfl ?_
      have hg_3 := x_gd hf
      replace hf := hg_3.2
      refine f_iald dX10_plan_66 (by decide) sh_104 hg_3.1 ?_
      refine x_dup2 dX10_plan_67 rfl rfl ?_
      have hg_4 := x_gd hf
      replace hf := hg_4.2
      refine f_lald dX10_plan_68 (by decide) sh_112 hg_4.1 ?_
      refine x_ldcw (v := 1000000) dX10_plan_69 w_1222 ?_
      refine x_aload_n dX10_plan_72 rfl ?_
      refine x_iload_n dX10_plan_73 rfl ?_
      obtain ⟨q_5, hq_5, hf⟩ := Option.bind_eq_some_iff.mp hf
      refine f_cVi mX10_chanceOf [.int (x3)] [.int ((1000000 : Int32)), .long (m.2 am_doubt (m.1 am_placeOf x3.toNatClampNeg).toNatClampNeg), .int (m.1 am_placeOf x3.toNatClampNeg), .ref (xB E + 112)] dX10_plan_74 cs_RX10_261 ⟨w_1204, w_73⟩ (ci := 10) rfl (by decide) sh_87 rfl rfl (Nat.le_of_ble_eq_true rfl) (by omega) (c_X10_chanceOf (d := d - 1) (by omega) (x3) m q_5 hq_5) ?_
      refine x_isub dX10_plan_77 ?_
      refine x_i2l dX10_plan_78 ?_
      refine x_ladd dX10_plan_79 ?_
      have hg_6 := x_gd hf
      replace hf := hg_6.2
      refine f_last dX10_plan_80 (by decide) sh_112 hg_6.1 ?_
      refine x_iinc (v := x3 + 1) (lv' := [(0, .ref (xB E + 87)), (1, .int (x1)), (2, .int (x2)), (3, .int (x3 + 1))]) dX10_plan_81 3 [1, 2, 3, 0] rfl rfl (by decide) rfl ?_
      refine x_goto 49 dX10_plan_84 (by decide) ?_
      exact ih _ _ hf
set_option maxHeartbeats 4000000 in
set_option maxRecDepth 100000 in
theorem pJ_X10_plan_172 {E : xE} {d : Nat} {Q : Option Value → xS → Prop} (hd : 3 ≤ d) (out : Int32 × xMem) (hR : Q (some (.int out.1)) (xf E out.2)) (rec : Int32 → Int32 → xMem → Option (Int32 × xMem)) (c179 : Int32 → xMem → Option (Int32 × xMem)) (x1 : Int32) (x2 : Int32) (x4 : Int32) (s0 : Int32) (hrec : ∀ (x3 : Int32) (x4 : Int32) (m : xMem), rec x3 x4 m = some out → xX E mX10_plan d 0 0 0 0 Q 92 [(0, .ref (xB E + 87)), (1, .int (x1)), (2, .int (x2)), (3, .int (x3)), (4, .int (x4))] [] (xf E m)) (hc179 : ∀ (x3 : Int32) (m : xMem), c179 x3 m = some out → xX E mX10_plan d 0 0 0 0 Q 179 [(0, .ref (xB E + 87)), (2, .int (x2)), (3, .int (x3))] [] (xf E m)) (m : xMem) (hf : J_X10_plan_172 rec c179 x1 x2 x4 s0 m = some out) : xX E mX10_plan d 0 0 0 0 Q 172 [(0, .ref (xB E + 87)), (1, .int (x1)), (2, .int (x2)), (4, .int (x4))] [.int (s0)] (xf E m) := by
  unfold J_X10_plan_172 at hf
  refine x_istore_n (lv' := [(0, .ref (xB E + 87)), (1, .int (x1)), (2, .int (x2)), (3, .int (s0)), (4, .int (x4))]) dX10_plan_172 [1, 2, 3, 0, 4] (by decide) rfl ?_
  refine x_iinc (v := x4 + 1) (lv' := [(0, .ref (xB E + 87)), (1, .int (x1)), (2, .int (x2)), (3, .int (s0)), (4, .int (x4 + 1))]) dX10_plan_173 4 [1, 2, 3, 4, 0] rfl rfl (by decide) rfl ?_
  refine x_goto 92 dX10_plan_176 (by decide) ?_
  exact hrec _ _ _ hf
set_option maxHeartbeats 4000000 in
set_option maxRecDepth 100000 in
theorem pJ_X10_plan_171 {E : xE} {d : Nat} {Q : Option Value → xS → Prop} (hd : 3 ≤ d) (out : Int32 × xMem) (hR : Q (some (.int out.1)) (xf E out.2)) (rec : Int32 → Int32 → xMem → Option (Int32 × xMem)) (c179 : Int32 → xMem → Option (Int32 × xMem)) (x1 : Int32) (x2 : Int32) (x3 : Int32) (x4 : Int32) (hrec : ∀ (x3 : Int32) (x4 : Int32) (m : xMem), rec x3 x4 m = some out → xX E mX10_plan d 0 0 0 0 Q 92 [(0, .ref (xB E + 87)), (1, .int (x1)), (2, .int (x2)), (3, .int (x3)), (4, .int (x4))] [] (xf E m)) (hc179 : ∀ (x3 : Int32) (m : xMem), c179 x3 m = some out → xX E mX10_plan d 0 0 0 0 Q 179 [(0, .ref (xB E + 87)), (2, .int (x2)), (3, .int (x3))] [] (xf E m)) (m : xMem) (hf : J_X10_plan_171 rec c179 x1 x2 x3 x4 m = some out) : xX E mX10_plan d 0 0 0 0 Q 171 [(0, .ref (xB E + 87)), (1, .int (x1)), (2, .int (x2)), (3, .int (x3)), (4, .int (x4))] [] (xf E m) := by
  unfold J_X10_plan_171 at hf
  refine x_iload_n dX10_plan_171 rfl ?_
  refine x_lv (lv' := [(0, .ref (xB E + 87)), (1, .int (x1)), (2, .int (x2)), (4, .int (x4))]) [0, 1, 2, 4] rfl ?_
  exact pJ_X10_plan_172 hd out hR _ _ _ _ _ _ hrec hc179 _ hf
set_option maxHeartbeats 4000000 in
set_option maxRecDepth 100000 in
theorem pJ_X10_plan_149 {E : xE} {d : Nat} {Q : Option Value → xS → Prop} (hd : 3 ≤ d) (out : Int32 × xMem) (hR : Q (some (.int out.1)) (xf E out.2)) (rec : Int32 → Int32 → xMem → Option (Int32 × xMem)) (c179 : Int32 → xMem → Option (Int32 × xMem)) (x1 : Int32) (x2 : Int32) (x3 : Int32) (x4 : Int32) (s0 : Int32) (hrec : ∀ (x3 : Int32) (x4 : Int32) (m : xMem), rec x3 x4 m = some out → xX E mX10_plan d 0 0 0 0 Q 92 [(0, .ref (xB E + 87)), (1, .int (x1)), (2, .int (x2)), (3, .int (x3)), (4, .int (x4))] [] (xf E m)) (hc179 : ∀ (x3 : Int32) (m : xMem), c179 x3 m = some out → xX E mX10_plan d 0 0 0 0 Q 179 [(0, .ref (xB E + 87)), (2, .int (x2)), (3, .int (x3))] [] (xf E m)) (m : xMem) (hf : J_X10_plan_149 rec c179 x1 x2 x3 x4 s0 m = some out) : xX E mX10_plan d 0 0 0 0 Q 149 [(0, .ref (xB E + 87)), (1, .int (x1)), (2, .int (x2)), (3, .int (x3)), (4, .int (x4))] [.int (s0)] (xf E m) := by
  unfold J_X10_plan_149 at hf
  refine x_istore (lv' := [(0, .ref (xB E + 87)), (1, .int (x1)), (2, .int (x2)), (3, .int (x3)), (4, .int (x4)), (5, .int (s0))]) dX10_plan_149 [1, 2, 3, 4, 5, 0] (by decide) rfl ?_
  refine x_aload_n dX10_plan_151 rfl ?_
  refine x_iload dX10_plan_152 rfl ?_
  obtain ⟨q_10, hq_10, hf⟩ := Option.bind_eq_some_iff.mp hf
  refine f_cVi mX10_daysOf [.int (x4)] [] dX10_plan_154 cs_RX10_275 ⟨w_1229, w_76⟩ (ci := 10) rfl (by decide) sh_87 rfl rfl (Nat.le_of_ble_eq_true rfl) (by omega) (c_X10_daysOf (d := d - 1) (by omega) (x4) m q_10 hq_10) ?_
  refine x_iload_n dX10_plan_157 rfl ?_
  refine x_icmp_gt 171 dX10_plan_158 (by decide) (fun hc => ?_) (fun hc => ?_)
  · replace hf := x_ift hc hf
    refine x_lv (lv' := [(0, .ref (xB E + 87)), (1, .int (x1)), (2, .int (x2)), (3, .int (x3)), (4, .int (x4))]) [0, 1, 2, 3, 4] rfl ?_
    exact pJ_X10_plan_171 hd out hR _ _ _ _ _ _ hrec hc179 _ hf
  · replace hf := x_iff hc hf
    refine x_iload dX10_plan_161 rfl ?_
    refine x_if_eq 171 dX10_plan_163 (by decide) (fun hc => ?_) (fun hc => ?_)
    · replace hf := x_ift hc hf
      refine x_lv (lv' := [(0, .ref (xB E + 87)), (1, .int (x1)), (2, .int (x2)), (3, .int (x3)), (4, .int (x4))]) [0, 1, 2, 3, 4] rfl ?_
      exact pJ_X10_plan_171 hd out hR _ _ _ _ _ _ hrec hc179 _ hf
    · replace hf := x_iff hc hf
      refine x_iload dX10_plan_166 rfl ?_
      refine x_goto 172 dX10_plan_168 (by decide) ?_
      refine x_lv (lv' := [(0, .ref (xB E + 87)), (1, .int (x1)), (2, .int (x2)), (4, .int (x4))]) [0, 1, 2, 4] rfl ?_
      exact pJ_X10_plan_172 hd out hR _ _ _ _ _ _ hrec hc179 _ hf
set_option maxHeartbeats 4000000 in
set_option maxRecDepth 100000 in
theorem pJ_X10_plan_144 {E : xE} {d : Nat} {Q : Option Value → xS → Prop} (hd : 3 ≤ d) (out : Int32 × xMem) (hR : Q (some (.int out.1)) (xf E out.2)) (rec : Int32 → Int32 → xMem → Option (Int32 × xMem)) (c179 : Int32 → xMem → Option (Int32 × xMem)) (x1 : Int32) (x2 : Int32) (x3 : Int32) (x4 : Int32) (hrec : ∀ (x3 : Int32) (x4 : Int32) (m : xMem), rec x3 x4 m = some out → xX E mX10_plan d 0 0 0 0 Q 92 [(0, .ref (xB E + 87)), (1, .int (x1)), (2, .int (x2)), (3, .int (x3)), (4, .int (x4))] [] (xf E m)) (hc179 : ∀ (x3 : Int32) (m : xMem), c179 x3 m = some out → xX E mX10_plan d 0 0 0 0 Q 179 [(0, .ref (xB E + 87)), (2, .int (x2)), (3, .int (x3))] [] (xf E m)) (m : xMem) (hf : J_X10_plan_144 rec c179 x1 x2 x3 x4 m = some out) : xX E mX10_plan d 0 0 0 0 Q 144 [(0, .ref (xB E + 87)), (1, .int (x1)), (2, .int (x2)), (3, .int (x3)), (4, .int (x4))] [] (xf E m) := by
  unfold J_X10_plan_144 at hf
  refine x_iconst (v := 1) dX10_plan_144 (by decide) ?_
  refine x_goto 149 dX10_plan_145 (by decide) ?_
  exact pJ_X10_plan_149 hd out hR _ _ _ _ _ _ _ hrec hc179 _ hf
set_option maxHeartbeats 4000000 in
set_option maxRecDepth 100000 in
theorem pJ_X10_plan_148 {E : xE} {d : Nat} {Q : Option Value → xS → Prop} (hd : 3 ≤ d) (out : Int32 × xMem) (hR : Q (some (.int out.1)) (xf E out.2)) (rec : Int32 → Int32 → xMem → Option (Int32 × xMem)) (c179 : Int32 → xMem → Option (Int32 × xMem)) (x1 : Int32) (x2 : Int32) (x3 : Int32) (x4 : Int32) (hrec : ∀ (x3 : Int32) (x4 : Int32) (m : xMem), rec x3 x4 m = some out → xX E mX10_plan d 0 0 0 0 Q 92 [(0, .ref (xB E + 87)), (1, .int (x1)), (2, .int (x2)), (3, .int (x3)), (4, .int (x4))] [] (xf E m)) (hc179 : ∀ (x3 : Int32) (m : xMem), c179 x3 m = some out → xX E mX10_plan d 0 0 0 0 Q 179 [(0, .ref (xB E + 87)), (2, .int (x2)), (3, .int (x3))] [] (xf E m)) (m : xMem) (hf : J_X10_plan_148 rec c179 x1 x2 x3 x4 m = some out) : xX E mX10_plan d 0 0 0 0 Q 148 [(0, .ref (xB E + 87)), (1, .int (x1)), (2, .int (x2)), (3, .int (x3)), (4, .int (x4))] [] (xf E m) := by
  unfold J_X10_plan_148 at hf
  refine x_iconst (v := 0) dX10_plan_148 (by decide) ?_
  exact pJ_X10_plan_149 hd out hR _ _ _ _ _ _ _ hrec hc179 _ hf
set_option maxHeartbeats 4000000 in
set_option maxRecDepth 100000 in
theorem pL_X10_plan_92 {E : xE} {d : Nat} {Q : Option Value → xS → Prop} (hd : 3 ≤ d) (out : Int32 × xMem) (hR : Q (some (.int out.1)) (xf E out.2)) (x1 : Int32) (x2 : Int32) (c179 : Int32 → xMem → Option (Int32 × xMem)) (hc179 : ∀ (x3 : Int32) (m : xMem), c179 x3 m = some out → xX E mX10_plan d 0 0 0 0 Q 179 [(0, .ref (xB E + 87)), (2, .int (x2)), (3, .int (x3))] [] (xf E m)) : ∀ (fk : Nat) (x3 : Int32) (x4 : Int32) (m : xMem), L_X10_plan_92 x1 x2 c179 fk x3 x4 m = some out → xX E mX10_plan d 0 0 0 0 Q 92 [(0, .ref (xB E + 87)), (1, .int (x1)), (2, .int (x2)), (3, .int (x3)), (4, .int (x4))] [] (xf E m) := by
  intro fk
  induction fk with
  | zero => intro x3 x4 m hf; cases hf
  | succ fk ih =>
    intro x3 x4 m hf
    rw [L_X10_plan_92] at hf
    refine x_iload dX10_plan_92 rfl ?_
    refine x_sipush (v := 1024) dX10_plan_94 (by decide) ?_
    refine x_icmp_ge 179 dX10_plan_97 (by decide) (fun hc => ?_) (fun hc => ?_)
    · replace hf := x_ift hc hf
      refine x_lv (lv' := [(0, .ref (xB E + 87)), (2, .int (x2)), (3, .int (x3))]) [0, 2, 3] rfl ?_
      exact hc179 _ _ hf
    · replace hf := x_iff hc hf
      refine x_aload_n dX10_plan_100 rfl ?_
      refine x_iload dX10_plan_101 rfl ?_
      obtain ⟨q_8, hq_8, hf⟩ := Option.bind_eq_some_iff.mp hf
      refine f_cVl mX10_doubtOf [.int (x4)] [] dX10_plan_103 cs_RX10_271 ⟨w_1225, w_75⟩ (ci := 10) rfl (by decide) sh_87 rfl rfl (Nat.le_of_ble_eq_true rfl) (by omega) (c_X10_doubtOf (d := d - 1) (by omega) (x4) m q_8 hq_8) ?_
      refine x_aload_n dX10_plan_106 rfl ?_
      refine x_iload_n dX10_plan_107 rfl ?_
      obtain ⟨q_9, hq_9, hf⟩ := Option.bind_eq_some_iff.mp hf
      refine f_cVl mX10_doubtOf [.int (x3)] [.long (q_8.1)] dX10_plan_108 cs_RX10_271 ⟨w_1225, w_75⟩ (ci := 10) rfl (by decide) sh_87 rfl rfl (Nat.le_of_ble_eq_true rfl) (by omega) (c_X10_doubtOf (d := d - 1) (by omega) (x3) q_8.2 q_9 hq_9) ?_
      refine x_lcmp dX10_plan_111 ?_
      refine x_if_gt 144 dX10_plan_112 (by decide) (fun hc => ?_) (fun hc => ?_)
      · replace hf := x_ift hc hf
        exact pJ_X10_plan_144 hd out hR _ _ _ _ _ _ (fun y0 y1 m9 h9 => ih y0 y1 m9 h9) hc179 _ hf
      · replace hf := x_iff hc hf
        refine x_aload_n dX10_plan_115 rfl ?_
        refine x_iload dX10_plan_116 rfl ?_
        obtain ⟨q_26, hq_26, hf⟩ := Option.bind_eq_some_iff.mp hf
        refine f_cVl mX10_doubtOf [.int (x4)] [] dX10_plan_118 cs_RX10_271 ⟨w_1225, w_75⟩ (ci := 10) rfl (by decide) sh_87 rfl rfl (Nat.le_of_ble_eq_true rfl) (by omega) (c_X10_doubtOf (d := d - 1) (by omega) (x4) q_9.2 q_26 hq_26) ?_
        refine x_aload_n dX10_plan_121 rfl ?_
        refine x_iload_n dX10_plan_122 rfl ?_
        obtain ⟨q_27, hq_27, hf⟩ := Option.bind_eq_some_iff.mp hf
        refine f_cVl mX10_doubtOf [.int (x3)] [.long (q_26.1)] dX10_plan_123 cs_RX10_271 ⟨w_1225, w_75⟩ (ci := 10) rfl (by decide) sh_87 rfl rfl (Nat.le_of_ble_eq_true rfl) (by omega) (c_X10_doubtOf (d := d - 1) (by omega) (x3) q_26.2 q_27 hq_27) ?_
        refine x_lcmp dX10_plan_126 ?_
        refine x_if_ne 148 dX10_plan_127 (by decide) (fun hc => ?_) (fun hc => ?_)
        · replace hf := x_iff hc hf
          exact pJ_X10_plan_148 hd out hR _ _ _ _ _ _ (fun y0 y1 m9 h9 => ih y0 y1 m9 h9) hc179 _ hf
        · replace hf := x_ift hc hf
          refine x_aload_n dX10_plan_130 rfl ?_
          refine x_iload dX10_plan_131 rfl ?_
          obtain ⟨q_31, hq_31, hf⟩ := Option.bind_eq_some_iff.mp hf
          refine f_cVi mX10_daysOf [.int (x4)] [] dX10_plan_133 cs_RX10_275 ⟨w_1229, w_76⟩ (ci := 10) rfl (by decide) sh_87 rfl rfl (Nat.le_of_ble_eq_true rfl) (by omega) (c_X10_daysOf (d := d - 1) (by omega) (x4) q_27.2 q_31 hq_31) ?_
          refine x_aload_n dX10_plan_136 rfl ?_
          refine x_iload_n dX10_plan_137 rfl ?_
          obtain ⟨q_32, hq_32, hf⟩ := Option.bind_eq_some_iff.mp hf
          refine f_cVi mX10_daysOf [.int (x3)] [.int (q_31.1)] dX10_plan_138 cs_RX10_275 ⟨w_1229, w_76⟩ (ci := 10) rfl (by decide) sh_87 rfl rfl (Nat.le_of_ble_eq_true rfl) (by omega) (c_X10_daysOf (d := d - 1) (by omega) (x3) q_31.2 q_32 hq_32) ?_
          refine x_icmp_ge 148 dX10_plan_141 (by decide) (fun hc => ?_) (fun hc => ?_)
          · replace hf := x_ift hc hf
            exact pJ_X10_plan_148 hd out hR _ _ _ _ _ _ (fun y0 y1 m9 h9 => ih y0 y1 m9 h9) hc179 _ hf
          · replace hf := x_iff hc hf
            exact pJ_X10_plan_144 hd out hR _ _ _ _ _ _ (fun y0 y1 m9 h9 => ih y0 y1 m9 h9) hc179 _ hf
set_option maxHeartbeats 4000000 in
set_option maxRecDepth 100000 in
theorem pF_X10_plan {E : xE} {d : Nat} {Q : Option Value → xS → Prop} (hd : 3 ≤ d) (out : Int32 × xMem) (hR : Q (some (.int out.1)) (xf E out.2)) (x1 : Int32) (x2 : Int32) (m : xMem) (hf : F_X10_plan x1 x2 m = some out) : xX E mX10_plan d 0 0 0 0 Q 0 [(0, .ref (xB E + 87)), (1, .int (x1)), (2, .int (x2))] [] (xf E m) := by
  unfold F_X10_plan at hf
  refine x_aload_n dX10_plan_0 rfl ?_
  refine x_iconst (v := 0) dX10_plan_1 (by decide) ?_
  refine f_putI dX10_plan_2 xcl_10 (by decide) fl_RX10_1 rfl rfl (by decide) sh_87 rfl ?_
  refine x_iload_n dX10_plan_5 rfl ?_
  refine x_if_lt 24 dX10_plan_6 (by decide) (fun hc => ?_) (fun hc => ?_)
  · replace hf := x_ift hc hf
    refine x_iconst (v := (-1)) dX10_plan_24 (by decide) ?_
    exact x_iret dX10_plan_25 rfl (by cases hf; exact hR)
  · replace hf := x_iff hc hf
    refine x_iload_n dX10_plan_9 rfl ?_
    refine x_bipush (v := 99) dX10_plan_10 (by decide) ?_
    refine x_icmp_gt 24 dX10_plan_12 (by decide) (fun hc => ?_) (fun hc => ?_)
    · replace hf := x_ift hc hf
      refine x_iconst (v := (-1)) dX10_plan_24 (by decide) ?_
      exact x_iret dX10_plan_25 rfl (by cases hf; exact hR)
    · replace hf := x_iff hc hf
      refine x_iload_n dX10_plan_15 rfl ?_
      refine x_if_lt 24 dX10_plan_16 (by decide) (fun hc => ?_) (fun hc => ?_)
      · replace hf := x_ift hc hf
        refine x_iconst (v := (-1)) dX10_plan_24 (by decide) ?_
        exact x_iret dX10_plan_25 rfl (by cases hf; exact hR)
      · replace hf := x_iff hc hf
        refine x_iload_n dX10_plan_19 rfl ?_
        refine x_iconst (v := 1) dX10_plan_20 (by decide) ?_
        refine x_icmp_le 26 dX10_plan_21 (by decide) (fun hc => ?_) (fun hc => ?_)
        · replace hf := x_ift hc hf
          refine x_iconst (v := 0) dX10_plan_26 (by decide) ?_
          refine x_istore_n (lv' := [(0, .ref (xB E + 87)), (1, .int (x1)), (2, .int (x2)), (3, .int ((0 : Int32)))]) dX10_plan_27 [1, 2, 3, 0] (by decide) rfl ?_
          refine pL_X10_plan_28 hd out hR _ _ _ (fun m_2 hf => ?_) xfuel _ _ hf
          refine x_iconst (v := 0) dX10_plan_47 (by decide) ?_
          refine x_istore_n (lv' := [(0, .ref (xB E + 87)), (1, .int (x1)), (2, .int (x2)), (3, .int ((0 : Int32)))]) dX10_plan_48 [1, 2, 3, 0] (by decide) rfl ?_
          refine pL_X10_plan_49 hd out hR _ _ _ (fun m_7 hf => ?_) xfuel _ _ hf
          refine x_iconst (v := 0) dX10_plan_87 (by decide) ?_
          refine x_istore_n (lv' := [(0, .ref (xB E + 87)), (1, .int (x1)), (2, .int (x2)), (3, .int ((0 : Int32)))]) dX10_plan_88 [1, 2, 3, 0] (by decide) rfl ?_
          refine x_iconst (v := 1) dX10_plan_89 (by decide) ?_
          refine x_istore (lv' := [(0, .ref (xB E + 87)), (1, .int (x1)), (2, .int (x2)), (3, .int ((0 : Int32))), (4, .int ((1 : Int32)))]) dX10_plan_90 [1, 2, 3, 4, 0] (by decide) rfl ?_
          refine pL_X10_plan_92 hd out hR _ _ _ (fun x3_45 m_46 hf => ?_) xfuel _ _ _ hf
          refine x_iload_n dX10_plan_179 rfl ?_
          refine x_if_ne 187 dX10_plan_180 (by decide) (fun hc => ?_) (fun hc => ?_)
          · replace hf := x_iff hc hf
            refine x_aload_n dX10_plan_187 rfl ?_
            refine x_iload_n dX10_plan_188 rfl ?_
            obtain ⟨q_47, hq_47, hf⟩ := Option.bind_eq_some_iff.mp hf
            refine f_cVl mX10_doubtOf [.int (x3_45)] [] dX10_plan_189 cs_RX10_271 ⟨w_1225, w_75⟩ (ci := 10) rfl (by decide) sh_87 rfl rfl (Nat.le_of_ble_eq_true rfl) (by omega) (c_X10_doubtOf (d := d - 1) (by omega) (x3_45) m_46 q_47 hq_47) ?_
            refine x_ldc2 (v := 1000) dX10_plan_192 w_1231 ?_
            refine x_ldiv dX10_plan_195 (by decide) ?_
            refine x_l2i dX10_plan_196 ?_
            exact x_iret dX10_plan_197 rfl (by cases hf; exact hR)
          · replace hf := x_ift hc hf
            refine x_iload_n dX10_plan_183 rfl ?_
            refine x_goto 197 dX10_plan_184 (by decide) ?_
            exact x_iret dX10_plan_197 rfl (by cases hf; exact hR)
        · replace hf := x_iff hc hf
          refine x_iconst (v := (-1)) dX10_plan_24 (by decide) ?_
          exact x_iret dX10_plan_25 rfl (by cases hf; exact hR)
theorem c_X10_plan {E : xE} {d : Nat} (hd : 3 ≤ d) (x1 : Int32) (x2 : Int32) (m : xMem) (out : Int32 × xMem) (h : F_X10_plan x1 x2 m = some out) : xCi E mX10_plan d [.ref (xB E + 87), .int x1, .int x2] m out.1 out.2 :=
  x_enter (by decide +kernel) (Nat.le_of_ble_eq_true rfl) (pF_X10_plan hd (Q := _) out ⟨rfl, rfl⟩ x1 x2 m h)
-- X9_isReader
def F_X9_isReader (x0 : Int32) (m : xMem) : Option (Int32 × xMem) :=
  (F_X9_within (x0) ((19 : Int32)) m).bind fun q_1 => (
  if xbb q_1.1 = true then (
  some (q_1.1, q_1.2))
  else none)
set_option maxHeartbeats 4000000 in
set_option maxRecDepth 100000 in
theorem pF_X9_isReader {E : xE} {d : Nat} {Q : Option Value → xS → Prop} (hd : 2 ≤ d) (out : Int32 × xMem) (hR : Q (some (.int out.1)) (xf E out.2)) (x0 : Int32) (m : xMem) (hf : F_X9_isReader x0 m = some out) : xX E mX9_isReader d 0 0 0 0 Q 0 [(0, .int (x0))] [] (xf E m) := by
  unfold F_X9_isReader at hf
  refine x_iload_n dX9_isReader_0 rfl ?_
  refine x_bipush (v := 19) dX9_isReader_1 (by decide) ?_
  obtain ⟨q_1, hq_1, hf⟩ := Option.bind_eq_some_iff.mp hf
  refine f_cSi mX9_within [.int (x0), .int ((19 : Int32))] [] dX9_isReader_3 cs_RX9_82 w_389 rfl rfl (Nat.le_of_ble_eq_true rfl) (by omega) (c_X9_within (d := d - 1) (by omega) (x0) ((19 : Int32)) m q_1 hq_1) ?_
  have hg_2 := x_gd hf
  replace hf := hg_2.2
  exact x_zret dX9_isReader_6 rfl (xbb_n hg_2.1) (by cases hf; exact hR)
theorem c_X9_isReader {E : xE} {d : Nat} (hd : 2 ≤ d) (x0 : Int32) (m : xMem) (out : Int32 × xMem) (h : F_X9_isReader x0 m = some out) : xCi E mX9_isReader d [.int x0] m out.1 out.2 :=
  x_enter (by decide +kernel) (Nat.le_of_ble_eq_true rfl) (pF_X9_isReader hd (Q := _) out ⟨rfl, rfl⟩ x0 m h)
-- X3_add
def F_X3_add (x1 : Int32) (x2 : Int32) (x3 : Int32) (m : xMem) : Option (Int32 × xMem) :=
  if xin (m.1 ag_letters fLetters_size) 100 = true then (
  if xin (m.1 ag_letters fLetters_size) 100 = true then (
  if xin (m.1 ag_letters fLetters_size) 100 = true then (
  if xin (m.1 ag_letters fLetters_size) 100 = true then (
  some (m.1 ag_letters fLetters_size, (xst (xst (xst (xst (xst (xst m.1 ag_letters_reader (m.1 ag_letters fLetters_size).toNatClampNeg x1) ag_letters_about (m.1 ag_letters fLetters_size).toNatClampNeg x2) ag_letters_said (m.1 ag_letters fLetters_size).toNatClampNeg x3) ag_letters_state (m.1 ag_letters fLetters_size).toNatClampNeg (0 : Int32)) ag_letters fLetters_size (((xst (xst (xst (xst m.1 ag_letters_reader (m.1 ag_letters fLetters_size).toNatClampNeg x1) ag_letters_about (m.1 ag_letters fLetters_size).toNatClampNeg x2) ag_letters_said (m.1 ag_letters fLetters_size).toNatClampNeg x3) ag_letters_state (m.1 ag_letters fLetters_size).toNatClampNeg (0 : Int32)) ag_letters fLetters_size) + (1 : Int32))) ag_letters fLetters_open (((xst (xst (xst (xst (xst m.1 ag_letters_reader (m.1 ag_letters fLetters_size).toNatClampNeg x1) ag_letters_about (m.1 ag_letters fLetters_size).toNatClampNeg x2) ag_letters_said (m.1 ag_letters fLetters_size).toNatClampNeg x3) ag_letters_state (m.1 ag_letters fLetters_size).toNatClampNeg (0 : Int32)) ag_letters fLetters_size (((xst (xst (xst (xst m.1 ag_letters_reader (m.1 ag_letters fLetters_size).toNatClampNeg x1) ag_letters_about (m.1 ag_letters fLetters_size).toNatClampNeg x2) ag_letters_said (m.1 ag_letters fLetters_size).toNatClampNeg x3) ag_letters_state (m.1 ag_letters fLetters_size).toNatClampNeg (0 : Int32)) ag_letters fLetters_size) + (1 : Int32))) ag_letters fLetters_open) + (1 : Int32)), m.2)))
  else none)
  else none)
  else none)
  else none
set_option maxHeartbeats 4000000 in
set_option maxRecDepth 100000 in
theorem pF_X3_add {E : xE} {d : Nat} {Q : Option Value → xS → Prop} (hd : 1 ≤ d) (out : Int32 × xMem) (hR : Q (some (.int out.1)) (xf E out.2)) (x1 : Int32) (x2 : Int32) (x3 : Int32) (m : xMem) (hf : F_X3_add x1 x2 x3 m = some out) : xX E mX3_add d 0 0 0 0 Q 0 [(0, .ref (xB E + 10)), (1, .int (x1)), (2, .int (x2)), (3, .int (x3))] [] (xf E m) := by
  unfold F_X3_add at hf
  refine x_aload_n dX3_add_0 rfl ?_
  refine f_getI dX3_add_1 xcl_3 (by decide) fl_RX3_30 (by decide) sh_10 rfl ?_
  refine x_istore (lv' := [(0, .ref (xB E + 10)), (1, .int (x1)), (2, .int (x2)), (3, .int (x3)), (4, .int (m.1 ag_letters fLetters_size))]) dX3_add_4 [1, 2, 3, 4, 0] (by decide) rfl ?_
  refine x_aload_n dX3_add_6 rfl ?_
  refine f_getR (b := 11) dX3_add_7 xcl_3 (by decide) fl_RX3_9 (by decide) sh_10 rfl ?_
  refine x_iload dX3_add_10 rfl ?_
  refine x_iload_n dX3_add_12 rfl ?_
  have hg_1 := x_gd hf
  replace hf := hg_1.2
  refine f_iast dX3_add_13 (by decide) sh_11 hg_1.1 ?_
  refine x_aload_n dX3_add_14 rfl ?_
  refine f_getR (b := 12) dX3_add_15 xcl_3 (by decide) fl_RX3_15 (by decide) sh_10 rfl ?_
  refine x_iload dX3_add_18 rfl ?_
  refine x_iload_n dX3_add_20 rfl ?_
  have hg_2 := x_gd hf
  replace hf := hg_2.2
  refine f_iast dX3_add_21 (by decide) sh_12 hg_2.1 ?_
  refine x_aload_n dX3_add_22 rfl ?_
  refine f_getR (b := 13) dX3_add_23 xcl_3 (by decide) fl_RX3_18 (by decide) sh_10 rfl ?_
  refine x_iload dX3_add_26 rfl ?_
  refine x_iload_n dX3_add_28 rfl ?_
  have hg_3 := x_gd hf
  replace hf := hg_3.2
  refine f_iast dX3_add_29 (by decide) sh_13 hg_3.1 ?_
  refine x_aload_n dX3_add_30 rfl ?_
  refine f_getR (b := 14) dX3_add_31 xcl_3 (by decide) fl_RX3_21 (by decide) sh_10 rfl ?_
  refine x_iload dX3_add_34 rfl ?_
  refine x_iconst (v := 0) dX3_add_36 (by decide) ?_
  have hg_4 := x_gd hf
  replace hf := hg_4.2
  refine f_iast dX3_add_37 (by decide) sh_14 hg_4.1 ?_
  refine x_aload_n dX3_add_38 rfl ?_
  refine x_dup dX3_add_39 rfl ?_
  refine f_getI dX3_add_40 xcl_3 (by decide) fl_RX3_30 (by decide) sh_10 rfl ?_
  refine x_iconst (v := 1) dX3_add_43 (by decide) ?_
  refine x_iadd dX3_add_44 ?_
  refine f_putI dX3_add_45 xcl_3 (by decide) fl_RX3_30 rfl rfl (by decide) sh_10 rfl ?_
  refine x_aload_n dX3_add_48 rfl ?_
  refine x_dup dX3_add_49 rfl ?_
  refine f_getI dX3_add_50 xcl_3 (by decide) fl_RX3_34 (by decide) sh_10 rfl ?_
  refine x_iconst (v := 1) dX3_add_53 (by decide) ?_
  refine x_iadd dX3_add_54 ?_
  refine f_putI dX3_add_55 xcl_3 (by decide) fl_RX3_34 rfl rfl (by decide) sh_10 rfl ?_
  refine x_iload dX3_add_58 rfl ?_
  exact x_iret dX3_add_60 rfl (by cases hf; exact hR)
theorem c_X3_add {E : xE} {d : Nat} (hd : 1 ≤ d) (x1 : Int32) (x2 : Int32) (x3 : Int32) (m : xMem) (out : Int32 × xMem) (h : F_X3_add x1 x2 x3 m = some out) : xCi E mX3_add d [.ref (xB E + 10), .int x1, .int x2, .int x3] m out.1 out.2 :=
  x_enter (by decide +kernel) (Nat.le_of_ble_eq_true rfl) (pF_X3_add hd (Q := _) out ⟨rfl, rfl⟩ x1 x2 x3 m h)
-- X9_letter
def J_X9_letter_30 (x1 : Int32) (x2 : Int32) (x3 : Int32) (s0 : Int32) (m : xMem) : Option (Int32 × xMem) :=
  if s0 = 0 then (
    some ((-1 : Int32), m))
  else (
    if (m.1 ag_letters fLetters_size) < (100 : Int32) then (
      (F_X3_add (x1) (x2) (x3) m).bind fun q_2 => (
      some (q_2.1, q_2.2)))
    else (
      some ((-1 : Int32), m)))
def J_X9_letter_29 (x1 : Int32) (x2 : Int32) (x3 : Int32) (m : xMem) : Option (Int32 × xMem) :=
  J_X9_letter_30 (x1) (x2) (x3) ((0 : Int32)) m
def F_X9_letter (x1 : Int32) (x2 : Int32) (x3 : Int32) (m : xMem) : Option (Int32 × xMem) :=
  (F_X9_isReader (x1) m).bind fun q_1 => (
  if q_1.1 = 0 then (
    J_X9_letter_29 (x1) (x2) (x3) q_1.2)
  else (
    (F_X2_has (x2) q_1.2).bind fun q_3 => (
    if q_3.1 = 0 then (
      J_X9_letter_29 (x1) (x2) (x3) q_3.2)
    else (
      (F_X9_isValue (x3) q_3.2).bind fun q_4 => (
      if q_4.1 = 0 then (
        J_X9_letter_29 (x1) (x2) (x3) q_4.2)
      else (
        J_X9_letter_30 (x1) (x2) (x3) ((1 : Int32)) q_4.2))))))
set_option maxHeartbeats 4000000 in
set_option maxRecDepth 100000 in
theorem pJ_X9_letter_30 {E : xE} {d : Nat} {Q : Option Value → xS → Prop} (hd : 3 ≤ d) (out : Int32 × xMem) (hR : Q (some (.int out.1)) (xf E out.2)) (x1 : Int32) (x2 : Int32) (x3 : Int32) (s0 : Int32) (m : xMem) (hf : J_X9_letter_30 x1 x2 x3 s0 m = some out) : xX E mX9_letter d 0 0 0 0 Q 30 [(0, .ref (xB E + 0)), (1, .int (x1)), (2, .int (x2)), (3, .int (x3))] [.int (s0)] (xf E m) := by
  unfold J_X9_letter_30 at hf
  refine x_istore (lv' := [(0, .ref (xB E + 0)), (1, .int (x1)), (2, .int (x2)), (3, .int (x3)), (4, .int (s0))]) dX9_letter_30 [1, 2, 3, 4, 0] (by decide) rfl ?_
  refine x_iload dX9_letter_32 rfl ?_
  refine x_if_eq 49 dX9_letter_34 (by decide) (fun hc => ?_) (fun hc => ?_)
  · replace hf := x_ift hc hf
    refine x_iconst (v := (-1)) dX9_letter_49 (by decide) ?_
    exact x_iret dX9_letter_50 rfl (by cases hf; exact hR)
  · replace hf := x_iff hc hf
    refine x_aload_n dX9_letter_37 rfl ?_
    refine f_getR (b := 10) dX9_letter_38 xcl_9 (by decide) fl_RX9_19 (by decide) sh_0 rfl ?_
    refine f_getI dX9_letter_41 xcl_3 (by decide) fl_RX9_142 (by decide) sh_10 rfl ?_
    refine x_bipush (v := 100) dX9_letter_44 (by decide) ?_
    refine x_icmp_lt 51 dX9_letter_46 (by decide) (fun hc => ?_) (fun hc => ?_)
    · replace hf := x_ift hc hf
      refine x_aload_n dX9_letter_51 rfl ?_
      refine f_getR (b := 10) dX9_letter_52 xcl_9 (by decide) fl_RX9_19 (by decide) sh_0 rfl ?_
      refine x_iload_n dX9_letter_55 rfl ?_
      refine x_iload_n dX9_letter_56 rfl ?_
      refine x_iload_n dX9_letter_57 rfl ?_
      obtain ⟨q_2, hq_2, hf⟩ := Option.bind_eq_some_iff.mp hf
      refine f_cVi mX3_add [.int (x1), .int (x2), .int (x3)] [] dX9_letter_58 cs_RX9_143 ⟨w_515, w_16⟩ (ci := 3) rfl (by decide) sh_10 rfl rfl (Nat.le_of_ble_eq_true rfl) (by omega) (c_X3_add (d := d - 1) (by omega) (x1) (x2) (x3) m q_2 hq_2) ?_
      exact x_iret dX9_letter_61 rfl (by cases hf; exact hR)
    · replace hf := x_iff hc hf
      refine x_iconst (v := (-1)) dX9_letter_49 (by decide) ?_
      exact x_iret dX9_letter_50 rfl (by cases hf; exact hR)
set_option maxHeartbeats 4000000 in
set_option maxRecDepth 100000 in
theorem pJ_X9_letter_29 {E : xE} {d : Nat} {Q : Option Value → xS → Prop} (hd : 3 ≤ d) (out : Int32 × xMem) (hR : Q (some (.int out.1)) (xf E out.2)) (x1 : Int32) (x2 : Int32) (x3 : Int32) (m : xMem) (hf : J_X9_letter_29 x1 x2 x3 m = some out) : xX E mX9_letter d 0 0 0 0 Q 29 [(0, .ref (xB E + 0)), (1, .int (x1)), (2, .int (x2)), (3, .int (x3))] [] (xf E m) := by
  unfold J_X9_letter_29 at hf
  refine x_iconst (v := 0) dX9_letter_29 (by decide) ?_
  exact pJ_X9_letter_30 hd out hR _ _ _ _ _ hf
set_option maxHeartbeats 4000000 in
set_option maxRecDepth 100000 in
theorem pF_X9_letter {E : xE} {d : Nat} {Q : Option Value → xS → Prop} (hd : 3 ≤ d) (out : Int32 × xMem) (hR : Q (some (.int out.1)) (xf E out.2)) (x1 : Int32) (x2 : Int32) (x3 : Int32) (m : xMem) (hf : F_X9_letter x1 x2 x3 m = some out) : xX E mX9_letter d 0 0 0 0 Q 0 [(0, .ref (xB E + 0)), (1, .int (x1)), (2, .int (x2)), (3, .int (x3))] [] (xf E m) := by
  unfold F_X9_letter at hf
  refine x_iload_n dX9_letter_0 rfl ?_
  obtain ⟨q_1, hq_1, hf⟩ := Option.bind_eq_some_iff.mp hf
  refine f_cSi mX9_isReader [.int (x1)] [] dX9_letter_1 cs_RX9_139 w_511 rfl rfl (Nat.le_of_ble_eq_true rfl) (by omega) (c_X9_isReader (d := d - 1) (by omega) (x1) m q_1 hq_1) ?_
  refine x_if_eq 29 dX9_letter_4 (by decide) (fun hc => ?_) (fun hc => ?_)
  · replace hf := x_ift hc hf
    exact pJ_X9_letter_29 hd out hR _ _ _ _ hf
  · replace hf := x_iff hc hf
    refine x_aload_n dX9_letter_7 rfl ?_
    refine f_getR (b := 1) dX9_letter_8 xcl_9 (by decide) fl_RX9_12 (by decide) sh_0 rfl ?_
    refine x_iload_n dX9_letter_11 rfl ?_
    obtain ⟨q_3, hq_3, hf⟩ := Option.bind_eq_some_iff.mp hf
    refine f_cVi mX2_has [.int (x2)] [] dX9_letter_12 cs_RX9_107 ⟨w_414, w_1⟩ (ci := 2) rfl (by decide) sh_1 rfl rfl (Nat.le_of_ble_eq_true rfl) (by omega) (c_X2_has (d := d - 1) (by omega) (x2) q_1.2 q_3 hq_3) ?_
    refine x_if_eq 29 dX9_letter_15 (by decide) (fun hc => ?_) (fun hc => ?_)
    · replace hf := x_ift hc hf
      exact pJ_X9_letter_29 hd out hR _ _ _ _ hf
    · replace hf := x_iff hc hf
      refine x_iload_n dX9_letter_18 rfl ?_
      obtain ⟨q_4, hq_4, hf⟩ := Option.bind_eq_some_iff.mp hf
      refine f_cSi mX9_isValue [.int (x3)] [] dX9_letter_19 cs_RX9_97 w_402 rfl rfl (Nat.le_of_ble_eq_true rfl) (by omega) (c_X9_isValue (d := d - 1) (by omega) (x3) q_3.2 q_4 hq_4) ?_
      refine x_if_eq 29 dX9_letter_22 (by decide) (fun hc => ?_) (fun hc => ?_)
      · replace hf := x_ift hc hf
        exact pJ_X9_letter_29 hd out hR _ _ _ _ hf
      · replace hf := x_iff hc hf
        refine x_iconst (v := 1) dX9_letter_25 (by decide) ?_
        refine x_goto 30 dX9_letter_26 (by decide) ?_
        exact pJ_X9_letter_30 hd out hR _ _ _ _ _ hf
theorem c_X9_letter {E : xE} {d : Nat} (hd : 3 ≤ d) (x1 : Int32) (x2 : Int32) (x3 : Int32) (m : xMem) (out : Int32 × xMem) (h : F_X9_letter x1 x2 x3 m = some out) : xCi E mX9_letter d [.ref (xB E + 0), .int x1, .int x2, .int x3] m out.1 out.2 :=
  x_enter (by decide +kernel) (Nat.le_of_ble_eq_true rfl) (pF_X9_letter hd (Q := _) out ⟨rfl, rfl⟩ x1 x2 x3 m h)
-- X10_letter
def F_X10_letter (x1 : Int32) (x2 : Int32) (x3 : Int32) (m : xMem) : Option (Int32 × xMem) :=
  if x1 < 0 then (
    some ((-1 : Int32), (xst m.1 am fGuideBookModel_thrown (0 : Int32), m.2)))
  else (
    if (19 : Int32) < x1 then (
      some ((-1 : Int32), (xst m.1 am fGuideBookModel_thrown (0 : Int32), m.2)))
    else (
      (F_X10_isFact (x2) (xst m.1 am fGuideBookModel_thrown (0 : Int32), m.2)).bind fun q_1 => (
      if q_1.1 = 0 then (
        some ((-1 : Int32), q_1.2))
      else (
        (F_X10_isValue (x3) q_1.2).bind fun q_2 => (
        if q_2.1 = 0 then (
          some ((-1 : Int32), q_2.2))
        else (
          if (q_2.2.1 am fGuideBookModel_letters) = (100 : Int32) then (
            some ((-1 : Int32), q_2.2))
          else (
            if xin (q_2.2.1 am fGuideBookModel_letters) 100 = true then (
            if xin ((xst q_2.2.1 am_readers (q_2.2.1 am fGuideBookModel_letters).toNatClampNeg x1) am fGuideBookModel_letters) 100 = true then (
            if xin ((xst (xst q_2.2.1 am_readers (q_2.2.1 am fGuideBookModel_letters).toNatClampNeg x1) am_about ((xst q_2.2.1 am_readers (q_2.2.1 am fGuideBookModel_letters).toNatClampNeg x1) am fGuideBookModel_letters).toNatClampNeg x2) am fGuideBookModel_letters) 100 = true then (
            some (((xst (xst (xst (xst q_2.2.1 am_readers (q_2.2.1 am fGuideBookModel_letters).toNatClampNeg x1) am_about ((xst q_2.2.1 am_readers (q_2.2.1 am fGuideBookModel_letters).toNatClampNeg x1) am fGuideBookModel_letters).toNatClampNeg x2) am_says ((xst (xst q_2.2.1 am_readers (q_2.2.1 am fGuideBookModel_letters).toNatClampNeg x1) am_about ((xst q_2.2.1 am_readers (q_2.2.1 am fGuideBookModel_letters).toNatClampNeg x1) am fGuideBookModel_letters).toNatClampNeg x2) am fGuideBookModel_letters).toNatClampNeg x3) am fGuideBookModel_letters (((xst (xst (xst q_2.2.1 am_readers (q_2.2.1 am fGuideBookModel_letters).toNatClampNeg x1) am_about ((xst q_2.2.1 am_readers (q_2.2.1 am fGuideBookModel_letters).toNatClampNeg x1) am fGuideBookModel_letters).toNatClampNeg x2) am_says ((xst (xst q_2.2.1 am_readers (q_2.2.1 am fGuideBookModel_letters).toNatClampNeg x1) am_about ((xst q_2.2.1 am_readers (q_2.2.1 am fGuideBookModel_letters).toNatClampNeg x1) am fGuideBookModel_letters).toNatClampNeg x2) am fGuideBookModel_letters).toNatClampNeg x3) am fGuideBookModel_letters) + (1 : Int32))) am fGuideBookModel_letters) - (1 : Int32), (xst (xst (xst (xst q_2.2.1 am_readers (q_2.2.1 am fGuideBookModel_letters).toNatClampNeg x1) am_about ((xst q_2.2.1 am_readers (q_2.2.1 am fGuideBookModel_letters).toNatClampNeg x1) am fGuideBookModel_letters).toNatClampNeg x2) am_says ((xst (xst q_2.2.1 am_readers (q_2.2.1 am fGuideBookModel_letters).toNatClampNeg x1) am_about ((xst q_2.2.1 am_readers (q_2.2.1 am fGuideBookModel_letters).toNatClampNeg x1) am fGuideBookModel_letters).toNatClampNeg x2) am fGuideBookModel_letters).toNatClampNeg x3) am fGuideBookModel_letters (((xst (xst (xst q_2.2.1 am_readers (q_2.2.1 am fGuideBookModel_letters).toNatClampNeg x1) am_about ((xst q_2.2.1 am_readers (q_2.2.1 am fGuideBookModel_letters).toNatClampNeg x1) am fGuideBookModel_letters).toNatClampNeg x2) am_says ((xst (xst q_2.2.1 am_readers (q_2.2.1 am fGuideBookModel_letters).toNatClampNeg x1) am_about ((xst q_2.2.1 am_readers (q_2.2.1 am fGuideBookModel_letters).toNatClampNeg x1) am fGuideBookModel_letters).toNatClampNeg x2) am fGuideBookModel_letters).toNatClampNeg x3) am fGuideBookModel_letters) + (1 : Int32)), q_2.2.2)))
            else none)
            else none)
            else none)))))))
set_option maxHeartbeats 4000000 in
set_option maxRecDepth 100000 in
theorem pF_X10_letter {E : xE} {d : Nat} {Q : Option Value → xS → Prop} (hd : 2 ≤ d) (out : Int32 × xMem) (hR : Q (some (.int out.1)) (xf E out.2)) (x1 : Int32) (x2 : Int32) (x3 : Int32) (m : xMem) (hf : F_X10_letter x1 x2 x3 m = some out) : xX E mX10_letter d 0 0 0 0 Q 0 [(0, .ref (xB E + 87)), (1, .int (x1)), (2, .int (x2)), (3, .int (x3))] [] (xf E m) := by
  unfold F_X10_letter at hf
  refine x_aload_n dX10_letter_0 rfl ?_
  refine x_iconst (v := 0) dX10_letter_1 (by decide) ?_
  refine f_putI dX10_letter_2 xcl_10 (by decide) fl_RX10_1 rfl rfl (by decide) sh_87 rfl ?_
  refine x_iload_n dX10_letter_5 rfl ?_
  refine x_if_lt 39 dX10_letter_6 (by decide) (fun hc => ?_) (fun hc => ?_)
  · replace hf := x_ift hc hf
    refine x_iconst (v := (-1)) dX10_letter_39 (by decide) ?_
    exact x_iret dX10_letter_40 rfl (by cases hf; exact hR)
  · replace hf := x_iff hc hf
    refine x_iload_n dX10_letter_9 rfl ?_
    refine x_bipush (v := 19) dX10_letter_10 (by decide) ?_
    refine x_icmp_gt 39 dX10_letter_12 (by decide) (fun hc => ?_) (fun hc => ?_)
    · replace hf := x_ift hc hf
      refine x_iconst (v := (-1)) dX10_letter_39 (by decide) ?_
      exact x_iret dX10_letter_40 rfl (by cases hf; exact hR)
    · replace hf := x_iff hc hf
      refine x_aload_n dX10_letter_15 rfl ?_
      refine x_iload_n dX10_letter_16 rfl ?_
      obtain ⟨q_1, hq_1, hf⟩ := Option.bind_eq_some_iff.mp hf
      refine f_cVi mX10_isFact [.int (x2)] [] dX10_letter_17 cs_RX10_253 ⟨w_1187, w_71⟩ (ci := 10) rfl (by decide) sh_87 rfl rfl (Nat.le_of_ble_eq_true rfl) (by omega) (c_X10_isFact (d := d - 1) (by omega) (x2) (xst m.1 am fGuideBookModel_thrown (0 : Int32), m.2) q_1 hq_1) ?_
      refine x_if_eq 39 dX10_letter_20 (by decide) (fun hc => ?_) (fun hc => ?_)
      · replace hf := x_ift hc hf
        refine x_iconst (v := (-1)) dX10_letter_39 (by decide) ?_
        exact x_iret dX10_letter_40 rfl (by cases hf; exact hR)
      · replace hf := x_iff hc hf
        refine x_iload_n dX10_letter_23 rfl ?_
        obtain ⟨q_2, hq_2, hf⟩ := Option.bind_eq_some_iff.mp hf
        refine f_cSi mX10_isValue [.int (x3)] [] dX10_letter_24 cs_RX10_247 w_1179 rfl rfl (Nat.le_of_ble_eq_true rfl) (by omega) (c_X10_isValue (d := d - 1) (by omega) (x3) q_1.2 q_2 hq_2) ?_
        refine x_if_eq 39 dX10_letter_27 (by decide) (fun hc => ?_) (fun hc => ?_)
        · replace hf := x_ift hc hf
          refine x_iconst (v := (-1)) dX10_letter_39 (by decide) ?_
          exact x_iret dX10_letter_40 rfl (by cases hf; exact hR)
        · replace hf := x_iff hc hf
          refine x_aload_n dX10_letter_30 rfl ?_
          refine f_getI dX10_letter_31 xcl_10 (by decide) fl_RX10_264 (by decide) sh_87 rfl ?_
          refine x_bipush (v := 100) dX10_letter_34 (by decide) ?_
          refine x_icmp_ne 41 dX10_letter_36 (by decide) (fun hc => ?_) (fun hc => ?_)
          · replace hf := x_iff hc hf
            refine x_aload_n dX10_letter_41 rfl ?_
            refine f_getR (b := 113) dX10_letter_42 xcl_10 (by decide) fl_RX10_115 (by decide) sh_87 rfl ?_
            refine x_aload_n dX10_letter_45 rfl ?_
            refine f_getI dX10_letter_46 xcl_10 (by decide) fl_RX10_264 (by decide) sh_87 rfl ?_
            refine x_iload_n dX10_letter_49 rfl ?_
            have hg_3 := x_gd hf
            replace hf := hg_3.2
            refine f_iast dX10_letter_50 (by decide) sh_113 hg_3.1 ?_
            refine x_aload_n dX10_letter_51 rfl ?_
            refine f_getR (b := 114) dX10_letter_52 xcl_10 (by decide) fl_RX10_118 (by decide) sh_87 rfl ?_
            refine x_aload_n dX10_letter_55 rfl ?_
            refine f_getI dX10_letter_56 xcl_10 (by decide) fl_RX10_264 (by decide) sh_87 rfl ?_
            refine x_iload_n dX10_letter_59 rfl ?_
            have hg_4 := x_gd hf
            replace hf := hg_4.2
            refine f_iast dX10_letter_60 (by decide) sh_114 hg_4.1 ?_
            refine x_aload_n dX10_letter_61 rfl ?_
            refine f_getR (b := 115) dX10_letter_62 xcl_10 (by decide) fl_RX10_121 (by decide) sh_87 rfl ?_
            refine x_aload_n dX10_letter_65 rfl ?_
            refine f_getI dX10_letter_66 xcl_10 (by decide) fl_RX10_264 (by decide) sh_87 rfl ?_
            refine x_iload_n dX10_letter_69 rfl ?_
            have hg_5 := x_gd hf
            replace hf := hg_5.2
            refine f_iast dX10_letter_70 (by decide) sh_115 hg_5.1 ?_
            refine x_aload_n dX10_letter_71 rfl ?_
            refine x_dup dX10_letter_72 rfl ?_
            refine f_getI dX10_letter_73 xcl_10 (by decide) fl_RX10_264 (by decide) sh_87 rfl ?_
            refine x_iconst (v := 1) dX10_letter_76 (by decide) ?_
            refine x_iadd dX10_letter_77 ?_
            refine f_putI dX10_letter_78 xcl_10 (by decide) fl_RX10_264 rfl rfl (by decide) sh_87 rfl ?_
            refine x_aload_n dX10_letter_81 rfl ?_
            refine f_getI dX10_letter_82 xcl_10 (by decide) fl_RX10_264 (by decide) sh_87 rfl ?_
            refine x_iconst (v := 1) dX10_letter_85 (by decide) ?_
            refine x_isub dX10_letter_86 ?_
            exact x_iret dX10_letter_87 rfl (by cases hf; exact hR)
          · replace hf := x_ift hc hf
            refine x_iconst (v := (-1)) dX10_letter_39 (by decide) ?_
            exact x_iret dX10_letter_40 rfl (by cases hf; exact hR)
theorem c_X10_letter {E : xE} {d : Nat} (hd : 2 ≤ d) (x1 : Int32) (x2 : Int32) (x3 : Int32) (m : xMem) (out : Int32 × xMem) (h : F_X10_letter x1 x2 x3 m = some out) : xCi E mX10_letter d [.ref (xB E + 87), .int x1, .int x2, .int x3] m out.1 out.2 :=
  x_enter (by decide +kernel) (Nat.le_of_ble_eq_true rfl) (pF_X10_letter hd (Q := _) out ⟨rfl, rfl⟩ x1 x2 x3 m h)
-- X3_weightOf
def F_X3_weightOf (x1 : Int32) (m : xMem) : Option (Int32 × xMem) :=
  if xin x1 20 = true then (
  if xin x1 20 = true then (
  if xin x1 20 = true then (
  (F_X9_cut (((1000 : Int32) * ((m.1 ag_letters_rightOf x1.toNatClampNeg) + (1 : Int32))).toInt64) (((m.1 ag_letters_rightOf x1.toNatClampNeg) + (m.1 ag_letters_wrongOf x1.toNatClampNeg)) + (2 : Int32)) m).bind fun q_4 => (
  some (q_4.1, q_4.2)))
  else none)
  else none)
  else none
set_option maxHeartbeats 4000000 in
set_option maxRecDepth 100000 in
theorem pF_X3_weightOf {E : xE} {d : Nat} {Q : Option Value → xS → Prop} (hd : 2 ≤ d) (out : Int32 × xMem) (hR : Q (some (.int out.1)) (xf E out.2)) (x1 : Int32) (m : xMem) (hf : F_X3_weightOf x1 m = some out) : xX E mX3_weightOf d 0 0 0 0 Q 0 [(0, .ref (xB E + 10)), (1, .int (x1))] [] (xf E m) := by
  unfold F_X3_weightOf at hf
  refine x_sipush (v := 1000) dX3_weightOf_0 (by decide) ?_
  refine x_aload_n dX3_weightOf_3 rfl ?_
  refine f_getR (b := 15) dX3_weightOf_4 xcl_3 (by decide) fl_RX3_24 (by decide) sh_10 rfl ?_
  refine x_iload_n dX3_weightOf_7 rfl ?_
  have hg_1 := x_gd hf
  replace hf := hg_1.2
  refine f_iald dX3_weightOf_8 (by decide) sh_15 hg_1.1 ?_
  refine x_iconst (v := 1) dX3_weightOf_9 (by decide) ?_
  refine x_iadd dX3_weightOf_10 ?_
  refine x_imul dX3_weightOf_11 ?_
  refine x_i2l dX3_weightOf_12 ?_
  refine x_aload_n dX3_weightOf_13 rfl ?_
  refine f_getR (b := 15) dX3_weightOf_14 xcl_3 (by decide) fl_RX3_24 (by decide) sh_10 rfl ?_
  refine x_iload_n dX3_weightOf_17 rfl ?_
  have hg_2 := x_gd hf
  replace hf := hg_2.2
  refine f_iald dX3_weightOf_18 (by decide) sh_15 hg_2.1 ?_
  refine x_aload_n dX3_weightOf_19 rfl ?_
  refine f_getR (b := 16) dX3_weightOf_20 xcl_3 (by decide) fl_RX3_27 (by decide) sh_10 rfl ?_
  refine x_iload_n dX3_weightOf_23 rfl ?_
  have hg_3 := x_gd hf
  replace hf := hg_3.2
  refine f_iald dX3_weightOf_24 (by decide) sh_16 hg_3.1 ?_
  refine x_iadd dX3_weightOf_25 ?_
  refine x_iconst (v := 2) dX3_weightOf_26 (by decide) ?_
  refine x_iadd dX3_weightOf_27 ?_
  obtain ⟨q_4, hq_4, hf⟩ := Option.bind_eq_some_iff.mp hf
  refine f_cSi mX9_cut [.long (((1000 : Int32) * ((m.1 ag_letters_rightOf x1.toNatClampNeg) + (1 : Int32))).toInt64), .int (((m.1 ag_letters_rightOf x1.toNatClampNeg) + (m.1 ag_letters_wrongOf x1.toNatClampNeg)) + (2 : Int32))] [] dX3_weightOf_28 cs_RX3_45 w_457 rfl rfl (Nat.le_of_ble_eq_true rfl) (by omega) (c_X9_cut (d := d - 1) (by omega) (((1000 : Int32) * ((m.1 ag_letters_rightOf x1.toNatClampNeg) + (1 : Int32))).toInt64) (((m.1 ag_letters_rightOf x1.toNatClampNeg) + (m.1 ag_letters_wrongOf x1.toNatClampNeg)) + (2 : Int32)) m q_4 hq_4) ?_
  exact x_iret dX3_weightOf_31 rfl (by cases hf; exact hR)
theorem c_X3_weightOf {E : xE} {d : Nat} (hd : 2 ≤ d) (x1 : Int32) (m : xMem) (out : Int32 × xMem) (h : F_X3_weightOf x1 m = some out) : xCi E mX3_weightOf d [.ref (xB E + 10), .int x1] m out.1 out.2 :=
  x_enter (by decide +kernel) (Nat.le_of_ble_eq_true rfl) (pF_X3_weightOf hd (Q := _) out ⟨rfl, rfl⟩ x1 m h)
-- X9_weight
def F_X9_weight (x1 : Int32) (m : xMem) : Option (Int32 × xMem) :=
  (F_X9_isReader (x1) m).bind fun q_1 => (
  if q_1.1 = 0 then (
    some ((-1 : Int32), q_1.2))
  else (
    (F_X3_weightOf (x1) q_1.2).bind fun q_2 => (
    some (q_2.1, q_2.2))))
set_option maxHeartbeats 4000000 in
set_option maxRecDepth 100000 in
theorem pF_X9_weight {E : xE} {d : Nat} {Q : Option Value → xS → Prop} (hd : 3 ≤ d) (out : Int32 × xMem) (hR : Q (some (.int out.1)) (xf E out.2)) (x1 : Int32) (m : xMem) (hf : F_X9_weight x1 m = some out) : xX E mX9_weight d 0 0 0 0 Q 0 [(0, .ref (xB E + 0)), (1, .int (x1))] [] (xf E m) := by
  unfold F_X9_weight at hf
  refine x_iload_n dX9_weight_0 rfl ?_
  obtain ⟨q_1, hq_1, hf⟩ := Option.bind_eq_some_iff.mp hf
  refine f_cSi mX9_isReader [.int (x1)] [] dX9_weight_1 cs_RX9_139 w_511 rfl rfl (Nat.le_of_ble_eq_true rfl) (by omega) (c_X9_isReader (d := d - 1) (by omega) (x1) m q_1 hq_1) ?_
  refine x_if_eq 18 dX9_weight_4 (by decide) (fun hc => ?_) (fun hc => ?_)
  · replace hf := x_ift hc hf
    refine x_iconst (v := (-1)) dX9_weight_18 (by decide) ?_
    exact x_iret dX9_weight_19 rfl (by cases hf; exact hR)
  · replace hf := x_iff hc hf
    refine x_aload_n dX9_weight_7 rfl ?_
    refine f_getR (b := 10) dX9_weight_8 xcl_9 (by decide) fl_RX9_19 (by decide) sh_0 rfl ?_
    refine x_iload_n dX9_weight_11 rfl ?_
    obtain ⟨q_2, hq_2, hf⟩ := Option.bind_eq_some_iff.mp hf
    refine f_cVi mX3_weightOf [.int (x1)] [] dX9_weight_12 cs_RX9_144 ⟨w_523, w_17⟩ (ci := 3) rfl (by decide) sh_10 rfl rfl (Nat.le_of_ble_eq_true rfl) (by omega) (c_X3_weightOf (d := d - 1) (by omega) (x1) q_1.2 q_2 hq_2) ?_
    refine x_goto 19 dX9_weight_15 (by decide) ?_
    exact x_iret dX9_weight_19 rfl (by cases hf; exact hR)
theorem c_X9_weight {E : xE} {d : Nat} (hd : 3 ≤ d) (x1 : Int32) (m : xMem) (out : Int32 × xMem) (h : F_X9_weight x1 m = some out) : xCi E mX9_weight d [.ref (xB E + 0), .int x1] m out.1 out.2 :=
  x_enter (by decide +kernel) (Nat.le_of_ble_eq_true rfl) (pF_X9_weight hd (Q := _) out ⟨rfl, rfl⟩ x1 m h)
-- X10_weightOf
def J_X10_weightOf_73 (rec : Int32 → Int32 → Int32 → xMem → Option (Int32 × xMem)) (c81 : Int32 → Int32 → xMem → Option (Int32 × xMem)) (x1 : Int32) (x2 : Int32) (x4 : Int32) (s0 : Int32) (s1 : Int32) (m : xMem) : Option (Int32 × xMem) :=
  rec (x2) (s0 + s1) (x4 + 1) m
def J_X10_weightOf_72 (rec : Int32 → Int32 → Int32 → xMem → Option (Int32 × xMem)) (c81 : Int32 → Int32 → xMem → Option (Int32 × xMem)) (x1 : Int32) (x2 : Int32) (x4 : Int32) (s0 : Int32) (m : xMem) : Option (Int32 × xMem) :=
  J_X10_weightOf_73 rec c81 (x1) (x2) (x4) (s0) ((0 : Int32)) m
def J_X10_weightOf_44 (rec : Int32 → Int32 → Int32 → xMem → Option (Int32 × xMem)) (c81 : Int32 → Int32 → xMem → Option (Int32 × xMem)) (x1 : Int32) (x3 : Int32) (x4 : Int32) (s0 : Int32) (s1 : Int32) (m : xMem) : Option (Int32 × xMem) :=
  if xin x4 100 = true then (
  if (m.1 am_readers x4.toNatClampNeg) = x1 then (
    if xin x4 100 = true then (
    if (m.1 am_proofs x4.toNatClampNeg) ≤ 0 then (
      J_X10_weightOf_72 rec c81 (x1) (s0 + s1) (x4) (x3) m)
    else (
      J_X10_weightOf_73 rec c81 (x1) (s0 + s1) (x4) (x3) ((1 : Int32)) m))
    else none)
  else (
    J_X10_weightOf_72 rec c81 (x1) (s0 + s1) (x4) (x3) m))
  else none
def J_X10_weightOf_43 (rec : Int32 → Int32 → Int32 → xMem → Option (Int32 × xMem)) (c81 : Int32 → Int32 → xMem → Option (Int32 × xMem)) (x1 : Int32) (x3 : Int32) (x4 : Int32) (s0 : Int32) (m : xMem) : Option (Int32 × xMem) :=
  J_X10_weightOf_44 rec c81 (x1) (x3) (x4) (s0) ((0 : Int32)) m
def L_X10_weightOf_7 (x1 : Int32) (c81 : Int32 → Int32 → xMem → Option (Int32 × xMem)) : Nat → Int32 → Int32 → Int32 → xMem → Option (Int32 × xMem)
  | 0, _, _, _, _ => none
  | fk + 1, x2, x3, x4, m =>
    if (m.1 am fGuideBookModel_letters) ≤ x4 then (
      c81 (x2) (x3) m)
    else (
      if xin x4 100 = true then (
      if (m.1 am_readers x4.toNatClampNeg) = x1 then (
        if xin x4 100 = true then (
        if (m.1 am_proofs x4.toNatClampNeg) = (1 : Int32) then (
          J_X10_weightOf_44 (fun y_25 y_26 y_27 m_28 => L_X10_weightOf_7 x1 c81 fk y_25 y_26 y_27 m_28) c81 (x1) (x3) (x4) (x2) ((1 : Int32)) m)
        else (
          J_X10_weightOf_43 (fun y_29 y_30 y_31 m_32 => L_X10_weightOf_7 x1 c81 fk y_29 y_30 y_31 m_32) c81 (x1) (x3) (x4) (x2) m))
        else none)
      else (
        J_X10_weightOf_43 (fun y_33 y_34 y_35 m_36 => L_X10_weightOf_7 x1 c81 fk y_33 y_34 y_35 m_36) c81 (x1) (x3) (x4) (x2) m))
      else none)
def F_X10_weightOf (x1 : Int32) (m : xMem) : Option (Int32 × xMem) :=
  L_X10_weightOf_7 (x1) (fun x2_37 x3_38 m_39 => (
    if (x3_38 + (2 : Int32)) = 0 then none else (
    some (((1000 : Int32) * (x2_37 + (1 : Int32))) / (x3_38 + (2 : Int32)), m_39)))) xfuel ((0 : Int32)) ((0 : Int32)) ((0 : Int32)) m
set_option maxHeartbeats 4000000 in
set_option maxRecDepth 100000 in
theorem pJ_X10_weightOf_73 {E : xE} {d : Nat} {Q : Option Value → xS → Prop} (hd : 1 ≤ d) (out : Int32 × xMem) (hR : Q (some (.int out.1)) (xf E out.2)) (rec : Int32 → Int32 → Int32 → xMem → Option (Int32 × xMem)) (c81 : Int32 → Int32 → xMem → Option (Int32 × xMem)) (x1 : Int32) (x2 : Int32) (x4 : Int32) (s0 : Int32) (s1 : Int32) (hrec : ∀ (x2 : Int32) (x3 : Int32) (x4 : Int32) (m : xMem), rec x2 x3 x4 m = some out → xX E mX10_weightOf d 0 0 0 0 Q 7 [(0, .ref (xB E + 87)), (1, .int (x1)), (2, .int (x2)), (3, .int (x3)), (4, .int (x4))] [] (xf E m)) (hc81 : ∀ (x2 : Int32) (x3 : Int32) (m : xMem), c81 x2 x3 m = some out → xX E mX10_weightOf d 0 0 0 0 Q 81 [(2, .int (x2)), (3, .int (x3))] [] (xf E m)) (m : xMem) (hf : J_X10_weightOf_73 rec c81 x1 x2 x4 s0 s1 m = some out) : xX E mX10_weightOf d 0 0 0 0 Q 73 [(0, .ref (xB E + 87)), (1, .int (x1)), (2, .int (x2)), (4, .int (x4))] [.int (s1), .int (s0)] (xf E m) := by
  unfold J_X10_weightOf_73 at hf
  refine x_iadd dX10_weightOf_73 ?_
  refine x_istore_n (lv' := [(0, .ref (xB E + 87)), (1, .int (x1)), (2, .int (x2)), (3, .int (s0 + s1)), (4, .int (x4))]) dX10_weightOf_74 [1, 2, 3, 0, 4] (by decide) rfl ?_
  refine x_iinc (v := x4 + 1) (lv' := [(0, .ref (xB E + 87)), (1, .int (x1)), (2, .int (x2)), (3, .int (s0 + s1)), (4, .int (x4 + 1))]) dX10_weightOf_75 4 [1, 2, 3, 4, 0] rfl rfl (by decide) rfl ?_
  refine x_goto 7 dX10_weightOf_78 (by decide) ?_
  exact hrec _ _ _ _ hf
set_option maxHeartbeats 4000000 in
set_option maxRecDepth 100000 in
theorem pJ_X10_weightOf_72 {E : xE} {d : Nat} {Q : Option Value → xS → Prop} (hd : 1 ≤ d) (out : Int32 × xMem) (hR : Q (some (.int out.1)) (xf E out.2)) (rec : Int32 → Int32 → Int32 → xMem → Option (Int32 × xMem)) (c81 : Int32 → Int32 → xMem → Option (Int32 × xMem)) (x1 : Int32) (x2 : Int32) (x4 : Int32) (s0 : Int32) (hrec : ∀ (x2 : Int32) (x3 : Int32) (x4 : Int32) (m : xMem), rec x2 x3 x4 m = some out → xX E mX10_weightOf d 0 0 0 0 Q 7 [(0, .ref (xB E + 87)), (1, .int (x1)), (2, .int (x2)), (3, .int (x3)), (4, .int (x4))] [] (xf E m)) (hc81 : ∀ (x2 : Int32) (x3 : Int32) (m : xMem), c81 x2 x3 m = some out → xX E mX10_weightOf d 0 0 0 0 Q 81 [(2, .int (x2)), (3, .int (x3))] [] (xf E m)) (m : xMem) (hf : J_X10_weightOf_72 rec c81 x1 x2 x4 s0 m = some out) : xX E mX10_weightOf d 0 0 0 0 Q 72 [(0, .ref (xB E + 87)), (1, .int (x1)), (2, .int (x2)), (4, .int (x4))] [.int (s0)] (xf E m) := by
  unfold J_X10_weightOf_72 at hf
  refine x_iconst (v := 0) dX10_weightOf_72 (by decide) ?_
  exact pJ_X10_weightOf_73 hd out hR _ _ _ _ _ _ _ hrec hc81 _ hf
set_option maxHeartbeats 4000000 in
set_option maxRecDepth 100000 in
theorem pJ_X10_weightOf_44 {E : xE} {d : Nat} {Q : Option Value → xS → Prop} (hd : 1 ≤ d) (out : Int32 × xMem) (hR : Q (some (.int out.1)) (xf E out.2)) (rec : Int32 → Int32 → Int32 → xMem → Option (Int32 × xMem)) (c81 : Int32 → Int32 → xMem → Option (Int32 × xMem)) (x1 : Int32) (x3 : Int32) (x4 : Int32) (s0 : Int32) (s1 : Int32) (hrec : ∀ (x2 : Int32) (x3 : Int32) (x4 : Int32) (m : xMem), rec x2 x3 x4 m = some out → xX E mX10_weightOf d 0 0 0 0 Q 7 [(0, .ref (xB E + 87)), (1, .int (x1)), (2, .int (x2)), (3, .int (x3)), (4, .int (x4))] [] (xf E m)) (hc81 : ∀ (x2 : Int32) (x3 : Int32) (m : xMem), c81 x2 x3 m = some out → xX E mX10_weightOf d 0 0 0 0 Q 81 [(2, .int (x2)), (3, .int (x3))] [] (xf E m)) (m : xMem) (hf : J_X10_weightOf_44 rec c81 x1 x3 x4 s0 s1 m = some out) : xX E mX10_weightOf d 0 0 0 0 Q 44 [(0, .ref (xB E + 87)), (1, .int (x1)), (3, .int (x3)), (4, .int (x4))] [.int (s1), .int (s0)] (xf E m) := by
  unfold J_X10_weightOf_44 at hf
  refine x_iadd dX10_weightOf_44 ?_
  refine x_istore_n (lv' := [(0, .ref (xB E + 87)), (1, .int (x1)), (2, .int (s0 + s1)), (3, .int (x3)), (4, .int (x4))]) dX10_weightOf_45 [1, 2, 0, 3, 4] (by decide) rfl ?_
  refine x_iload_n dX10_weightOf_46 rfl ?_
  refine x_aload_n dX10_weightOf_47 rfl ?_
  refine f_getR (b := 113) dX10_weightOf_48 xcl_10 (by decide) fl_RX10_115 (by decide) sh_87 rfl ?_
  refine x_iload dX10_weightOf_51 rfl ?_
  have hg_2 := x_gd hf
  replace hf := hg_2.2
  refine f_iald dX10_weightOf_53 (by decide) sh_113 hg_2.1 ?_
  refine x_iload_n dX10_weightOf_54 rfl ?_
  refine x_icmp_ne 72 dX10_weightOf_55 (by decide) (fun hc => ?_) (fun hc => ?_)
  · replace hf := x_iff hc hf
    refine x_lv (lv' := [(0, .ref (xB E + 87)), (1, .int (x1)), (2, .int (s0 + s1)), (4, .int (x4))]) [0, 1, 2, 4] rfl ?_
    exact pJ_X10_weightOf_72 hd out hR _ _ _ _ _ _ hrec hc81 _ hf
  · replace hf := x_ift hc hf
    refine x_aload_n dX10_weightOf_58 rfl ?_
    refine f_getR (b := 116) dX10_weightOf_59 xcl_10 (by decide) fl_RX10_124 (by decide) sh_87 rfl ?_
    refine x_iload dX10_weightOf_62 rfl ?_
    have hg_7 := x_gd hf
    replace hf := hg_7.2
    refine f_iald dX10_weightOf_64 (by decide) sh_116 hg_7.1 ?_
    refine x_if_le 72 dX10_weightOf_65 (by decide) (fun hc => ?_) (fun hc => ?_)
    · replace hf := x_ift hc hf
      refine x_lv (lv' := [(0, .ref (xB E + 87)), (1, .int (x1)), (2, .int (s0 + s1)), (4, .int (x4))]) [0, 1, 2, 4] rfl ?_
      exact pJ_X10_weightOf_72 hd out hR _ _ _ _ _ _ hrec hc81 _ hf
    · replace hf := x_iff hc hf
      refine x_iconst (v := 1) dX10_weightOf_68 (by decide) ?_
      refine x_goto 73 dX10_weightOf_69 (by decide) ?_
      refine x_lv (lv' := [(0, .ref (xB E + 87)), (1, .int (x1)), (2, .int (s0 + s1)), (4, .int (x4))]) [0, 1, 2, 4] rfl ?_
      exact pJ_X10_weightOf_73 hd out hR _ _ _ _ _ _ _ hrec hc81 _ hf
set_option maxHeartbeats 4000000 in
set_option maxRecDepth 100000 in
theorem pJ_X10_weightOf_43 {E : xE} {d : Nat} {Q : Option Value → xS → Prop} (hd : 1 ≤ d) (out : Int32 × xMem) (hR : Q (some (.int out.1)) (xf E out.2)) (rec : Int32 → Int32 → Int32 → xMem → Option (Int32 × xMem)) (c81 : Int32 → Int32 → xMem → Option (Int32 × xMem)) (x1 : Int32) (x3 : Int32) (x4 : Int32) (s0 : Int32) (hrec : ∀ (x2 : Int32) (x3 : Int32) (x4 : Int32) (m : xMem), rec x2 x3 x4 m = some out → xX E mX10_weightOf d 0 0 0 0 Q 7 [(0, .ref (xB E + 87)), (1, .int (x1)), (2, .int (x2)), (3, .int (x3)), (4, .int (x4))] [] (xf E m)) (hc81 : ∀ (x2 : Int32) (x3 : Int32) (m : xMem), c81 x2 x3 m = some out → xX E mX10_weightOf d 0 0 0 0 Q 81 [(2, .int (x2)), (3, .int (x3))] [] (xf E m)) (m : xMem) (hf : J_X10_weightOf_43 rec c81 x1 x3 x4 s0 m = some out) : xX E mX10_weightOf d 0 0 0 0 Q 43 [(0, .ref (xB E + 87)), (1, .int (x1)), (3, .int (x3)), (4, .int (x4))] [.int (s0)] (xf E m) := by
  unfold J_X10_weightOf_43 at hf
  refine x_iconst (v := 0) dX10_weightOf_43 (by decide) ?_
  exact pJ_X10_weightOf_44 hd out hR _ _ _ _ _ _ _ hrec hc81 _ hf
set_option maxHeartbeats 4000000 in
set_option maxRecDepth 100000 in
theorem pL_X10_weightOf_7 {E : xE} {d : Nat} {Q : Option Value → xS → Prop} (hd : 1 ≤ d) (out : Int32 × xMem) (hR : Q (some (.int out.1)) (xf E out.2)) (x1 : Int32) (c81 : Int32 → Int32 → xMem → Option (Int32 × xMem)) (hc81 : ∀ (x2 : Int32) (x3 : Int32) (m : xMem), c81 x2 x3 m = some out → xX E mX10_weightOf d 0 0 0 0 Q 81 [(2, .int (x2)), (3, .int (x3))] [] (xf E m)) : ∀ (fk : Nat) (x2 : Int32) (x3 : Int32) (x4 : Int32) (m : xMem), L_X10_weightOf_7 x1 c81 fk x2 x3 x4 m = some out → xX E mX10_weightOf d 0 0 0 0 Q 7 [(0, .ref (xB E + 87)), (1, .int (x1)), (2, .int (x2)), (3, .int (x3)), (4, .int (x4))] [] (xf E m) := by
  intro fk
  induction fk with
  | zero => intro x2 x3 x4 m hf; cases hf
  | succ fk ih =>
    intro x2 x3 x4 m hf
    rw [L_X10_weightOf_7] at hf
    refine x_iload dX10_weightOf_7 rfl ?_
    refine x_aload_n dX10_weightOf_9 rfl ?_
    refine f_getI dX10_weightOf_10 xcl_10 (by decide) fl_RX10_264 (by decide) sh_87 rfl ?_
    refine x_icmp_ge 81 dX10_weightOf_13 (by decide) (fun hc => ?_) (fun hc => ?_)
    · replace hf := x_ift hc hf
      refine x_lv (lv' := [(2, .int (x2)), (3, .int (x3))]) [2, 3] rfl ?_
      exact hc81 _ _ _ hf
    · replace hf := x_iff hc hf
      refine x_iload_n dX10_weightOf_16 rfl ?_
      refine x_aload_n dX10_weightOf_17 rfl ?_
      refine f_getR (b := 113) dX10_weightOf_18 xcl_10 (by decide) fl_RX10_115 (by decide) sh_87 rfl ?_
      refine x_iload dX10_weightOf_21 rfl ?_
      have hg_1 := x_gd hf
      replace hf := hg_1.2
      refine f_iald dX10_weightOf_23 (by decide) sh_113 hg_1.1 ?_
      refine x_iload_n dX10_weightOf_24 rfl ?_
      refine x_icmp_ne 43 dX10_weightOf_25 (by decide) (fun hc => ?_) (fun hc => ?_)
      · replace hf := x_iff hc hf
        refine x_lv (lv' := [(0, .ref (xB E + 87)), (1, .int (x1)), (3, .int (x3)), (4, .int (x4))]) [0, 1, 3, 4] rfl ?_
        exact pJ_X10_weightOf_43 hd out hR _ _ _ _ _ _ (fun y0 y1 y2 m9 h9 => ih y0 y1 y2 m9 h9) hc81 _ hf
      · replace hf := x_ift hc hf
        refine x_aload_n dX10_weightOf_28 rfl ?_
        refine f_getR (b := 116) dX10_weightOf_29 xcl_10 (by decide) fl_RX10_124 (by decide) sh_87 rfl ?_
        refine x_iload dX10_weightOf_32 rfl ?_
        have hg_24 := x_gd hf
        replace hf := hg_24.2
        refine f_iald dX10_weightOf_34 (by decide) sh_116 hg_24.1 ?_
        refine x_iconst (v := 1) dX10_weightOf_35 (by decide) ?_
        refine x_icmp_ne 43 dX10_weightOf_36 (by decide) (fun hc => ?_) (fun hc => ?_)
        · replace hf := x_iff hc hf
          refine x_lv (lv' := [(0, .ref (xB E + 87)), (1, .int (x1)), (3, .int (x3)), (4, .int (x4))]) [0, 1, 3, 4] rfl ?_
          exact pJ_X10_weightOf_43 hd out hR _ _ _ _ _ _ (fun y0 y1 y2 m9 h9 => ih y0 y1 y2 m9 h9) hc81 _ hf
        · replace hf := x_ift hc hf
          refine x_iconst (v := 1) dX10_weightOf_39 (by decide) ?_
          refine x_goto 44 dX10_weightOf_40 (by decide) ?_
          refine x_lv (lv' := [(0, .ref (xB E + 87)), (1, .int (x1)), (3, .int (x3)), (4, .int (x4))]) [0, 1, 3, 4] rfl ?_
          exact pJ_X10_weightOf_44 hd out hR _ _ _ _ _ _ _ (fun y0 y1 y2 m9 h9 => ih y0 y1 y2 m9 h9) hc81 _ hf
set_option maxHeartbeats 4000000 in
set_option maxRecDepth 100000 in
theorem pF_X10_weightOf {E : xE} {d : Nat} {Q : Option Value → xS → Prop} (hd : 1 ≤ d) (out : Int32 × xMem) (hR : Q (some (.int out.1)) (xf E out.2)) (x1 : Int32) (m : xMem) (hf : F_X10_weightOf x1 m = some out) : xX E mX10_weightOf d 0 0 0 0 Q 0 [(0, .ref (xB E + 87)), (1, .int (x1))] [] (xf E m) := by
  unfold F_X10_weightOf at hf
  refine x_iconst (v := 0) dX10_weightOf_0 (by decide) ?_
  refine x_istore_n (lv' := [(0, .ref (xB E + 87)), (1, .int (x1)), (2, .int ((0 : Int32)))]) dX10_weightOf_1 [1, 2, 0] (by decide) rfl ?_
  refine x_iconst (v := 0) dX10_weightOf_2 (by decide) ?_
  refine x_istore_n (lv' := [(0, .ref (xB E + 87)), (1, .int (x1)), (2, .int ((0 : Int32))), (3, .int ((0 : Int32)))]) dX10_weightOf_3 [1, 2, 3, 0] (by decide) rfl ?_
  refine x_iconst (v := 0) dX10_weightOf_4 (by decide) ?_
  refine x_istore (lv' := [(0, .ref (xB E + 87)), (1, .int (x1)), (2, .int ((0 : Int32))), (3, .int ((0 : Int32))), (4, .int ((0 : Int32)))]) dX10_weightOf_5 [1, 2, 3, 4, 0] (by decide) rfl ?_
  refine pL_X10_weightOf_7 hd out hR _ _ (fun x2_37 x3_38 m_39 hf => ?_) xfuel _ _ _ _ hf
  refine x_sipush (v := 1000) dX10_weightOf_81 (by decide) ?_
  refine x_iload_n dX10_weightOf_84 rfl ?_
  refine x_iconst (v := 1) dX10_weightOf_85 (by decide) ?_
  refine x_iadd dX10_weightOf_86 ?_
  refine x_imul dX10_weightOf_87 ?_
  refine x_iload_n dX10_weightOf_88 rfl ?_
  refine x_iconst (v := 2) dX10_weightOf_89 (by decide) ?_
  refine x_iadd dX10_weightOf_90 ?_
  have hg_40 := x_gp hf
  replace hf := hg_40.2
  refine x_idiv dX10_weightOf_91 hg_40.1 ?_
  exact x_iret dX10_weightOf_92 rfl (by cases hf; exact hR)
theorem c_X10_weightOf {E : xE} {d : Nat} (hd : 1 ≤ d) (x1 : Int32) (m : xMem) (out : Int32 × xMem) (h : F_X10_weightOf x1 m = some out) : xCi E mX10_weightOf d [.ref (xB E + 87), .int x1] m out.1 out.2 :=
  x_enter (by decide +kernel) (Nat.le_of_ble_eq_true rfl) (pF_X10_weightOf hd (Q := _) out ⟨rfl, rfl⟩ x1 m h)
-- X10_weight
def J_X10_weight_15 (m : xMem) : Option (Int32 × xMem) :=
  some ((-1 : Int32), m)
def F_X10_weight (x1 : Int32) (m : xMem) : Option (Int32 × xMem) :=
  if x1 < 0 then (
    J_X10_weight_15 (xst m.1 am fGuideBookModel_thrown (0 : Int32), m.2))
  else (
    if x1 ≤ (19 : Int32) then (
      (F_X10_weightOf (x1) (xst m.1 am fGuideBookModel_thrown (0 : Int32), m.2)).bind fun q_1 => (
      some (q_1.1, q_1.2)))
    else (
      J_X10_weight_15 (xst m.1 am fGuideBookModel_thrown (0 : Int32), m.2)))
set_option maxHeartbeats 4000000 in
set_option maxRecDepth 100000 in
theorem pJ_X10_weight_15 {E : xE} {d : Nat} {Q : Option Value → xS → Prop} (hd : 2 ≤ d) (out : Int32 × xMem) (hR : Q (some (.int out.1)) (xf E out.2)) (m : xMem) (hf : J_X10_weight_15 m = some out) : xX E mX10_weight d 0 0 0 0 Q 15 [] [] (xf E m) := by
  unfold J_X10_weight_15 at hf
  refine x_iconst (v := (-1)) dX10_weight_15 (by decide) ?_
  refine x_goto 24 dX10_weight_16 (by decide) ?_
  exact x_iret dX10_weight_24 rfl (by cases hf; exact hR)
set_option maxHeartbeats 4000000 in
set_option maxRecDepth 100000 in
theorem pF_X10_weight {E : xE} {d : Nat} {Q : Option Value → xS → Prop} (hd : 2 ≤ d) (out : Int32 × xMem) (hR : Q (some (.int out.1)) (xf E out.2)) (x1 : Int32) (m : xMem) (hf : F_X10_weight x1 m = some out) : xX E mX10_weight d 0 0 0 0 Q 0 [(0, .ref (xB E + 87)), (1, .int (x1))] [] (xf E m) := by
  unfold F_X10_weight at hf
  refine x_aload_n dX10_weight_0 rfl ?_
  refine x_iconst (v := 0) dX10_weight_1 (by decide) ?_
  refine f_putI dX10_weight_2 xcl_10 (by decide) fl_RX10_1 rfl rfl (by decide) sh_87 rfl ?_
  refine x_iload_n dX10_weight_5 rfl ?_
  refine x_if_lt 15 dX10_weight_6 (by decide) (fun hc => ?_) (fun hc => ?_)
  · replace hf := x_ift hc hf
    refine x_lv (lv' := []) [] rfl ?_
    exact pJ_X10_weight_15 hd out hR _ hf
  · replace hf := x_iff hc hf
    refine x_iload_n dX10_weight_9 rfl ?_
    refine x_bipush (v := 19) dX10_weight_10 (by decide) ?_
    refine x_icmp_le 19 dX10_weight_12 (by decide) (fun hc => ?_) (fun hc => ?_)
    · replace hf := x_ift hc hf
      refine x_aload_n dX10_weight_19 rfl ?_
      refine x_iload_n dX10_weight_20 rfl ?_
      obtain ⟨q_1, hq_1, hf⟩ := Option.bind_eq_some_iff.mp hf
      refine f_cVi mX10_weightOf [.int (x1)] [] dX10_weight_21 cs_RX10_280 ⟨w_1242, w_77⟩ (ci := 10) rfl (by decide) sh_87 rfl rfl (Nat.le_of_ble_eq_true rfl) (by omega) (c_X10_weightOf (d := d - 1) (by omega) (x1) (xst m.1 am fGuideBookModel_thrown (0 : Int32), m.2) q_1 hq_1) ?_
      exact x_iret dX10_weight_24 rfl (by cases hf; exact hR)
    · replace hf := x_iff hc hf
      refine x_lv (lv' := []) [] rfl ?_
      exact pJ_X10_weight_15 hd out hR _ hf
theorem c_X10_weight {E : xE} {d : Nat} (hd : 2 ≤ d) (x1 : Int32) (m : xMem) (out : Int32 × xMem) (h : F_X10_weight x1 m = some out) : xCi E mX10_weight d [.ref (xB E + 87), .int x1] m out.1 out.2 :=
  x_enter (by decide +kernel) (Nat.le_of_ble_eq_true rfl) (pF_X10_weight hd (Q := _) out ⟨rfl, rfl⟩ x1 m h)
-- X3_weightFor
def J_X3_weightFor_89 (rec : Int32 → Int32 → Int32 → xMem → Option (Int32 × xMem)) (x1 : Int32) (x2 : Int32) (x3 : Int32) (x4 : Int32) (x5 : Int32) (m : xMem) : Option (Int32 × xMem) :=
  rec (x3) (x4) (x5 + 1) m
def J_X3_weightFor_54 (rec : Int32 → Int32 → Int32 → xMem → Option (Int32 × xMem)) (x1 : Int32) (x2 : Int32) (x3 : Int32) (x4 : Int32) (x5 : Int32) (x6 : Int32) (s0 : Int32) (m : xMem) : Option (Int32 × xMem) :=
  if s0 = 0 then (
    J_X3_weightFor_89 rec (x1) (x2) (x3) (x4) (x5) m)
  else (
    if (x3 &&& x6) = 0 then (
      if xin x5 100 = true then (
      (F_X3_weightOf (m.1 ag_letters_reader x5.toNatClampNeg) m).bind fun q_4 => (
      J_X3_weightFor_89 rec (x1) (x2) (x3 ||| x6) (x4 + q_4.1) (x5) q_4.2))
      else none)
    else (
      J_X3_weightFor_89 rec (x1) (x2) (x3) (x4) (x5) m))
def J_X3_weightFor_53 (rec : Int32 → Int32 → Int32 → xMem → Option (Int32 × xMem)) (x1 : Int32) (x2 : Int32) (x3 : Int32) (x4 : Int32) (x5 : Int32) (x6 : Int32) (m : xMem) : Option (Int32 × xMem) :=
  J_X3_weightFor_54 rec (x1) (x2) (x3) (x4) (x5) (x6) ((0 : Int32)) m
def L_X3_weightFor_8 (x1 : Int32) (x2 : Int32) : Nat → Int32 → Int32 → Int32 → xMem → Option (Int32 × xMem)
  | 0, _, _, _, _ => none
  | fk + 1, x3, x4, x5, m =>
    if (m.1 ag_letters fLetters_size) ≤ x5 then (
      some (x4, m))
    else (
      if xin x5 100 = true then (
      (F_X3_isOpenOn (x5) (x1) m).bind fun q_2 => (
      if q_2.1 = 0 then (
        J_X3_weightFor_53 (fun y_22 y_23 y_24 m_25 => L_X3_weightFor_8 x1 x2 fk y_22 y_23 y_24 m_25) (x1) (x2) (x3) (x4) (x5) ((1 : Int32) <<< ((m.1 ag_letters_reader x5.toNatClampNeg) &&& 31)) q_2.2)
      else (
        if xin x5 100 = true then (
        if (q_2.2.1 ag_letters_said x5.toNatClampNeg) = x2 then (
          J_X3_weightFor_54 (fun y_26 y_27 y_28 m_29 => L_X3_weightFor_8 x1 x2 fk y_26 y_27 y_28 m_29) (x1) (x2) (x3) (x4) (x5) ((1 : Int32) <<< ((m.1 ag_letters_reader x5.toNatClampNeg) &&& 31)) ((1 : Int32)) q_2.2)
        else (
          J_X3_weightFor_53 (fun y_30 y_31 y_32 m_33 => L_X3_weightFor_8 x1 x2 fk y_30 y_31 y_32 m_33) (x1) (x2) (x3) (x4) (x5) ((1 : Int32) <<< ((m.1 ag_letters_reader x5.toNatClampNeg) &&& 31)) q_2.2))
        else none)))
      else none)
def F_X3_weightFor (x1 : Int32) (x2 : Int32) (m : xMem) : Option (Int32 × xMem) :=
  L_X3_weightFor_8 (x1) (x2) xfuel ((0 : Int32)) ((0 : Int32)) ((0 : Int32)) m
set_option maxHeartbeats 4000000 in
set_option maxRecDepth 100000 in
theorem pJ_X3_weightFor_89 {E : xE} {d : Nat} {Q : Option Value → xS → Prop} (hd : 3 ≤ d) (out : Int32 × xMem) (hR : Q (some (.int out.1)) (xf E out.2)) (rec : Int32 → Int32 → Int32 → xMem → Option (Int32 × xMem)) (x1 : Int32) (x2 : Int32) (x3 : Int32) (x4 : Int32) (x5 : Int32) (hrec : ∀ (x3 : Int32) (x4 : Int32) (x5 : Int32) (m : xMem), rec x3 x4 x5 m = some out → xX E mX3_weightFor d 0 0 0 0 Q 8 [(0, .ref (xB E + 10)), (1, .int (x1)), (2, .int (x2)), (3, .int (x3)), (4, .int (x4)), (5, .int (x5))] [] (xf E m)) (m : xMem) (hf : J_X3_weightFor_89 rec x1 x2 x3 x4 x5 m = some out) : xX E mX3_weightFor d 0 0 0 0 Q 89 [(0, .ref (xB E + 10)), (1, .int (x1)), (2, .int (x2)), (3, .int (x3)), (4, .int (x4)), (5, .int (x5))] [] (xf E m) := by
  unfold J_X3_weightFor_89 at hf
  refine x_iinc (v := x5 + 1) (lv' := [(0, .ref (xB E + 10)), (1, .int (x1)), (2, .int (x2)), (3, .int (x3)), (4, .int (x4)), (5, .int (x5 + 1))]) dX3_weightFor_89 5 [1, 2, 3, 4, 5, 0] rfl rfl (by decide) rfl ?_
  refine x_goto 8 dX3_weightFor_92 (by decide) ?_
  exact hrec _ _ _ _ hf
set_option maxHeartbeats 4000000 in
set_option maxRecDepth 100000 in
theorem pJ_X3_weightFor_54 {E : xE} {d : Nat} {Q : Option Value → xS → Prop} (hd : 3 ≤ d) (out : Int32 × xMem) (hR : Q (some (.int out.1)) (xf E out.2)) (rec : Int32 → Int32 → Int32 → xMem → Option (Int32 × xMem)) (x1 : Int32) (x2 : Int32) (x3 : Int32) (x4 : Int32) (x5 : Int32) (x6 : Int32) (s0 : Int32) (hrec : ∀ (x3 : Int32) (x4 : Int32) (x5 : Int32) (m : xMem), rec x3 x4 x5 m = some out → xX E mX3_weightFor d 0 0 0 0 Q 8 [(0, .ref (xB E + 10)), (1, .int (x1)), (2, .int (x2)), (3, .int (x3)), (4, .int (x4)), (5, .int (x5))] [] (xf E m)) (m : xMem) (hf : J_X3_weightFor_54 rec x1 x2 x3 x4 x5 x6 s0 m = some out) : xX E mX3_weightFor d 0 0 0 0 Q 54 [(0, .ref (xB E + 10)), (1, .int (x1)), (2, .int (x2)), (3, .int (x3)), (4, .int (x4)), (5, .int (x5)), (6, .int (x6))] [.int (s0)] (xf E m) := by
  unfold J_X3_weightFor_54 at hf
  refine x_istore (lv' := [(0, .ref (xB E + 10)), (1, .int (x1)), (2, .int (x2)), (3, .int (x3)), (4, .int (x4)), (5, .int (x5)), (6, .int (x6)), (7, .int (s0))]) dX3_weightFor_54 [1, 2, 3, 4, 5, 6, 7, 0] (by decide) rfl ?_
  refine x_iload dX3_weightFor_56 rfl ?_
  refine x_if_eq 89 dX3_weightFor_58 (by decide) (fun hc => ?_) (fun hc => ?_)
  · replace hf := x_ift hc hf
    refine x_lv (lv' := [(0, .ref (xB E + 10)), (1, .int (x1)), (2, .int (x2)), (3, .int (x3)), (4, .int (x4)), (5, .int (x5))]) [0, 1, 2, 3, 4, 5] rfl ?_
    exact pJ_X3_weightFor_89 hd out hR _ _ _ _ _ _ hrec _ hf
  · replace hf := x_iff hc hf
    refine x_iload_n dX3_weightFor_61 rfl ?_
    refine x_iload dX3_weightFor_62 rfl ?_
    refine x_iand dX3_weightFor_64 ?_
    refine x_if_ne 89 dX3_weightFor_65 (by decide) (fun hc => ?_) (fun hc => ?_)
    · replace hf := x_iff hc hf
      refine x_lv (lv' := [(0, .ref (xB E + 10)), (1, .int (x1)), (2, .int (x2)), (3, .int (x3)), (4, .int (x4)), (5, .int (x5))]) [0, 1, 2, 3, 4, 5] rfl ?_
      exact pJ_X3_weightFor_89 hd out hR _ _ _ _ _ _ hrec _ hf
    · replace hf := x_ift hc hf
      refine x_iload_n dX3_weightFor_68 rfl ?_
      refine x_iload dX3_weightFor_69 rfl ?_
      refine x_ior dX3_weightFor_71 ?_
      refine x_istore_n (lv' := [(0, .ref (xB E + 10)), (1, .int (x1)), (2, .int (x2)), (3, .int (x3 ||| x6)), (4, .int (x4)), (5, .int (x5))]) dX3_weightFor_72 [1, 2, 3, 0, 4, 5] (by decide) rfl ?_
      refine x_iload dX3_weightFor_73 rfl ?_
      refine x_aload_n dX3_weightFor_75 rfl ?_
      refine x_aload_n dX3_weightFor_76 rfl ?_
      refine f_getR (b := 11) dX3_weightFor_77 xcl_3 (by decide) fl_RX3_9 (by decide) sh_10 rfl ?_
      refine x_iload dX3_weightFor_80 rfl ?_
      have hg_3 := x_gd hf
      replace hf := hg_3.2
      refine f_iald dX3_weightFor_82 (by decide) sh_11 hg_3.1 ?_
      obtain ⟨q_4, hq_4, hf⟩ := Option.bind_eq_some_iff.mp hf
      refine f_cVi mX3_weightOf [.int (m.1 ag_letters_reader x5.toNatClampNeg)] [.int (x4)] dX3_weightFor_83 cs_RX3_49 ⟨w_523, w_17⟩ (ci := 3) rfl (by decide) sh_10 rfl rfl (Nat.le_of_ble_eq_true rfl) (by omega) (c_X3_weightOf (d := d - 1) (by omega) (m.1 ag_letters_reader x5.toNatClampNeg) m q_4 hq_4) ?_
      refine x_iadd dX3_weightFor_86 ?_
      refine x_istore (lv' := [(0, .ref (xB E + 10)), (1, .int (x1)), (2, .int (x2)), (3, .int (x3 ||| x6)), (4, .int (x4 + q_4.1)), (5, .int (x5))]) dX3_weightFor_87 [1, 2, 3, 4, 0, 5] (by decide) rfl ?_
      exact pJ_X3_weightFor_89 hd out hR _ _ _ _ _ _ hrec _ hf
set_option maxHeartbeats 4000000 in
set_option maxRecDepth 100000 in
theorem pJ_X3_weightFor_53 {E : xE} {d : Nat} {Q : Option Value → xS → Prop} (hd : 3 ≤ d) (out : Int32 × xMem) (hR : Q (some (.int out.1)) (xf E out.2)) (rec : Int32 → Int32 → Int32 → xMem → Option (Int32 × xMem)) (x1 : Int32) (x2 : Int32) (x3 : Int32) (x4 : Int32) (x5 : Int32) (x6 : Int32) (hrec : ∀ (x3 : Int32) (x4 : Int32) (x5 : Int32) (m : xMem), rec x3 x4 x5 m = some out → xX E mX3_weightFor d 0 0 0 0 Q 8 [(0, .ref (xB E + 10)), (1, .int (x1)), (2, .int (x2)), (3, .int (x3)), (4, .int (x4)), (5, .int (x5))] [] (xf E m)) (m : xMem) (hf : J_X3_weightFor_53 rec x1 x2 x3 x4 x5 x6 m = some out) : xX E mX3_weightFor d 0 0 0 0 Q 53 [(0, .ref (xB E + 10)), (1, .int (x1)), (2, .int (x2)), (3, .int (x3)), (4, .int (x4)), (5, .int (x5)), (6, .int (x6))] [] (xf E m) := by
  unfold J_X3_weightFor_53 at hf
  refine x_iconst (v := 0) dX3_weightFor_53 (by decide) ?_
  exact pJ_X3_weightFor_54 hd out hR _ _ _ _ _ _ _ _ hrec _ hf
set_option maxHeartbeats 4000000 in
set_option maxRecDepth 100000 in
theorem pL_X3_weightFor_8 {E : xE} {d : Nat} {Q : Option Value → xS → Prop} (hd : 3 ≤ d) (out : Int32 × xMem) (hR : Q (some (.int out.1)) (xf E out.2)) (x1 : Int32) (x2 : Int32) : ∀ (fk : Nat) (x3 : Int32) (x4 : Int32) (x5 : Int32) (m : xMem), L_X3_weightFor_8 x1 x2 fk x3 x4 x5 m = some out → xX E mX3_weightFor d 0 0 0 0 Q 8 [(0, .ref (xB E + 10)), (1, .int (x1)), (2, .int (x2)), (3, .int (x3)), (4, .int (x4)), (5, .int (x5))] [] (xf E m) := by
  intro fk
  induction fk with
  | zero => intro x3 x4 x5 m hf; cases hf
  | succ fk ih =>
    intro x3 x4 x5 m hf
    rw [L_X3_weightFor_8] at hf
    refine x_iload dX3_weightFor_8 rfl ?_
    refine x_aload_n dX3_weightFor_10 rfl ?_
    refine f_getI dX3_weightFor_11 xcl_3 (by decide) fl_RX3_30 (by decide) sh_10 rfl ?_
    refine x_icmp_ge 95 dX3_weightFor_14 (by decide) (fun hc => ?_) (fun hc => ?_)
    · replace hf := x_ift hc hf
      refine x_iload dX3_weightFor_95 rfl ?_
      exact x_iret dX3_weightFor_97 rfl (by cases hf; exact hR)
    · replace hf := x_iff hc hf
      refine x_iconst (v := 1) dX3_weightFor_17 (by decide) ?_
      refine x_aload_n dX3_weightFor_18 rfl ?_
      refine f_getR (b := 11) dX3_weightFor_19 xcl_3 (by decide) fl_RX3_9 (by decide) sh_10 rfl ?_
      refine x_iload dX3_weightFor_22 rfl ?_
      have hg_1 := x_gd hf
      replace hf := hg_1.2
      refine f_iald dX3_weightFor_24 (by decide) sh_11 hg_1.1 ?_
      refine x_ishl dX3_weightFor_25 ?_
      refine x_istore (lv' := [(0, .ref (xB E + 10)), (1, .int (x1)), (2, .int (x2)), (3, .int (x3)), (4, .int (x4)), (5, .int (x5)), (6, .int ((1 : Int32) <<< ((m.1 ag_letters_reader x5.toNatClampNeg) &&& 31)))]) dX3_weightFor_26 [1, 2, 3, 4, 5, 6, 0] (by decide) rfl ?_
      refine x_aload_n dX3_weightFor_28 rfl ?_
      refine x_iload dX3_weightFor_29 rfl ?_
      refine x_iload_n dX3_weightFor_31 rfl ?_
      obtain ⟨q_2, hq_2, hf⟩ := Option.bind_eq_some_iff.mp hf
      refine f_cVi mX3_isOpenOn [.int (x5), .int (x1)] [] dX3_weightFor_32 cs_RX3_37 ⟨w_426, w_3⟩ (ci := 3) rfl (by decide) sh_10 rfl rfl (Nat.le_of_ble_eq_true rfl) (by omega) (c_X3_isOpenOn (d := d - 1) (by omega) (x5) (x1) m q_2 hq_2) ?_
      refine x_if_eq 53 dX3_weightFor_35 (by decide) (fun hc => ?_) (fun hc => ?_)
      · replace hf := x_ift hc hf
        exact pJ_X3_weightFor_53 hd out hR _ _ _ _ _ _ _ (fun y0 y1 y2 m9 h9 => ih y0 y1 y2 m9 h9) _ hf
      · replace hf := x_iff hc hf
        refine x_aload_n dX3_weightFor_38 rfl ?_
        refine f_getR (b := 13) dX3_weightFor_39 xcl_3 (by decide) fl_RX3_18 (by decide) sh_10 rfl ?_
        refine x_iload dX3_weightFor_42 rfl ?_
        have hg_21 := x_gd hf
        replace hf := hg_21.2
        refine f_iald dX3_weightFor_44 (by decide) sh_13 hg_21.1 ?_
        refine x_iload_n dX3_weightFor_45 rfl ?_
        refine x_icmp_ne 53 dX3_weightFor_46 (by decide) (fun hc => ?_) (fun hc => ?_)
        · replace hf := x_iff hc hf
          exact pJ_X3_weightFor_53 hd out hR _ _ _ _ _ _ _ (fun y0 y1 y2 m9 h9 => ih y0 y1 y2 m9 h9) _ hf
        · replace hf := x_ift hc hf
          refine x_iconst (v := 1) dX3_weightFor_49 (by decide) ?_
          refine x_goto 54 dX3_weightFor_50 (by decide) ?_
          exact pJ_X3_weightFor_54 hd out hR _ _ _ _ _ _ _ _ (fun y0 y1 y2 m9 h9 => ih y0 y1 y2 m9 h9) _ hf
set_option maxHeartbeats 4000000 in
set_option maxRecDepth 100000 in
theorem pF_X3_weightFor {E : xE} {d : Nat} {Q : Option Value → xS → Prop} (hd : 3 ≤ d) (out : Int32 × xMem) (hR : Q (some (.int out.1)) (xf E out.2)) (x1 : Int32) (x2 : Int32) (m : xMem) (hf : F_X3_weightFor x1 x2 m = some out) : xX E mX3_weightFor d 0 0 0 0 Q 0 [(0, .ref (xB E + 10)), (1, .int (x1)), (2, .int (x2))] [] (xf E m) := by
  unfold F_X3_weightFor at hf
  refine x_iconst (v := 0) dX3_weightFor_0 (by decide) ?_
  refine x_istore_n (lv' := [(0, .ref (xB E + 10)), (1, .int (x1)), (2, .int (x2)), (3, .int ((0 : Int32)))]) dX3_weightFor_1 [1, 2, 3, 0] (by decide) rfl ?_
  refine x_iconst (v := 0) dX3_weightFor_2 (by decide) ?_
  refine x_istore (lv' := [(0, .ref (xB E + 10)), (1, .int (x1)), (2, .int (x2)), (3, .int ((0 : Int32))), (4, .int ((0 : Int32)))]) dX3_weightFor_3 [1, 2, 3, 4, 0] (by decide) rfl ?_
  refine x_iconst (v := 0) dX3_weightFor_5 (by decide) ?_
  refine x_istore (lv' := [(0, .ref (xB E + 10)), (1, .int (x1)), (2, .int (x2)), (3, .int ((0 : Int32))), (4, .int ((0 : Int32))), (5, .int ((0 : Int32)))]) dX3_weightFor_6 [1, 2, 3, 4, 5, 0] (by decide) rfl ?_
  refine pL_X3_weightFor_8 hd out hR _ _ xfuel _ _ _ _ hf
theorem c_X3_weightFor {E : xE} {d : Nat} (hd : 3 ≤ d) (x1 : Int32) (x2 : Int32) (m : xMem) (out : Int32 × xMem) (h : F_X3_weightFor x1 x2 m = some out) : xCi E mX3_weightFor d [.ref (xB E + 10), .int x1, .int x2] m out.1 out.2 :=
  x_enter (by decide +kernel) (Nat.le_of_ble_eq_true rfl) (pF_X3_weightFor hd (Q := _) out ⟨rfl, rfl⟩ x1 x2 m h)
-- X9_beliefOf
def J_X9_beliefOf_141 (rec : Int32 → Int32 → Int32 → xMem → Option (Int32 × xMem)) (x1 : Int32) (x2 : Int32) (x3 : Int32) (x4 : Int32) (x5 : Int32) (m : xMem) : Option (Int32 × xMem) :=
  rec (x3) (x4) (x5 + 1) m
def J_X9_beliefOf_134 (rec : Int32 → Int32 → Int32 → xMem → Option (Int32 × xMem)) (x1 : Int32) (x2 : Int32) (x5 : Int32) (x6 : Int32) (x7 : Int32) (m : xMem) : Option (Int32 × xMem) :=
  J_X9_beliefOf_141 rec (x1) (x2) (x6) (x7) (x5) m
def J_X9_beliefOf_120 (rec : Int32 → Int32 → Int32 → xMem → Option (Int32 × xMem)) (x1 : Int32) (x2 : Int32) (x3 : Int32) (x4 : Int32) (x5 : Int32) (x6 : Int32) (x7 : Int32) (s0 : Int32) (m : xMem) : Option (Int32 × xMem) :=
  if x4 < x7 then (
    J_X9_beliefOf_134 rec (x1) (x2) (x5) (x6) (x7) m)
  else (
    if s0 = 0 then (
      J_X9_beliefOf_141 rec (x1) (x2) (x3) (x4) (x5) m)
    else (
      J_X9_beliefOf_134 rec (x1) (x2) (x5) (x6) (x7) m))
def J_X9_beliefOf_119 (rec : Int32 → Int32 → Int32 → xMem → Option (Int32 × xMem)) (x1 : Int32) (x2 : Int32) (x3 : Int32) (x4 : Int32) (x5 : Int32) (x6 : Int32) (x7 : Int32) (m : xMem) : Option (Int32 × xMem) :=
  J_X9_beliefOf_120 rec (x1) (x2) (x3) (x4) (x5) (x6) (x7) ((0 : Int32)) m
def L_X9_beliefOf_39 (x1 : Int32) (x2 : Int32) : Nat → Int32 → Int32 → Int32 → xMem → Option (Int32 × xMem)
  | 0, _, _, _, _ => none
  | fk + 1, x3, x4, x5, m =>
    if (m.1 ag_letters fLetters_size) ≤ x5 then (
      some (x3, m))
    else (
      if xin x5 100 = true then (
      (F_X3_isOpenOn (x5) (x1) m).bind fun q_5 => (
      if q_5.1 = 0 then (
        J_X9_beliefOf_141 (fun y_27 y_28 y_29 m_30 => L_X9_beliefOf_39 x1 x2 fk y_27 y_28 y_29 m_30) (x1) (x2) (x3) (x4) (x5) q_5.2)
      else (
        if (m.1 ag_letters_said x5.toNatClampNeg) = x2 then (
          J_X9_beliefOf_141 (fun y_31 y_32 y_33 m_34 => L_X9_beliefOf_39 x1 x2 fk y_31 y_32 y_33 m_34) (x1) (x2) (x3) (x4) (x5) q_5.2)
        else (
          (F_X3_weightFor (x1) (m.1 ag_letters_said x5.toNatClampNeg) q_5.2).bind fun q_6 => (
          if q_6.1 = x4 then (
            if x3 = x2 then (
              J_X9_beliefOf_119 (fun y_35 y_36 y_37 m_38 => L_X9_beliefOf_39 x1 x2 fk y_35 y_36 y_37 m_38) (x1) (x2) (x3) (x4) (x5) (m.1 ag_letters_said x5.toNatClampNeg) (q_6.1) q_6.2)
            else (
              if x3 ≤ (m.1 ag_letters_said x5.toNatClampNeg) then (
                J_X9_beliefOf_119 (fun y_39 y_40 y_41 m_42 => L_X9_beliefOf_39 x1 x2 fk y_39 y_40 y_41 m_42) (x1) (x2) (x3) (x4) (x5) (m.1 ag_letters_said x5.toNatClampNeg) (q_6.1) q_6.2)
              else (
                J_X9_beliefOf_120 (fun y_43 y_44 y_45 m_46 => L_X9_beliefOf_39 x1 x2 fk y_43 y_44 y_45 m_46) (x1) (x2) (x3) (x4) (x5) (m.1 ag_letters_said x5.toNatClampNeg) (q_6.1) ((1 : Int32)) q_6.2)))
          else (
            J_X9_beliefOf_119 (fun y_47 y_48 y_49 m_50 => L_X9_beliefOf_39 x1 x2 fk y_47 y_48 y_49 m_50) (x1) (x2) (x3) (x4) (x5) (m.1 ag_letters_said x5.toNatClampNeg) (q_6.1) q_6.2))))))
      else none)
def F_X9_beliefOf (x1 : Int32) (m : xMem) : Option (Int32 × xMem) :=
  if xin x1 60 = true then (
  (F_X2_chanceOf (x1) m).bind fun q_2 => (
  (F_X3_weightFor (x1) (m.1 ag_facts_value x1.toNatClampNeg) q_2.2).bind fun q_3 => (
  L_X9_beliefOf_39 (x1) (m.1 ag_facts_value x1.toNatClampNeg) xfuel (m.1 ag_facts_value x1.toNatClampNeg) ((q_2.1 / (1000 : Int32)) + q_3.1) ((0 : Int32)) q_3.2)))
  else none
set_option maxHeartbeats 4000000 in
set_option maxRecDepth 100000 in
theorem pJ_X9_beliefOf_141 {E : xE} {d : Nat} {Q : Option Value → xS → Prop} (hd : 4 ≤ d) (out : Int32 × xMem) (hR : Q (some (.int out.1)) (xf E out.2)) (rec : Int32 → Int32 → Int32 → xMem → Option (Int32 × xMem)) (x1 : Int32) (x2 : Int32) (x3 : Int32) (x4 : Int32) (x5 : Int32) (hrec : ∀ (x3 : Int32) (x4 : Int32) (x5 : Int32) (m : xMem), rec x3 x4 x5 m = some out → xX E mX9_beliefOf d 0 0 0 0 Q 39 [(0, .ref (xB E + 0)), (1, .int (x1)), (2, .int (x2)), (3, .int (x3)), (4, .int (x4)), (5, .int (x5))] [] (xf E m)) (m : xMem) (hf : J_X9_beliefOf_141 rec x1 x2 x3 x4 x5 m = some out) : xX E mX9_beliefOf d 0 0 0 0 Q 141 [(0, .ref (xB E + 0)), (1, .int (x1)), (2, .int (x2)), (3, .int (x3)), (4, .int (x4)), (5, .int (x5))] [] (xf E m) := by
  unfold J_X9_beliefOf_141 at hf
  refine x_iinc (v := x5 + 1) (lv' := [(0, .ref (xB E + 0)), (1, .int (x1)), (2, .int (x2)), (3, .int (x3)), (4, .int (x4)), (5, .int (x5 + 1))]) dX9_beliefOf_141 5 [1, 2, 3, 4, 5, 0] rfl rfl (by decide) rfl ?_
  refine x_goto 39 dX9_beliefOf_144 (by decide) ?_
  exact hrec _ _ _ _ hf
set_option maxHeartbeats 4000000 in
set_option maxRecDepth 100000 in
theorem pJ_X9_beliefOf_134 {E : xE} {d : Nat} {Q : Option Value → xS → Prop} (hd : 4 ≤ d) (out : Int32 × xMem) (hR : Q (some (.int out.1)) (xf E out.2)) (rec : Int32 → Int32 → Int32 → xMem → Option (Int32 × xMem)) (x1 : Int32) (x2 : Int32) (x5 : Int32) (x6 : Int32) (x7 : Int32) (hrec : ∀ (x3 : Int32) (x4 : Int32) (x5 : Int32) (m : xMem), rec x3 x4 x5 m = some out → xX E mX9_beliefOf d 0 0 0 0 Q 39 [(0, .ref (xB E + 0)), (1, .int (x1)), (2, .int (x2)), (3, .int (x3)), (4, .int (x4)), (5, .int (x5))] [] (xf E m)) (m : xMem) (hf : J_X9_beliefOf_134 rec x1 x2 x5 x6 x7 m = some out) : xX E mX9_beliefOf d 0 0 0 0 Q 134 [(0, .ref (xB E + 0)), (1, .int (x1)), (2, .int (x2)), (5, .int (x5)), (6, .int (x6)), (7, .int (x7))] [] (xf E m) := by
  unfold J_X9_beliefOf_134 at hf
  refine x_iload dX9_beliefOf_134 rfl ?_
  refine x_istore_n (lv' := [(0, .ref (xB E + 0)), (1, .int (x1)), (2, .int (x2)), (3, .int (x6)), (5, .int (x5)), (7, .int (x7))]) dX9_beliefOf_136 [1, 2, 3, 0, 4, 6] (by decide) rfl ?_
  refine x_iload dX9_beliefOf_137 rfl ?_
  refine x_istore (lv' := [(0, .ref (xB E + 0)), (1, .int (x1)), (2, .int (x2)), (3, .int (x6)), (4, .int (x7)), (5, .int (x5))]) dX9_beliefOf_139 [1, 2, 3, 4, 0, 5] (by decide) rfl ?_
  exact pJ_X9_beliefOf_141 hd out hR _ _ _ _ _ _ hrec _ hf
set_option maxHeartbeats 4000000 in
set_option maxRecDepth 100000 in
theorem pJ_X9_beliefOf_120 {E : xE} {d : Nat} {Q : Option Value → xS → Prop} (hd : 4 ≤ d) (out : Int32 × xMem) (hR : Q (some (.int out.1)) (xf E out.2)) (rec : Int32 → Int32 → Int32 → xMem → Option (Int32 × xMem)) (x1 : Int32) (x2 : Int32) (x3 : Int32) (x4 : Int32) (x5 : Int32) (x6 : Int32) (x7 : Int32) (s0 : Int32) (hrec : ∀ (x3 : Int32) (x4 : Int32) (x5 : Int32) (m : xMem), rec x3 x4 x5 m = some out → xX E mX9_beliefOf d 0 0 0 0 Q 39 [(0, .ref (xB E + 0)), (1, .int (x1)), (2, .int (x2)), (3, .int (x3)), (4, .int (x4)), (5, .int (x5))] [] (xf E m)) (m : xMem) (hf : J_X9_beliefOf_120 rec x1 x2 x3 x4 x5 x6 x7 s0 m = some out) : xX E mX9_beliefOf d 0 0 0 0 Q 120 [(0, .ref (xB E + 0)), (1, .int (x1)), (2, .int (x2)), (3, .int (x3)), (4, .int (x4)), (5, .int (x5)), (6, .int (x6)), (7, .int (x7))] [.int (s0)] (xf E m) := by
  unfold J_X9_beliefOf_120 at hf
  refine x_istore (lv' := [(0, .ref (xB E + 0)), (1, .int (x1)), (2, .int (x2)), (3, .int (x3)), (4, .int (x4)), (5, .int (x5)), (6, .int (x6)), (7, .int (x7)), (8, .int (s0))]) dX9_beliefOf_120 [1, 2, 3, 4, 5, 6, 7, 8, 0] (by decide) rfl ?_
  refine x_iload dX9_beliefOf_122 rfl ?_
  refine x_iload dX9_beliefOf_124 rfl ?_
  refine x_icmp_gt 134 dX9_beliefOf_126 (by decide) (fun hc => ?_) (fun hc => ?_)
  · replace hf := x_ift hc hf
    refine x_lv (lv' := [(0, .ref (xB E + 0)), (1, .int (x1)), (2, .int (x2)), (5, .int (x5)), (6, .int (x6)), (7, .int (x7))]) [0, 1, 2, 5, 6, 7] rfl ?_
    exact pJ_X9_beliefOf_134 hd out hR _ _ _ _ _ _ hrec _ hf
  · replace hf := x_iff hc hf
    refine x_iload dX9_beliefOf_129 rfl ?_
    refine x_if_eq 141 dX9_beliefOf_131 (by decide) (fun hc => ?_) (fun hc => ?_)
    · replace hf := x_ift hc hf
      refine x_lv (lv' := [(0, .ref (xB E + 0)), (1, .int (x1)), (2, .int (x2)), (3, .int (x3)), (4, .int (x4)), (5, .int (x5))]) [0, 1, 2, 3, 4, 5] rfl ?_
      exact pJ_X9_beliefOf_141 hd out hR _ _ _ _ _ _ hrec _ hf
    · replace hf := x_iff hc hf
      refine x_lv (lv' := [(0, .ref (xB E + 0)), (1, .int (x1)), (2, .int (x2)), (5, .int (x5)), (6, .int (x6)), (7, .int (x7))]) [0, 1, 2, 5, 6, 7] rfl ?_
      exact pJ_X9_beliefOf_134 hd out hR _ _ _ _ _ _ hrec _ hf
set_option maxHeartbeats 4000000 in
set_option maxRecDepth 100000 in
theorem pJ_X9_beliefOf_119 {E : xE} {d : Nat} {Q : Option Value → xS → Prop} (hd : 4 ≤ d) (out : Int32 × xMem) (hR : Q (some (.int out.1)) (xf E out.2)) (rec : Int32 → Int32 → Int32 → xMem → Option (Int32 × xMem)) (x1 : Int32) (x2 : Int32) (x3 : Int32) (x4 : Int32) (x5 : Int32) (x6 : Int32) (x7 : Int32) (hrec : ∀ (x3 : Int32) (x4 : Int32) (x5 : Int32) (m : xMem), rec x3 x4 x5 m = some out → xX E mX9_beliefOf d 0 0 0 0 Q 39 [(0, .ref (xB E + 0)), (1, .int (x1)), (2, .int (x2)), (3, .int (x3)), (4, .int (x4)), (5, .int (x5))] [] (xf E m)) (m : xMem) (hf : J_X9_beliefOf_119 rec x1 x2 x3 x4 x5 x6 x7 m = some out) : xX E mX9_beliefOf d 0 0 0 0 Q 119 [(0, .ref (xB E + 0)), (1, .int (x1)), (2, .int (x2)), (3, .int (x3)), (4, .int (x4)), (5, .int (x5)), (6, .int (x6)), (7, .int (x7))] [] (xf E m) := by
  unfold J_X9_beliefOf_119 at hf
  refine x_iconst (v := 0) dX9_beliefOf_119 (by decide) ?_
  exact pJ_X9_beliefOf_120 hd out hR _ _ _ _ _ _ _ _ _ hrec _ hf
set_option maxHeartbeats 4000000 in
set_option maxRecDepth 100000 in
theorem pL_X9_beliefOf_39 {E : xE} {d : Nat} {Q : Option Value → xS → Prop} (hd : 4 ≤ d) (out : Int32 × xMem) (hR : Q (some (.int out.1)) (xf E out.2)) (x1 : Int32) (x2 : Int32) : ∀ (fk : Nat) (x3 : Int32) (x4 : Int32) (x5 : Int32) (m : xMem), L_X9_beliefOf_39 x1 x2 fk x3 x4 x5 m = some out → xX E mX9_beliefOf d 0 0 0 0 Q 39 [(0, .ref (xB E + 0)), (1, .int (x1)), (2, .int (x2)), (3, .int (x3)), (4, .int (x4)), (5, .int (x5))] [] (xf E m) := by
  intro fk
  induction fk with
  | zero => intro x3 x4 x5 m hf; cases hf
  | succ fk ih =>
    intro x3 x4 x5 m hf
    rw [L_X9_beliefOf_39] at hf
    refine x_iload dX9_beliefOf_39 rfl ?_
    refine x_aload_n dX9_beliefOf_41 rfl ?_
    refine f_getR (b := 10) dX9_beliefOf_42 xcl_9 (by decide) fl_RX9_19 (by decide) sh_0 rfl ?_
    refine f_getI dX9_beliefOf_45 xcl_3 (by decide) fl_RX9_142 (by decide) sh_10 rfl ?_
    refine x_icmp_ge 147 dX9_beliefOf_48 (by decide) (fun hc => ?_) (fun hc => ?_)
    · replace hf := x_ift hc hf
      refine x_iload_n dX9_beliefOf_147 rfl ?_
      exact x_iret dX9_beliefOf_148 rfl (by cases hf; exact hR)
    · replace hf := x_iff hc hf
      refine x_aload_n dX9_beliefOf_51 rfl ?_
      refine f_getR (b := 10) dX9_beliefOf_52 xcl_9 (by decide) fl_RX9_19 (by decide) sh_0 rfl ?_
      refine f_getR (b := 13) dX9_beliefOf_55 xcl_3 (by decide) fl_RX9_263 (by decide) sh_10 rfl ?_
      refine x_iload dX9_beliefOf_58 rfl ?_
      have hg_4 := x_gd hf
      replace hf := hg_4.2
      refine f_iald dX9_beliefOf_60 (by decide) sh_13 hg_4.1 ?_
      refine x_istore (lv' := [(0, .ref (xB E + 0)), (1, .int (x1)), (2, .int (x2)), (3, .int (x3)), (4, .int (x4)), (5, .int (x5)), (6, .int (m.1 ag_letters_said x5.toNatClampNeg))]) dX9_beliefOf_61 [1, 2, 3, 4, 5, 6, 0] (by decide) rfl ?_
      refine x_aload_n dX9_beliefOf_63 rfl ?_
      refine f_getR (b := 10) dX9_beliefOf_64 xcl_9 (by decide) fl_RX9_19 (by decide) sh_0 rfl ?_
      refine x_iload dX9_beliefOf_67 rfl ?_
      refine x_iload_n dX9_beliefOf_69 rfl ?_
      obtain ⟨q_5, hq_5, hf⟩ := Option.bind_eq_some_iff.mp hf
      refine f_cVi mX3_isOpenOn [.int (x5), .int (x1)] [] dX9_beliefOf_70 cs_RX9_266 ⟨w_426, w_3⟩ (ci := 3) rfl (by decide) sh_10 rfl rfl (Nat.le_of_ble_eq_true rfl) (by omega) (c_X3_isOpenOn (d := d - 1) (by omega) (x5) (x1) m q_5 hq_5) ?_
      refine x_if_eq 141 dX9_beliefOf_73 (by decide) (fun hc => ?_) (fun hc => ?_)
      · replace hf := x_ift hc hf
        refine x_lv (lv' := [(0, .ref (xB E + 0)), (1, .int (x1)), (2, .int (x2)), (3, .int (x3)), (4, .int (x4)), (5, .int (x5))]) [0, 1, 2, 3, 4, 5] rfl ?_
        exact pJ_X9_beliefOf_141 hd out hR _ _ _ _ _ _ (fun y0 y1 y2 m9 h9 => ih y0 y1 y2 m9 h9) _ hf
      · replace hf := x_iff hc hf
        refine x_iload dX9_beliefOf_76 rfl ?_
        refine x_iload_n dX9_beliefOf_78 rfl ?_
        refine x_icmp_ne 85 dX9_beliefOf_79 (by decide) (fun hc => ?_) (fun hc => ?_)
        · replace hf := x_iff hc hf
          refine x_aload_n dX9_beliefOf_85 rfl ?_
          refine f_getR (b := 10) dX9_beliefOf_86 xcl_9 (by decide) fl_RX9_19 (by decide) sh_0 rfl ?_
          refine x_iload_n dX9_beliefOf_89 rfl ?_
          refine x_iload dX9_beliefOf_90 rfl ?_
          obtain ⟨q_6, hq_6, hf⟩ := Option.bind_eq_some_iff.mp hf
          refine f_cVi mX3_weightFor [.int (x1), .int (m.1 ag_letters_said x5.toNatClampNeg)] [] dX9_beliefOf_92 cs_RX9_259 ⟨w_536, w_19⟩ (ci := 3) rfl (by decide) sh_10 rfl rfl (Nat.le_of_ble_eq_true rfl) (by omega) (c_X3_weightFor (d := d - 1) (by omega) (x1) (m.1 ag_letters_said x5.toNatClampNeg) q_5.2 q_6 hq_6) ?_
          refine x_istore (lv' := [(0, .ref (xB E + 0)), (1, .int (x1)), (2, .int (x2)), (3, .int (x3)), (4, .int (x4)), (5, .int (x5)), (6, .int (m.1 ag_letters_said x5.toNatClampNeg)), (7, .int (q_6.1))]) dX9_beliefOf_95 [1, 2, 3, 4, 5, 6, 7, 0] (by decide) rfl ?_
          refine x_iload dX9_beliefOf_97 rfl ?_
          refine x_iload dX9_beliefOf_99 rfl ?_
          refine x_icmp_ne 119 dX9_beliefOf_101 (by decide) (fun hc => ?_) (fun hc => ?_)
          · replace hf := x_iff hc hf
            exact pJ_X9_beliefOf_119 hd out hR _ _ _ _ _ _ _ _ (fun y0 y1 y2 m9 h9 => ih y0 y1 y2 m9 h9) _ hf
          · replace hf := x_ift hc hf
            refine x_iload_n dX9_beliefOf_104 rfl ?_
            refine x_iload_n dX9_beliefOf_105 rfl ?_
            refine x_icmp_eq 119 dX9_beliefOf_106 (by decide) (fun hc => ?_) (fun hc => ?_)
            · replace hf := x_ift hc hf
              exact pJ_X9_beliefOf_119 hd out hR _ _ _ _ _ _ _ _ (fun y0 y1 y2 m9 h9 => ih y0 y1 y2 m9 h9) _ hf
            · replace hf := x_iff hc hf
              refine x_iload dX9_beliefOf_109 rfl ?_
              refine x_iload_n dX9_beliefOf_111 rfl ?_
              refine x_icmp_ge 119 dX9_beliefOf_112 (by decide) (fun hc => ?_) (fun hc => ?_)
              · replace hf := x_ift hc hf
                exact pJ_X9_beliefOf_119 hd out hR _ _ _ _ _ _ _ _ (fun y0 y1 y2 m9 h9 => ih y0 y1 y2 m9 h9) _ hf
              · replace hf := x_iff hc hf
                refine x_iconst (v := 1) dX9_beliefOf_115 (by decide) ?_
                refine x_goto 120 dX9_beliefOf_116 (by decide) ?_
                exact pJ_X9_beliefOf_120 hd out hR _ _ _ _ _ _ _ _ _ (fun y0 y1 y2 m9 h9 => ih y0 y1 y2 m9 h9) _ hf
        · replace hf := x_ift hc hf
          refine x_goto 141 dX9_beliefOf_82 (by decide) ?_
          refine x_lv (lv' := [(0, .ref (xB E + 0)), (1, .int (x1)), (2, .int (x2)), (3, .int (x3)), (4, .int (x4)), (5, .int (x5))]) [0, 1, 2, 3, 4, 5] rfl ?_
          exact pJ_X9_beliefOf_141 hd out hR _ _ _ _ _ _ (fun y0 y1 y2 m9 h9 => ih y0 y1 y2 m9 h9) _ hf
set_option maxHeartbeats 4000000 in
set_option maxRecDepth 100000 in
theorem pF_X9_beliefOf {E : xE} {d : Nat} {Q : Option Value → xS → Prop} (hd : 4 ≤ d) (out : Int32 × xMem) (hR : Q (some (.int out.1)) (xf E out.2)) (x1 : Int32) (m : xMem) (hf : F_X9_beliefOf x1 m = some out) : xX E mX9_beliefOf d 0 0 0 0 Q 0 [(0, .ref (xB E + 0)), (1, .int (x1))] [] (xf E m) := by
  unfold F_X9_beliefOf at hf
  refine x_aload_n dX9_beliefOf_0 rfl ?_
  refine f_getR (b := 1) dX9_beliefOf_1 xcl_9 (by decide) fl_RX9_12 (by decide) sh_0 rfl ?_
  refine f_getR (b := 4) dX9_beliefOf_4 xcl_2 (by decide) fl_RX9_237 (by decide) sh_1 rfl ?_
  refine x_iload_n dX9_beliefOf_7 rfl ?_
  have hg_1 := x_gd hf
  replace hf := hg_1.2
  refine f_iald dX9_beliefOf_8 (by decide) sh_4 hg_1.1 ?_
  refine x_istore_n (lv' := [(0, .ref (xB E + 0)), (1, .int (x1)), (2, .int (m.1 ag_facts_value x1.toNatClampNeg))]) dX9_beliefOf_9 [1, 2, 0] (by decide) rfl ?_
  refine x_iload_n dX9_beliefOf_10 rfl ?_
  refine x_istore_n (lv' := [(0, .ref (xB E + 0)), (1, .int (x1)), (2, .int (m.1 ag_facts_value x1.toNatClampNeg)), (3, .int (m.1 ag_facts_value x1.toNatClampNeg))]) dX9_beliefOf_11 [1, 2, 3, 0] (by decide) rfl ?_
  refine x_aload_n dX9_beliefOf_12 rfl ?_
  refine f_getR (b := 1) dX9_beliefOf_13 xcl_9 (by decide) fl_RX9_12 (by decide) sh_0 rfl ?_
  refine x_iload_n dX9_beliefOf_16 rfl ?_
  obtain ⟨q_2, hq_2, hf⟩ := Option.bind_eq_some_iff.mp hf
  refine f_cVi mX2_chanceOf [.int (x1)] [] dX9_beliefOf_17 cs_RX9_128 ⟨w_465, w_9⟩ (ci := 2) rfl (by decide) sh_1 rfl rfl (Nat.le_of_ble_eq_true rfl) (by omega) (c_X2_chanceOf (d := d - 1) (by omega) (x1) m q_2 hq_2) ?_
  refine x_sipush (v := 1000) dX9_beliefOf_20 (by decide) ?_
  refine x_idiv dX9_beliefOf_23 (by decide) ?_
  refine x_aload_n dX9_beliefOf_24 rfl ?_
  refine f_getR (b := 10) dX9_beliefOf_25 xcl_9 (by decide) fl_RX9_19 (by decide) sh_0 rfl ?_
  refine x_iload_n dX9_beliefOf_28 rfl ?_
  refine x_iload_n dX9_beliefOf_29 rfl ?_
  obtain ⟨q_3, hq_3, hf⟩ := Option.bind_eq_some_iff.mp hf
  refine f_cVi mX3_weightFor [.int (x1), .int (m.1 ag_facts_value x1.toNatClampNeg)] [.int (q_2.1 / (1000 : Int32))] dX9_beliefOf_30 cs_RX9_259 ⟨w_536, w_19⟩ (ci := 3) rfl (by decide) sh_10 rfl rfl (Nat.le_of_ble_eq_true rfl) (by omega) (c_X3_weightFor (d := d - 1) (by omega) (x1) (m.1 ag_facts_value x1.toNatClampNeg) q_2.2 q_3 hq_3) ?_
  refine x_iadd dX9_beliefOf_33 ?_
  refine x_istore (lv' := [(0, .ref (xB E + 0)), (1, .int (x1)), (2, .int (m.1 ag_facts_value x1.toNatClampNeg)), (3, .int (m.1 ag_facts_value x1.toNatClampNeg)), (4, .int ((q_2.1 / (1000 : Int32)) + q_3.1))]) dX9_beliefOf_34 [1, 2, 3, 4, 0] (by decide) rfl ?_
  refine x_iconst (v := 0) dX9_beliefOf_36 (by decide) ?_
  refine x_istore (lv' := [(0, .ref (xB E + 0)), (1, .int (x1)), (2, .int (m.1 ag_facts_value x1.toNatClampNeg)), (3, .int (m.1 ag_facts_value x1.toNatClampNeg)), (4, .int ((q_2.1 / (1000 : Int32)) + q_3.1)), (5, .int ((0 : Int32)))]) dX9_beliefOf_37 [1, 2, 3, 4, 5, 0] (by decide) rfl ?_
  refine pL_X9_beliefOf_39 hd out hR _ _ xfuel _ _ _ _ hf
theorem c_X9_beliefOf {E : xE} {d : Nat} (hd : 4 ≤ d) (x1 : Int32) (m : xMem) (out : Int32 × xMem) (h : F_X9_beliefOf x1 m = some out) : xCi E mX9_beliefOf d [.ref (xB E + 0), .int x1] m out.1 out.2 :=
  x_enter (by decide +kernel) (Nat.le_of_ble_eq_true rfl) (pF_X9_beliefOf hd (Q := _) out ⟨rfl, rfl⟩ x1 m h)
-- X9_believed
def F_X9_believed (x1 : Int32) (m : xMem) : Option (Int32 × xMem) :=
  (F_X2_has (x1) m).bind fun q_1 => (
  if q_1.1 = 0 then (
    some ((-1 : Int32), q_1.2))
  else (
    (F_X9_beliefOf (x1) q_1.2).bind fun q_2 => (
    some (q_2.1, q_2.2))))
set_option maxHeartbeats 4000000 in
set_option maxRecDepth 100000 in
theorem pF_X9_believed {E : xE} {d : Nat} {Q : Option Value → xS → Prop} (hd : 5 ≤ d) (out : Int32 × xMem) (hR : Q (some (.int out.1)) (xf E out.2)) (x1 : Int32) (m : xMem) (hf : F_X9_believed x1 m = some out) : xX E mX9_believed d 0 0 0 0 Q 0 [(0, .ref (xB E + 0)), (1, .int (x1))] [] (xf E m) := by
  unfold F_X9_believed at hf
  refine x_aload_n dX9_believed_0 rfl ?_
  refine f_getR (b := 1) dX9_believed_1 xcl_9 (by decide) fl_RX9_12 (by decide) sh_0 rfl ?_
  refine x_iload_n dX9_believed_4 rfl ?_
  obtain ⟨q_1, hq_1, hf⟩ := Option.bind_eq_some_iff.mp hf
  refine f_cVi mX2_has [.int (x1)] [] dX9_believed_5 cs_RX9_107 ⟨w_414, w_1⟩ (ci := 2) rfl (by decide) sh_1 rfl rfl (Nat.le_of_ble_eq_true rfl) (by omega) (c_X2_has (d := d - 1) (by omega) (x1) m q_1 hq_1) ?_
  refine x_if_eq 19 dX9_believed_8 (by decide) (fun hc => ?_) (fun hc => ?_)
  · replace hf := x_ift hc hf
    refine x_iconst (v := (-1)) dX9_believed_19 (by decide) ?_
    exact x_iret dX9_believed_20 rfl (by cases hf; exact hR)
  · replace hf := x_iff hc hf
    refine x_aload_n dX9_believed_11 rfl ?_
    refine x_iload_n dX9_believed_12 rfl ?_
    obtain ⟨q_2, hq_2, hf⟩ := Option.bind_eq_some_iff.mp hf
    refine f_cVi mX9_beliefOf [.int (x1)] [] dX9_believed_13 cs_RX9_147 ⟨w_532, w_18⟩ (ci := 9) rfl (by decide) sh_0 rfl rfl (Nat.le_of_ble_eq_true rfl) (by omega) (c_X9_beliefOf (d := d - 1) (by omega) (x1) q_1.2 q_2 hq_2) ?_
    refine x_goto 20 dX9_believed_16 (by decide) ?_
    exact x_iret dX9_believed_20 rfl (by cases hf; exact hR)
theorem c_X9_believed {E : xE} {d : Nat} (hd : 5 ≤ d) (x1 : Int32) (m : xMem) (out : Int32 × xMem) (h : F_X9_believed x1 m = some out) : xCi E mX9_believed d [.ref (xB E + 0), .int x1] m out.1 out.2 :=
  x_enter (by decide +kernel) (Nat.le_of_ble_eq_true rfl) (pF_X9_believed hd (Q := _) out ⟨rfl, rfl⟩ x1 m h)
-- X10_isOpen
def F_X10_isOpen (x1 : Int32) (x2 : Int32) (m : xMem) : Option (Int32 × xMem) :=
  if xin x1 100 = true then (
  if (m.1 am_about x1.toNatClampNeg) = x2 then (
    if xin x1 100 = true then (
    if (m.1 am_proofs x1.toNatClampNeg) = 0 then (
      some ((1 : Int32), m))
    else (
      some ((0 : Int32), m)))
    else none)
  else (
    some ((0 : Int32), m)))
  else none
set_option maxHeartbeats 4000000 in
set_option maxRecDepth 100000 in
theorem pF_X10_isOpen {E : xE} {d : Nat} {Q : Option Value → xS → Prop} (hd : 1 ≤ d) (out : Int32 × xMem) (hR : Q (some (.int out.1)) (xf E out.2)) (x1 : Int32) (x2 : Int32) (m : xMem) (hf : F_X10_isOpen x1 x2 m = some out) : xX E mX10_isOpen d 0 0 0 0 Q 0 [(0, .ref (xB E + 87)), (1, .int (x1)), (2, .int (x2))] [] (xf E m) := by
  unfold F_X10_isOpen at hf
  refine x_aload_n dX10_isOpen_0 rfl ?_
  refine f_getR (b := 114) dX10_isOpen_1 xcl_10 (by decide) fl_RX10_118 (by decide) sh_87 rfl ?_
  refine x_iload_n dX10_isOpen_4 rfl ?_
  have hg_1 := x_gd hf
  replace hf := hg_1.2
  refine f_iald dX10_isOpen_5 (by decide) sh_114 hg_1.1 ?_
  refine x_iload_n dX10_isOpen_6 rfl ?_
  refine x_icmp_ne 23 dX10_isOpen_7 (by decide) (fun hc => ?_) (fun hc => ?_)
  · replace hf := x_iff hc hf
    refine x_iconst (v := 0) dX10_isOpen_23 (by decide) ?_
    exact x_zret dX10_isOpen_24 rfl (by decide) (by cases hf; exact hR)
  · replace hf := x_ift hc hf
    refine x_aload_n dX10_isOpen_10 rfl ?_
    refine f_getR (b := 116) dX10_isOpen_11 xcl_10 (by decide) fl_RX10_124 (by decide) sh_87 rfl ?_
    refine x_iload_n dX10_isOpen_14 rfl ?_
    have hg_2 := x_gd hf
    replace hf := hg_2.2
    refine f_iald dX10_isOpen_15 (by decide) sh_116 hg_2.1 ?_
    refine x_if_ne 23 dX10_isOpen_16 (by decide) (fun hc => ?_) (fun hc => ?_)
    · replace hf := x_iff hc hf
      refine x_iconst (v := 0) dX10_isOpen_23 (by decide) ?_
      exact x_zret dX10_isOpen_24 rfl (by decide) (by cases hf; exact hR)
    · replace hf := x_ift hc hf
      refine x_iconst (v := 1) dX10_isOpen_19 (by decide) ?_
      refine x_goto 24 dX10_isOpen_20 (by decide) ?_
      exact x_zret dX10_isOpen_24 rfl (by decide) (by cases hf; exact hR)
theorem c_X10_isOpen {E : xE} {d : Nat} (hd : 1 ≤ d) (x1 : Int32) (x2 : Int32) (m : xMem) (out : Int32 × xMem) (h : F_X10_isOpen x1 x2 m = some out) : xCi E mX10_isOpen d [.ref (xB E + 87), .int x1, .int x2] m out.1 out.2 :=
  x_enter (by decide +kernel) (Nat.le_of_ble_eq_true rfl) (pF_X10_isOpen hd (Q := _) out ⟨rfl, rfl⟩ x1 x2 m h)
-- X10_heard
def J_X10_heard_92 (rec : Int32 → Int32 → xMem → Option (Int32 × xMem)) (c100 : Int32 → xMem → Option (Int32 × xMem)) (x1 : Int32) (x2 : Int32) (x3 : Int32) (x4 : Int32) (x6 : Int32) (s0 : Int32) (m : xMem) : Option (Int32 × xMem) :=
  rec (s0) (x6 + 1) m
def J_X10_heard_87 (rec : Int32 → Int32 → xMem → Option (Int32 × xMem)) (c100 : Int32 → xMem → Option (Int32 × xMem)) (x1 : Int32) (x2 : Int32) (x3 : Int32) (x4 : Int32) (x6 : Int32) (m : xMem) : Option (Int32 × xMem) :=
  J_X10_heard_92 rec c100 (x1) (x2) (x3) (x4) (x6) ((1 : Int32)) m
def J_X10_heard_91 (rec : Int32 → Int32 → xMem → Option (Int32 × xMem)) (c100 : Int32 → xMem → Option (Int32 × xMem)) (x1 : Int32) (x2 : Int32) (x3 : Int32) (x4 : Int32) (x6 : Int32) (m : xMem) : Option (Int32 × xMem) :=
  J_X10_heard_92 rec c100 (x1) (x2) (x3) (x4) (x6) ((0 : Int32)) m
def L_X10_heard_40 (x1 : Int32) (x2 : Int32) (x3 : Int32) (x4 : Int32) (c100 : Int32 → xMem → Option (Int32 × xMem)) : Nat → Int32 → Int32 → xMem → Option (Int32 × xMem)
  | 0, _, _, _ => none
  | fk + 1, x5, x6, m =>
    if (m.1 am fGuideBookModel_letters) ≤ x6 then (
      c100 (x5) m)
    else (
      if x5 = 0 then (
        if xin x6 100 = true then (
        if (m.1 am_readers x6.toNatClampNeg) = x4 then (
          (F_X10_isOpen (x6) (x1) m).bind fun q_9 => (
          if q_9.1 = 0 then (
            J_X10_heard_91 (fun y_11 y_12 m_13 => L_X10_heard_40 x1 x2 x3 x4 c100 fk y_11 y_12 m_13) c100 (x1) (x2) (x3) (x4) (x6) q_9.2)
          else (
            if xin x6 100 = true then (
            if (q_9.2.1 am_says x6.toNatClampNeg) = x2 then (
              J_X10_heard_87 (fun y_14 y_15 m_16 => L_X10_heard_40 x1 x2 x3 x4 c100 fk y_14 y_15 m_16) c100 (x1) (x2) (x3) (x4) (x6) q_9.2)
            else (
              J_X10_heard_91 (fun y_17 y_18 m_19 => L_X10_heard_40 x1 x2 x3 x4 c100 fk y_17 y_18 m_19) c100 (x1) (x2) (x3) (x4) (x6) q_9.2))
            else none)))
        else (
          J_X10_heard_91 (fun y_20 y_21 m_22 => L_X10_heard_40 x1 x2 x3 x4 c100 fk y_20 y_21 m_22) c100 (x1) (x2) (x3) (x4) (x6) m))
        else none)
      else (
        J_X10_heard_87 (fun y_23 y_24 m_25 => L_X10_heard_40 x1 x2 x3 x4 c100 fk y_23 y_24 m_25) c100 (x1) (x2) (x3) (x4) (x6) m))
def J_X10_heard_116 (rec : Int32 → Int32 → xMem → Option (Int32 × xMem)) (x1 : Int32) (x2 : Int32) (x4 : Int32) (s0 : Int32) (s1 : Int32) (m : xMem) : Option (Int32 × xMem) :=
  rec (s0 + s1) (x4 + 1) m
def L_X10_heard_27 (x1 : Int32) (x2 : Int32) : Nat → Int32 → Int32 → xMem → Option (Int32 × xMem)
  | 0, _, _, _ => none
  | fk + 1, x3, x4, m =>
    if (20 : Int32) ≤ x4 then (
      some (x3, m))
    else (
      L_X10_heard_40 (x1) (x2) (x3) (x4) (fun x5_26 m_27 => (
        if x5_26 = 0 then (
          J_X10_heard_116 (fun y_29 y_30 m_31 => L_X10_heard_27 x1 x2 fk y_29 y_30 m_31) (x1) (x2) (x4) (x3) ((0 : Int32)) m_27)
        else (
          (F_X10_weightOf (x4) m_27).bind fun q_28 => (
          J_X10_heard_116 (fun y_32 y_33 m_34 => L_X10_heard_27 x1 x2 fk y_32 y_33 m_34) (x1) (x2) (x4) (x3) (q_28.1) q_28.2)))) xfuel ((0 : Int32)) ((0 : Int32)) m)
def J_X10_heard_23 (x1 : Int32) (x2 : Int32) (s0 : Int32) (m : xMem) : Option (Int32 × xMem) :=
  L_X10_heard_27 (x1) (x2) xfuel (s0) ((0 : Int32)) m
def F_X10_heard (x1 : Int32) (x2 : Int32) (m : xMem) : Option (Int32 × xMem) :=
  if xin x1 60 = true then (
  if x2 = (m.1 am_worthNow x1.toNatClampNeg) then (
    (F_X10_chanceOf (x1) m).bind fun q_35 => (
    J_X10_heard_23 (x1) (x2) (q_35.1 / (1000 : Int32)) q_35.2))
  else (
    J_X10_heard_23 (x1) (x2) ((0 : Int32)) m))
  else none
set_option maxHeartbeats 4000000 in
set_option maxRecDepth 100000 in
theorem pJ_X10_heard_92 {E : xE} {d : Nat} {Q : Option Value → xS → Prop} (hd : 3 ≤ d) (out : Int32 × xMem) (hR : Q (some (.int out.1)) (xf E out.2)) (rec : Int32 → Int32 → xMem → Option (Int32 × xMem)) (c100 : Int32 → xMem → Option (Int32 × xMem)) (x1 : Int32) (x2 : Int32) (x3 : Int32) (x4 : Int32) (x6 : Int32) (s0 : Int32) (hrec : ∀ (x5 : Int32) (x6 : Int32) (m : xMem), rec x5 x6 m = some out → xX E mX10_heard d 0 0 0 0 Q 40 [(0, .ref (xB E + 87)), (1, .int (x1)), (2, .int (x2)), (3, .int (x3)), (4, .int (x4)), (5, .int (x5)), (6, .int (x6))] [] (xf E m)) (hc100 : ∀ (x5 : Int32) (m : xMem), c100 x5 m = some out → xX E mX10_heard d 0 0 0 0 Q 100 [(0, .ref (xB E + 87)), (1, .int (x1)), (2, .int (x2)), (3, .int (x3)), (4, .int (x4)), (5, .int (x5))] [] (xf E m)) (m : xMem) (hf : J_X10_heard_92 rec c100 x1 x2 x3 x4 x6 s0 m = some out) : xX E mX10_heard d 0 0 0 0 Q 92 [(0, .ref (xB E + 87)), (1, .int (x1)), (2, .int (x2)), (3, .int (x3)), (4, .int (x4)), (6, .int (x6))] [.int (s0)] (xf E m) := by
  unfold J_X10_heard_92 at hf
  refine x_istore (lv' := [(0, .ref (xB E + 87)), (1, .int (x1)), (2, .int (x2)), (3, .int (x3)), (4, .int (x4)), (5, .int (s0)), (6, .int (x6))]) dX10_heard_92 [1, 2, 3, 4, 5, 0, 6] (by decide) rfl ?_
  refine x_iinc (v := x6 + 1) (lv' := [(0, .ref (xB E + 87)), (1, .int (x1)), (2, .int (x2)), (3, .int (x3)), (4, .int (x4)), (5, .int (s0)), (6, .int (x6 + 1))]) dX10_heard_94 6 [1, 2, 3, 4, 5, 6, 0] rfl rfl (by decide) rfl ?_
  refine x_goto 40 dX10_heard_97 (by decide) ?_
  exact hrec _ _ _ hf
set_option maxHeartbeats 4000000 in
set_option maxRecDepth 100000 in
theorem pJ_X10_heard_87 {E : xE} {d : Nat} {Q : Option Value → xS → Prop} (hd : 3 ≤ d) (out : Int32 × xMem) (hR : Q (some (.int out.1)) (xf E out.2)) (rec : Int32 → Int32 → xMem → Option (Int32 × xMem)) (c100 : Int32 → xMem → Option (Int32 × xMem)) (x1 : Int32) (x2 : Int32) (x3 : Int32) (x4 : Int32) (x6 : Int32) (hrec : ∀ (x5 : Int32) (x6 : Int32) (m : xMem), rec x5 x6 m = some out → xX E mX10_heard d 0 0 0 0 Q 40 [(0, .ref (xB E + 87)), (1, .int (x1)), (2, .int (x2)), (3, .int (x3)), (4, .int (x4)), (5, .int (x5)), (6, .int (x6))] [] (xf E m)) (hc100 : ∀ (x5 : Int32) (m : xMem), c100 x5 m = some out → xX E mX10_heard d 0 0 0 0 Q 100 [(0, .ref (xB E + 87)), (1, .int (x1)), (2, .int (x2)), (3, .int (x3)), (4, .int (x4)), (5, .int (x5))] [] (xf E m)) (m : xMem) (hf : J_X10_heard_87 rec c100 x1 x2 x3 x4 x6 m = some out) : xX E mX10_heard d 0 0 0 0 Q 87 [(0, .ref (xB E + 87)), (1, .int (x1)), (2, .int (x2)), (3, .int (x3)), (4, .int (x4)), (6, .int (x6))] [] (xf E m) := by
  unfold J_X10_heard_87 at hf
  refine x_iconst (v := 1) dX10_heard_87 (by decide) ?_
  refine x_goto 92 dX10_heard_88 (by decide) ?_
  exact pJ_X10_heard_92 hd out hR _ _ _ _ _ _ _ _ hrec hc100 _ hf
set_option maxHeartbeats 4000000 in
set_option maxRecDepth 100000 in
theorem pJ_X10_heard_91 {E : xE} {d : Nat} {Q : Option Value → xS → Prop} (hd : 3 ≤ d) (out : Int32 × xMem) (hR : Q (some (.int out.1)) (xf E out.2)) (rec : Int32 → Int32 → xMem → Option (Int32 × xMem)) (c100 : Int32 → xMem → Option (Int32 × xMem)) (x1 : Int32) (x2 : Int32) (x3 : Int32) (x4 : Int32) (x6 : Int32) (hrec : ∀ (x5 : Int32) (x6 : Int32) (m : xMem), rec x5 x6 m = some out → xX E mX10_heard d 0 0 0 0 Q 40 [(0, .ref (xB E + 87)), (1, .int (x1)), (2, .int (x2)), (3, .int (x3)), (4, .int (x4)), (5, .int (x5)), (6, .int (x6))] [] (xf E m)) (hc100 : ∀ (x5 : Int32) (m : xMem), c100 x5 m = some out → xX E mX10_heard d 0 0 0 0 Q 100 [(0, .ref (xB E + 87)), (1, .int (x1)), (2, .int (x2)), (3, .int (x3)), (4, .int (x4)), (5, .int (x5))] [] (xf E m)) (m : xMem) (hf : J_X10_heard_91 rec c100 x1 x2 x3 x4 x6 m = some out) : xX E mX10_heard d 0 0 0 0 Q 91 [(0, .ref (xB E + 87)), (1, .int (x1)), (2, .int (x2)), (3, .int (x3)), (4, .int (x4)), (6, .int (x6))] [] (xf E m) := by
  unfold J_X10_heard_91 at hf
  refine x_iconst (v := 0) dX10_heard_91 (by decide) ?_
  exact pJ_X10_heard_92 hd out hR _ _ _ _ _ _ _ _ hrec hc100 _ hf
set_option maxHeartbeats 4000000 in
set_option maxRecDepth 100000 in
theorem pL_X10_heard_40 {E : xE} {d : Nat} {Q : Option Value → xS → Prop} (hd : 3 ≤ d) (out : Int32 × xMem) (hR : Q (some (.int out.1)) (xf E out.2)) (x1 : Int32) (x2 : Int32) (x3 : Int32) (x4 : Int32) (c100 : Int32 → xMem → Option (Int32 × xMem)) (hc100 : ∀ (x5 : Int32) (m : xMem), c100 x5 m = some out → xX E mX10_heard d 0 0 0 0 Q 100 [(0, .ref (xB E + 87)), (1, .int (x1)), (2, .int (x2)), (3, .int (x3)), (4, .int (x4)), (5, .int (x5))] [] (xf E m)) : ∀ (fk : Nat) (x5 : Int32) (x6 : Int32) (m : xMem), L_X10_heard_40 x1 x2 x3 x4 c100 fk x5 x6 m = some out → xX E mX10_heard d 0 0 0 0 Q 40 [(0, .ref (xB E + 87)), (1, .int (x1)), (2, .int (x2)), (3, .int (x3)), (4, .int (x4)), (5, .int (x5)), (6, .int (x6))] [] (xf E m) := by
  intro fk
  induction fk with
  | zero => intro x5 x6 m hf; cases hf
  | succ fk ih =>
    intro x5 x6 m hf
    rw [L_X10_heard_40] at hf
    refine x_iload dX10_heard_40 rfl ?_
    refine x_aload_n dX10_heard_42 rfl ?_
    refine f_getI dX10_heard_43 xcl_10 (by decide) fl_RX10_264 (by decide) sh_87 rfl ?_
    refine x_icmp_ge 100 dX10_heard_46 (by decide) (fun hc => ?_) (fun hc => ?_)
    · replace hf := x_ift hc hf
      refine x_lv (lv' := [(0, .ref (xB E + 87)), (1, .int (x1)), (2, .int (x2)), (3, .int (x3)), (4, .int (x4)), (5, .int (x5))]) [0, 1, 2, 3, 4, 5] rfl ?_
      exact hc100 _ _ hf
    · replace hf := x_iff hc hf
      refine x_iload dX10_heard_49 rfl ?_
      refine x_if_ne 87 dX10_heard_51 (by decide) (fun hc => ?_) (fun hc => ?_)
      · replace hf := x_iff hc hf
        refine x_lv (lv' := [(0, .ref (xB E + 87)), (1, .int (x1)), (2, .int (x2)), (3, .int (x3)), (4, .int (x4)), (6, .int (x6))]) [0, 1, 2, 3, 4, 6] rfl ?_
        exact pJ_X10_heard_87 hd out hR _ _ _ _ _ _ _ (fun y0 y1 m9 h9 => ih y0 y1 m9 h9) hc100 _ hf
      · replace hf := x_ift hc hf
        refine x_aload_n dX10_heard_54 rfl ?_
        refine f_getR (b := 113) dX10_heard_55 xcl_10 (by decide) fl_RX10_115 (by decide) sh_87 rfl ?_
        refine x_iload dX10_heard_58 rfl ?_
        have hg_5 := x_gd hf
        replace hf := hg_5.2
        refine f_iald dX10_heard_60 (by decide) sh_113 hg_5.1 ?_
        refine x_iload dX10_heard_61 rfl ?_
        refine x_icmp_ne 91 dX10_heard_63 (by decide) (fun hc => ?_) (fun hc => ?_)
        · replace hf := x_iff hc hf
          refine x_lv (lv' := [(0, .ref (xB E + 87)), (1, .int (x1)), (2, .int (x2)), (3, .int (x3)), (4, .int (x4)), (6, .int (x6))]) [0, 1, 2, 3, 4, 6] rfl ?_
          exact pJ_X10_heard_91 hd out hR _ _ _ _ _ _ _ (fun y0 y1 m9 h9 => ih y0 y1 m9 h9) hc100 _ hf
        · replace hf := x_ift hc hf
          refine x_aload_n dX10_heard_66 rfl ?_
          refine x_iload dX10_heard_67 rfl ?_
          refine x_iload_n dX10_heard_69 rfl ?_
          obtain ⟨q_9, hq_9, hf⟩ := Option.bind_eq_some_iff.mp hf
          refine f_cVi mX10_isOpen [.int (x6), .int (x1)] [] dX10_heard_70 cs_RX10_283 ⟨w_1254, w_79⟩ (ci := 10) rfl (by decide) sh_87 rfl rfl (Nat.le_of_ble_eq_true rfl) (by omega) (c_X10_isOpen (d := d - 1) (by omega) (x6) (x1) m q_9 hq_9) ?_
          refine x_if_eq 91 dX10_heard_73 (by decide) (fun hc => ?_) (fun hc => ?_)
          · replace hf := x_ift hc hf
            refine x_lv (lv' := [(0, .ref (xB E + 87)), (1, .int (x1)), (2, .int (x2)), (3, .int (x3)), (4, .int (x4)), (6, .int (x6))]) [0, 1, 2, 3, 4, 6] rfl ?_
            exact pJ_X10_heard_91 hd out hR _ _ _ _ _ _ _ (fun y0 y1 m9 h9 => ih y0 y1 m9 h9) hc100 _ hf
          · replace hf := x_iff hc hf
            refine x_aload_n dX10_heard_76 rfl ?_
            refine f_getR (b := 115) dX10_heard_77 xcl_10 (by decide) fl_RX10_121 (by decide) sh_87 rfl ?_
            refine x_iload dX10_heard_80 rfl ?_
            have hg_10 := x_gd hf
            replace hf := hg_10.2
            refine f_iald dX10_heard_82 (by decide) sh_115 hg_10.1 ?_
            refine x_iload_n dX10_heard_83 rfl ?_
            refine x_icmp_ne 91 dX10_heard_84 (by decide) (fun hc => ?_) (fun hc => ?_)
            · replace hf := x_iff hc hf
              refine x_lv (lv' := [(0, .ref (xB E + 87)), (1, .int (x1)), (2, .int (x2)), (3, .int (x3)), (4, .int (x4)), (6, .int (x6))]) [0, 1, 2, 3, 4, 6] rfl ?_
              exact pJ_X10_heard_91 hd out hR _ _ _ _ _ _ _ (fun y0 y1 m9 h9 => ih y0 y1 m9 h9) hc100 _ hf
            · replace hf := x_ift hc hf
              refine x_lv (lv' := [(0, .ref (xB E + 87)), (1, .int (x1)), (2, .int (x2)), (3, .int (x3)), (4, .int (x4)), (6, .int (x6))]) [0, 1, 2, 3, 4, 6] rfl ?_
              exact pJ_X10_heard_87 hd out hR _ _ _ _ _ _ _ (fun y0 y1 m9 h9 => ih y0 y1 m9 h9) hc100 _ hf
set_option maxHeartbeats 4000000 in
set_option maxRecDepth 100000 in
theorem pJ_X10_heard_116 {E : xE} {d : Nat} {Q : Option Value → xS → Prop} (hd : 3 ≤ d) (out : Int32 × xMem) (hR : Q (some (.int out.1)) (xf E out.2)) (rec : Int32 → Int32 → xMem → Option (Int32 × xMem)) (x1 : Int32) (x2 : Int32) (x4 : Int32) (s0 : Int32) (s1 : Int32) (hrec : ∀ (x3 : Int32) (x4 : Int32) (m : xMem), rec x3 x4 m = some out → xX E mX10_heard d 0 0 0 0 Q 27 [(0, .ref (xB E + 87)), (1, .int (x1)), (2, .int (x2)), (3, .int (x3)), (4, .int (x4))] [] (xf E m)) (m : xMem) (hf : J_X10_heard_116 rec x1 x2 x4 s0 s1 m = some out) : xX E mX10_heard d 0 0 0 0 Q 116 [(0, .ref (xB E + 87)), (1, .int (x1)), (2, .int (x2)), (4, .int (x4))] [.int (s1), .int (s0)] (xf E m) := by
  unfold J_X10_heard_116 at hf
  refine x_iadd dX10_heard_116 ?_
  refine x_istore_n (lv' := [(0, .ref (xB E + 87)), (1, .int (x1)), (2, .int (x2)), (3, .int (s0 + s1)), (4, .int (x4))]) dX10_heard_117 [1, 2, 3, 0, 4] (by decide) rfl ?_
  refine x_iinc (v := x4 + 1) (lv' := [(0, .ref (xB E + 87)), (1, .int (x1)), (2, .int (x2)), (3, .int (s0 + s1)), (4, .int (x4 + 1))]) dX10_heard_118 4 [1, 2, 3, 4, 0] rfl rfl (by decide) rfl ?_
  refine x_goto 27 dX10_heard_121 (by decide) ?_
  exact hrec _ _ _ hf
set_option maxHeartbeats 4000000 in
set_option maxRecDepth 100000 in
theorem pL_X10_heard_27 {E : xE} {d : Nat} {Q : Option Value → xS → Prop} (hd : 3 ≤ d) (out : Int32 × xMem) (hR : Q (some (.int out.1)) (xf E out.2)) (x1 : Int32) (x2 : Int32) : ∀ (fk : Nat) (x3 : Int32) (x4 : Int32) (m : xMem), L_X10_heard_27 x1 x2 fk x3 x4 m = some out → xX E mX10_heard d 0 0 0 0 Q 27 [(0, .ref (xB E + 87)), (1, .int (x1)), (2, .int (x2)), (3, .int (x3)), (4, .int (x4))] [] (xf E m) := by
  intro fk
  induction fk with
  | zero => intro x3 x4 m hf; cases hf
  | succ fk ih =>
    intro x3 x4 m hf
    rw [L_X10_heard_27] at hf
    refine x_iload dX10_heard_27 rfl ?_
    refine x_bipush (v := 20) dX10_heard_29 (by decide) ?_
    refine x_icmp_ge 124 dX10_heard_31 (by decide) (fun hc => ?_) (fun hc => ?_)
    · replace hf := x_ift hc hf
      refine x_iload_n dX10_heard_124 rfl ?_
      exact x_iret dX10_heard_125 rfl (by cases hf; exact hR)
    · replace hf := x_iff hc hf
      refine x_iconst (v := 0) dX10_heard_34 (by decide) ?_
      refine x_istore (lv' := [(0, .ref (xB E + 87)), (1, .int (x1)), (2, .int (x2)), (3, .int (x3)), (4, .int (x4)), (5, .int ((0 : Int32)))]) dX10_heard_35 [1, 2, 3, 4, 5, 0] (by decide) rfl ?_
      refine x_iconst (v := 0) dX10_heard_37 (by decide) ?_
      refine x_istore (lv' := [(0, .ref (xB E + 87)), (1, .int (x1)), (2, .int (x2)), (3, .int (x3)), (4, .int (x4)), (5, .int ((0 : Int32))), (6, .int ((0 : Int32)))]) dX10_heard_38 [1, 2, 3, 4, 5, 6, 0] (by decide) rfl ?_
      refine pL_X10_heard_40 hd out hR _ _ _ _ _ (fun x5_26 m_27 hf => ?_) xfuel _ _ _ hf
      refine x_iload_n dX10_heard_100 rfl ?_
      refine x_iload dX10_heard_101 rfl ?_
      refine x_if_eq 115 dX10_heard_103 (by decide) (fun hc => ?_) (fun hc => ?_)
      · replace hf := x_ift hc hf
        refine x_iconst (v := 0) dX10_heard_115 (by decide) ?_
        refine x_lv (lv' := [(0, .ref (xB E + 87)), (1, .int (x1)), (2, .int (x2)), (4, .int (x4))]) [0, 1, 2, 4] rfl ?_
        exact pJ_X10_heard_116 hd out hR _ _ _ _ _ _ (fun y0 y1 m9 h9 => ih y0 y1 m9 h9) _ hf
      · replace hf := x_iff hc hf
        refine x_aload_n dX10_heard_106 rfl ?_
        refine x_iload dX10_heard_107 rfl ?_
        obtain ⟨q_28, hq_28, hf⟩ := Option.bind_eq_some_iff.mp hf
        refine f_cVi mX10_weightOf [.int (x4)] [.int (x3)] dX10_heard_109 cs_RX10_280 ⟨w_1242, w_77⟩ (ci := 10) rfl (by decide) sh_87 rfl rfl (Nat.le_of_ble_eq_true rfl) (by omega) (c_X10_weightOf (d := d - 1) (by omega) (x4) m_27 q_28 hq_28) ?_
        refine x_goto 116 dX10_heard_112 (by decide) ?_
        refine x_lv (lv' := [(0, .ref (xB E + 87)), (1, .int (x1)), (2, .int (x2)), (4, .int (x4))]) [0, 1, 2, 4] rfl ?_
        exact pJ_X10_heard_116 hd out hR _ _ _ _ _ _ (fun y0 y1 m9 h9 => ih y0 y1 m9 h9) _ hf
set_option maxHeartbeats 4000000 in
set_option maxRecDepth 100000 in
theorem pJ_X10_heard_23 {E : xE} {d : Nat} {Q : Option Value → xS → Prop} (hd : 3 ≤ d) (out : Int32 × xMem) (hR : Q (some (.int out.1)) (xf E out.2)) (x1 : Int32) (x2 : Int32) (s0 : Int32) (m : xMem) (hf : J_X10_heard_23 x1 x2 s0 m = some out) : xX E mX10_heard d 0 0 0 0 Q 23 [(0, .ref (xB E + 87)), (1, .int (x1)), (2, .int (x2))] [.int (s0)] (xf E m) := by
  unfold J_X10_heard_23 at hf
  refine x_istore_n (lv' := [(0, .ref (xB E + 87)), (1, .int (x1)), (2, .int (x2)), (3, .int (s0))]) dX10_heard_23 [1, 2, 3, 0] (by decide) rfl ?_
  refine x_iconst (v := 0) dX10_heard_24 (by decide) ?_
  refine x_istore (lv' := [(0, .ref (xB E + 87)), (1, .int (x1)), (2, .int (x2)), (3, .int (s0)), (4, .int ((0 : Int32)))]) dX10_heard_25 [1, 2, 3, 4, 0] (by decide) rfl ?_
  refine pL_X10_heard_27 hd out hR _ _ xfuel _ _ _ hf
set_option maxHeartbeats 4000000 in
set_option maxRecDepth 100000 in
theorem pF_X10_heard {E : xE} {d : Nat} {Q : Option Value → xS → Prop} (hd : 3 ≤ d) (out : Int32 × xMem) (hR : Q (some (.int out.1)) (xf E out.2)) (x1 : Int32) (x2 : Int32) (m : xMem) (hf : F_X10_heard x1 x2 m = some out) : xX E mX10_heard d 0 0 0 0 Q 0 [(0, .ref (xB E + 87)), (1, .int (x1)), (2, .int (x2))] [] (xf E m) := by
  unfold F_X10_heard at hf
  refine x_iload_n dX10_heard_0 rfl ?_
  refine x_aload_n dX10_heard_1 rfl ?_
  refine f_getR (b := 105) dX10_heard_2 xcl_10 (by decide) fl_RX10_91 (by decide) sh_87 rfl ?_
  refine x_iload_n dX10_heard_5 rfl ?_
  have hg_1 := x_gd hf
  replace hf := hg_1.2
  refine f_iald dX10_heard_6 (by decide) sh_105 hg_1.1 ?_
  refine x_icmp_ne 22 dX10_heard_7 (by decide) (fun hc => ?_) (fun hc => ?_)
  · replace hf := x_iff hc hf
    refine x_iconst (v := 0) dX10_heard_22 (by decide) ?_
    exact pJ_X10_heard_23 hd out hR _ _ _ _ hf
  · replace hf := x_ift hc hf
    refine x_aload_n dX10_heard_10 rfl ?_
    refine x_iload_n dX10_heard_11 rfl ?_
    obtain ⟨q_35, hq_35, hf⟩ := Option.bind_eq_some_iff.mp hf
    refine f_cVi mX10_chanceOf [.int (x1)] [] dX10_heard_12 cs_RX10_261 ⟨w_1204, w_73⟩ (ci := 10) rfl (by decide) sh_87 rfl rfl (Nat.le_of_ble_eq_true rfl) (by omega) (c_X10_chanceOf (d := d - 1) (by omega) (x1) m q_35 hq_35) ?_
    refine x_sipush (v := 1000) dX10_heard_15 (by decide) ?_
    refine x_idiv dX10_heard_18 (by decide) ?_
    refine x_goto 23 dX10_heard_19 (by decide) ?_
    exact pJ_X10_heard_23 hd out hR _ _ _ _ hf
theorem c_X10_heard {E : xE} {d : Nat} (hd : 3 ≤ d) (x1 : Int32) (x2 : Int32) (m : xMem) (out : Int32 × xMem) (h : F_X10_heard x1 x2 m = some out) : xCi E mX10_heard d [.ref (xB E + 87), .int x1, .int x2] m out.1 out.2 :=
  x_enter (by decide +kernel) (Nat.le_of_ble_eq_true rfl) (pF_X10_heard hd (Q := _) out ⟨rfl, rfl⟩ x1 x2 m h)
