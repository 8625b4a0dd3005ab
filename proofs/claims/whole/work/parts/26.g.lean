-- X5_refuse
def J_X5_refuse_30 (x1 : Int32) (s0 : Int32) (m : xMem) : Option (Int32 × xMem) :=
  some ((0 : Int32), (xst m.1 ag_parser fParser_fault (x1 + ((16 : Int32) * s0)), m.2))
def F_X5_refuse (x1 : Int32) (m : xMem) : Option (Int32 × xMem) :=
  if (m.1 ag_parser_tokens fTokens_size) ≤ (m.1 ag_parser fParser_at) then (
    J_X5_refuse_30 (x1) ((0 : Int32)) m)
  else (
    if xin (m.1 ag_parser fParser_at) 601 = true then (
    J_X5_refuse_30 (x1) (m.1 ag_parser_tokens_where (m.1 ag_parser fParser_at).toNatClampNeg) m)
    else none)
set_option maxHeartbeats 4000000 in
set_option maxRecDepth 100000 in
theorem pJ_X5_refuse_30 {E : xE} {d : Nat} {Q : Option Value → xS → Prop} (hd : 1 ≤ d) (out : Int32 × xMem) (hR : Q (some (.int out.1)) (xf E out.2)) (x1 : Int32) (s0 : Int32) (m : xMem) (hf : J_X5_refuse_30 x1 s0 m = some out) : xX E mX5_refuse d 0 0 0 0 Q 30 [(0, .ref (xB E + 31)), (1, .int (x1))] [.int (s0)] (xf E m) := by
  unfold J_X5_refuse_30 at hf
  refine x_istore_n (lv' := [(0, .ref (xB E + 31)), (1, .int (x1)), (2, .int (s0))]) dX5_refuse_30 [1, 2, 0] (by decide) rfl ?_
  refine x_aload_n dX5_refuse_31 rfl ?_
  refine x_iload_n dX5_refuse_32 rfl ?_
  refine x_bipush (v := 16) dX5_refuse_33 (by decide) ?_
  refine x_iload_n dX5_refuse_35 rfl ?_
  refine x_imul dX5_refuse_36 ?_
  refine x_iadd dX5_refuse_37 ?_
  refine f_putI dX5_refuse_38 xcl_5 (by decide) fl_RX5_36 rfl rfl (by decide) sh_31 rfl ?_
  refine x_iconst (v := 0) dX5_refuse_41 (by decide) ?_
  exact x_zret dX5_refuse_42 rfl (by decide) (by cases hf; exact hR)
set_option maxHeartbeats 4000000 in
set_option maxRecDepth 100000 in
theorem pF_X5_refuse {E : xE} {d : Nat} {Q : Option Value → xS → Prop} (hd : 1 ≤ d) (out : Int32 × xMem) (hR : Q (some (.int out.1)) (xf E out.2)) (x1 : Int32) (m : xMem) (hf : F_X5_refuse x1 m = some out) : xX E mX5_refuse d 0 0 0 0 Q 0 [(0, .ref (xB E + 31)), (1, .int (x1))] [] (xf E m) := by
  unfold F_X5_refuse at hf
  refine x_aload_n dX5_refuse_0 rfl ?_
  refine f_getI dX5_refuse_1 xcl_5 (by decide) fl_RX5_32 (by decide) sh_31 rfl ?_
  refine x_aload_n dX5_refuse_4 rfl ?_
  refine f_getR (b := 32) dX5_refuse_5 xcl_5 (by decide) fl_RX5_12 (by decide) sh_31 rfl ?_
  refine f_getI dX5_refuse_8 xcl_8 (by decide) fl_RX5_78 (by decide) sh_32 rfl ?_
  refine x_icmp_ge 29 dX5_refuse_11 (by decide) (fun hc => ?_) (fun hc => ?_)
  · replace hf := x_ift hc hf
    refine x_iconst (v := 0) dX5_refuse_29 (by decide) ?_
    exact pJ_X5_refuse_30 hd out hR _ _ _ hf
  · replace hf := x_iff hc hf
    refine x_aload_n dX5_refuse_14 rfl ?_
    refine f_getR (b := 32) dX5_refuse_15 xcl_5 (by decide) fl_RX5_12 (by decide) sh_31 rfl ?_
    refine f_getR (b := 34) dX5_refuse_18 xcl_8 (by decide) fl_RX5_84 (by decide) sh_32 rfl ?_
    refine x_aload_n dX5_refuse_21 rfl ?_
    refine f_getI dX5_refuse_22 xcl_5 (by decide) fl_RX5_32 (by decide) sh_31 rfl ?_
    have hg_1 := x_gd hf
    replace hf := hg_1.2
    refine f_iald dX5_refuse_25 (by decide) sh_34 hg_1.1 ?_
    refine x_goto 30 dX5_refuse_26 (by decide) ?_
    exact pJ_X5_refuse_30 hd out hR _ _ _ hf
theorem c_X5_refuse {E : xE} {d : Nat} (hd : 1 ≤ d) (x1 : Int32) (m : xMem) (out : Int32 × xMem) (h : F_X5_refuse x1 m = some out) : xCi E mX5_refuse d [.ref (xB E + 31), .int x1] m out.1 out.2 :=
  x_enter (by decide +kernel) (Nat.le_of_ble_eq_true rfl) (pF_X5_refuse hd (Q := _) out ⟨rfl, rfl⟩ x1 m h)
-- X5_pass
def F_X5_pass (x1 : Int32) (m : xMem) : Option (Int32 × xMem) :=
  (F_X5_token m).bind fun q_1 => (
  if q_1.1 = x1 then (
    some ((1 : Int32), (xst q_1.2.1 ag_parser fParser_at ((q_1.2.1 ag_parser fParser_at) + (1 : Int32)), q_1.2.2)))
  else (
    (F_X5_refuse ((1 : Int32)) q_1.2).bind fun q_2 => (
    if xbb q_2.1 = true then (
    some (q_2.1, q_2.2))
    else none)))
set_option maxHeartbeats 4000000 in
set_option maxRecDepth 100000 in
theorem pF_X5_pass {E : xE} {d : Nat} {Q : Option Value → xS → Prop} (hd : 2 ≤ d) (out : Int32 × xMem) (hR : Q (some (.int out.1)) (xf E out.2)) (x1 : Int32) (m : xMem) (hf : F_X5_pass x1 m = some out) : xX E mX5_pass d 0 0 0 0 Q 0 [(0, .ref (xB E + 31)), (1, .int (x1))] [] (xf E m) := by
  unfold F_X5_pass at hf
  refine x_aload_n dX5_pass_0 rfl ?_
  obtain ⟨q_1, hq_1, hf⟩ := Option.bind_eq_some_iff.mp hf
  refine f_cVi mX5_token [] [] dX5_pass_1 cs_RX5_39 ⟨w_703, w_36⟩ (ci := 5) rfl (by decide) sh_31 rfl rfl (Nat.le_of_ble_eq_true rfl) (by omega) (c_X5_token (d := d - 1) (by omega) m q_1 hq_1) ?_
  refine x_iload_n dX5_pass_4 rfl ?_
  refine x_icmp_eq 14 dX5_pass_5 (by decide) (fun hc => ?_) (fun hc => ?_)
  · replace hf := x_ift hc hf
    refine x_aload_n dX5_pass_14 rfl ?_
    refine x_dup dX5_pass_15 rfl ?_
    refine f_getI dX5_pass_16 xcl_5 (by decide) fl_RX5_32 (by decide) sh_31 rfl ?_
    refine x_iconst (v := 1) dX5_pass_19 (by decide) ?_
    refine x_iadd dX5_pass_20 ?_
    refine f_putI dX5_pass_21 xcl_5 (by decide) fl_RX5_32 rfl rfl (by decide) sh_31 rfl ?_
    refine x_iconst (v := 1) dX5_pass_24 (by decide) ?_
    exact x_zret dX5_pass_25 rfl (by decide) (by cases hf; exact hR)
  · replace hf := x_iff hc hf
    refine x_aload_n dX5_pass_8 rfl ?_
    refine x_iconst (v := 1) dX5_pass_9 (by decide) ?_
    obtain ⟨q_2, hq_2, hf⟩ := Option.bind_eq_some_iff.mp hf
    refine f_cVi mX5_refuse [.int ((1 : Int32))] [] dX5_pass_10 cs_RX5_47 ⟨w_711, w_38⟩ (ci := 5) rfl (by decide) sh_31 rfl rfl (Nat.le_of_ble_eq_true rfl) (by omega) (c_X5_refuse (d := d - 1) (by omega) ((1 : Int32)) q_1.2 q_2 hq_2) ?_
    have hg_3 := x_gd hf
    replace hf := hg_3.2
    exact x_zret dX5_pass_13 rfl (xbb_n hg_3.1) (by cases hf; exact hR)
theorem c_X5_pass {E : xE} {d : Nat} (hd : 2 ≤ d) (x1 : Int32) (m : xMem) (out : Int32 × xMem) (h : F_X5_pass x1 m = some out) : xCi E mX5_pass d [.ref (xB E + 31), .int x1] m out.1 out.2 :=
  x_enter (by decide +kernel) (Nat.le_of_ble_eq_true rfl) (pF_X5_pass hd (Q := _) out ⟨rfl, rfl⟩ x1 m h)
-- X5_joins
def F_X5_joins (x0 : Int32) (m : xMem) : Option (Int32 × xMem) :=
  if x0 = 43 then (
    some ((2 : Int32), m))
  else (
  if x0 = 45 then (
    some ((2 : Int32), m))
  else (
  if x0 = 60 then (
    some ((1 : Int32), m))
  else (
  if x0 = 61 then (
    some ((1 : Int32), m))
  else (
  if x0 = 203 then (
    some ((0 : Int32), m))
  else (
    some ((-1 : Int32), m))))))
set_option maxHeartbeats 4000000 in
set_option maxRecDepth 100000 in
theorem pF_X5_joins {E : xE} {d : Nat} {Q : Option Value → xS → Prop} (hd : 1 ≤ d) (out : Int32 × xMem) (hR : Q (some (.int out.1)) (xf E out.2)) (x0 : Int32) (m : xMem) (hf : F_X5_joins x0 m = some out) : xX E mX5_joins d 0 0 0 0 Q 0 [(0, .int (x0))] [] (xf E m) := by
  unfold F_X5_joins at hf
  refine x_iload_n dX5_joins_0 rfl ?_
  by_cases hc : x0 = 43
  · replace hf := x_ift hc hf
    refine x_lookup 56 dX5_joins_1 (by decide) (by rw [hc]; try rfl) (by decide) ?_
    refine x_iconst (v := 2) dX5_joins_56 (by decide) ?_
    exact x_iret dX5_joins_57 rfl (by cases hf; exact hR)
  replace hf := x_iff hc hf
  have hn43 := hc
  by_cases hc : x0 = 45
  · replace hf := x_ift hc hf
    refine x_lookup 56 dX5_joins_1 (by decide) (by rw [hc]; try rfl) (by decide) ?_
    refine x_iconst (v := 2) dX5_joins_56 (by decide) ?_
    exact x_iret dX5_joins_57 rfl (by cases hf; exact hR)
  replace hf := x_iff hc hf
  have hn45 := hc
  by_cases hc : x0 = 60
  · replace hf := x_ift hc hf
    refine x_lookup 54 dX5_joins_1 (by decide) (by rw [hc]; try rfl) (by decide) ?_
    refine x_iconst (v := 1) dX5_joins_54 (by decide) ?_
    exact x_iret dX5_joins_55 rfl (by cases hf; exact hR)
  replace hf := x_iff hc hf
  have hn60 := hc
  by_cases hc : x0 = 61
  · replace hf := x_ift hc hf
    refine x_lookup 54 dX5_joins_1 (by decide) (by rw [hc]; try rfl) (by decide) ?_
    refine x_iconst (v := 1) dX5_joins_54 (by decide) ?_
    exact x_iret dX5_joins_55 rfl (by cases hf; exact hR)
  replace hf := x_iff hc hf
  have hn61 := hc
  by_cases hc : x0 = 203
  · replace hf := x_ift hc hf
    refine x_lookup 52 dX5_joins_1 (by decide) (by rw [hc]; try rfl) (by decide) ?_
    refine x_iconst (v := 0) dX5_joins_52 (by decide) ?_
    exact x_iret dX5_joins_53 rfl (by cases hf; exact hR)
  replace hf := x_iff hc hf
  have hn203 := hc
  refine x_lookup 58 dX5_joins_1 (by decide) (xlook_out (by simp only [List.forall_mem_cons, List.not_mem_nil, false_implies, implies_true, and_true]; exact ⟨hn43, hn45, hn60, hn61, hn203⟩)) (by decide) ?_
  refine x_iconst (v := (-1)) dX5_joins_58 (by decide) ?_
  exact x_iret dX5_joins_59 rfl (by cases hf; exact hR)
theorem c_X5_joins {E : xE} {d : Nat} (hd : 1 ≤ d) (x0 : Int32) (m : xMem) (out : Int32 × xMem) (h : F_X5_joins x0 m = some out) : xCi E mX5_joins d [.int x0] m out.1 out.2 :=
  x_enter (by decide +kernel) (Nat.le_of_ble_eq_true rfl) (pF_X5_joins hd (Q := _) out ⟨rfl, rfl⟩ x0 m h)
-- X6_add
def F_X6_add (x1 : Int32) (m : xMem) : Option (Int32 × xMem) :=
  if (600 : Int32) ≤ (m.1 ag_parser_draft fScript_size) then (
    some (0, m))
  else (
    if xin (m.1 ag_parser_draft fScript_size) 600 = true then (
    some (0, (xst (xst m.1 ag_parser_draft_code (m.1 ag_parser_draft fScript_size).toNatClampNeg x1) ag_parser_draft fScript_size (((xst m.1 ag_parser_draft_code (m.1 ag_parser_draft fScript_size).toNatClampNeg x1) ag_parser_draft fScript_size) + (1 : Int32)), m.2)))
    else none)
set_option maxHeartbeats 4000000 in
set_option maxRecDepth 100000 in
theorem pF_X6_add {E : xE} {d : Nat} {Q : Option Value → xS → Prop} (hd : 1 ≤ d) (out : Int32 × xMem) (hR : Q none (xf E out.2)) (x1 : Int32) (m : xMem) (hf : F_X6_add x1 m = some out) : xX E mX6_add d 0 0 0 0 Q 0 [(0, .ref (xB E + 36)), (1, .int (x1))] [] (xf E m) := by
  unfold F_X6_add at hf
  refine x_aload_n dX6_add_0 rfl ?_
  refine f_getI dX6_add_1 xcl_6 (by decide) fl_RX6_24 (by decide) sh_36 rfl ?_
  refine x_sipush (v := 600) dX6_add_4 (by decide) ?_
  refine x_icmp_ge 30 dX6_add_7 (by decide) (fun hc => ?_) (fun hc => ?_)
  · replace hf := x_ift hc hf
    exact x_vret dX6_add_30 rfl (by cases hf; exact hR)
  · replace hf := x_iff hc hf
    refine x_aload_n dX6_add_10 rfl ?_
    refine f_getR (b := 37) dX6_add_11 xcl_6 (by decide) fl_RX6_9 (by decide) sh_36 rfl ?_
    refine x_aload_n dX6_add_14 rfl ?_
    refine f_getI dX6_add_15 xcl_6 (by decide) fl_RX6_24 (by decide) sh_36 rfl ?_
    refine x_iload_n dX6_add_18 rfl ?_
    have hg_1 := x_gd hf
    replace hf := hg_1.2
    refine f_iast dX6_add_19 (by decide) sh_37 hg_1.1 ?_
    refine x_aload_n dX6_add_20 rfl ?_
    refine x_dup dX6_add_21 rfl ?_
    refine f_getI dX6_add_22 xcl_6 (by decide) fl_RX6_24 (by decide) sh_36 rfl ?_
    refine x_iconst (v := 1) dX6_add_25 (by decide) ?_
    refine x_iadd dX6_add_26 ?_
    refine f_putI dX6_add_27 xcl_6 (by decide) fl_RX6_24 rfl rfl (by decide) sh_36 rfl ?_
    exact x_vret dX6_add_30 rfl (by cases hf; exact hR)
theorem c_X6_add {E : xE} {d : Nat} (hd : 1 ≤ d) (x1 : Int32) (m : xMem) (out : Int32 × xMem) (h : F_X6_add x1 m = some out) : xCv E mX6_add d [.ref (xB E + 36), .int x1] m out.2 :=
  x_enter (by decide +kernel) (Nat.le_of_ble_eq_true rfl) (pF_X6_add hd (Q := _) out ⟨rfl, rfl⟩ x1 m h)
-- X9_isName
def F_X9_isName (x0 : Int32) (m : xMem) : Option (Int32 × xMem) :=
  if x0 < (204 : Int32) then (
    some ((0 : Int32), m))
  else (
    if (209 : Int32) < x0 then (
      some ((0 : Int32), m))
    else (
      some ((1 : Int32), m)))
set_option maxHeartbeats 4000000 in
set_option maxRecDepth 100000 in
theorem pF_X9_isName {E : xE} {d : Nat} {Q : Option Value → xS → Prop} (hd : 1 ≤ d) (out : Int32 × xMem) (hR : Q (some (.int out.1)) (xf E out.2)) (x0 : Int32) (m : xMem) (hf : F_X9_isName x0 m = some out) : xX E mX9_isName d 0 0 0 0 Q 0 [(0, .int (x0))] [] (xf E m) := by
  unfold F_X9_isName at hf
  refine x_iload_n dX9_isName_0 rfl ?_
  refine x_sipush (v := 204) dX9_isName_1 (by decide) ?_
  refine x_icmp_lt 18 dX9_isName_4 (by decide) (fun hc => ?_) (fun hc => ?_)
  · replace hf := x_ift hc hf
    refine x_iconst (v := 0) dX9_isName_18 (by decide) ?_
    exact x_zret dX9_isName_19 rfl (by decide) (by cases hf; exact hR)
  · replace hf := x_iff hc hf
    refine x_iload_n dX9_isName_7 rfl ?_
    refine x_sipush (v := 209) dX9_isName_8 (by decide) ?_
    refine x_icmp_gt 18 dX9_isName_11 (by decide) (fun hc => ?_) (fun hc => ?_)
    · replace hf := x_ift hc hf
      refine x_iconst (v := 0) dX9_isName_18 (by decide) ?_
      exact x_zret dX9_isName_19 rfl (by decide) (by cases hf; exact hR)
    · replace hf := x_iff hc hf
      refine x_iconst (v := 1) dX9_isName_14 (by decide) ?_
      refine x_goto 19 dX9_isName_15 (by decide) ?_
      exact x_zret dX9_isName_19 rfl (by decide) (by cases hf; exact hR)
theorem c_X9_isName {E : xE} {d : Nat} (hd : 1 ≤ d) (x0 : Int32) (m : xMem) (out : Int32 × xMem) (h : F_X9_isName x0 m = some out) : xCi E mX9_isName d [.int x0] m out.1 out.2 :=
  x_enter (by decide +kernel) (Nat.le_of_ble_eq_true rfl) (pF_X9_isName hd (Q := _) out ⟨rfl, rfl⟩ x0 m h)
-- X5_parsePart
def J_X5_parsePart_31 (rj : Int32 → Int32 → xMem → Option (Int32 × xMem)) (x1 : Int32) (x2 : Int32) (x3 : Int32) (m : xMem) : Option (Int32 × xMem) :=
  if x1 < (5 : Int32) then (
    if x2 = (40 : Int32) then (
      (rj ((0 : Int32)) (x1 + (1 : Int32)) (xst m.1 ag_parser fParser_at ((m.1 ag_parser fParser_at) + (1 : Int32)), m.2)).bind fun q_6 => (
      if q_6.1 = 0 then (
        some ((0 : Int32), q_6.2))
      else (
        (F_X5_pass ((41 : Int32)) q_6.2).bind fun q_7 => (
        if q_7.1 = 0 then (
          some ((0 : Int32), q_7.2))
        else (
          some ((1 : Int32), q_7.2))))))
    else (
      if x3 = 0 then (
        if xin (m.1 ag_parser fParser_at) 601 = true then (
        (F_X6_add (m.1 ag_parser_tokens_value (m.1 ag_parser fParser_at).toNatClampNeg) m).bind fun q_4 => (
        some ((1 : Int32), (xst q_4.2.1 ag_parser fParser_at ((q_4.2.1 ag_parser fParser_at) + (1 : Int32)), q_4.2.2))))
        else none)
      else (
        (F_X6_add (-x2) m).bind fun q_5 => (
        some ((1 : Int32), (xst q_5.2.1 ag_parser fParser_at ((q_5.2.1 ag_parser fParser_at) + (1 : Int32)), q_5.2.2))))))
  else (
    (F_X5_refuse ((5 : Int32)) m).bind fun q_8 => (
    if xbb q_8.1 = true then (
    some (q_8.1, q_8.2))
    else none))
def F_X5_parsePart (rj : Int32 → Int32 → xMem → Option (Int32 × xMem)) (x1 : Int32) (m : xMem) : Option (Int32 × xMem) :=
  (F_X5_token m).bind fun q_1 => (
  (F_X9_isName (q_1.1) q_1.2).bind fun q_2 => (
  if q_1.1 = (40 : Int32) then (
    J_X5_parsePart_31 rj (x1) (q_1.1) (q_2.1) q_2.2)
  else (
    if q_1.1 = (2 : Int32) then (
      J_X5_parsePart_31 rj (x1) (q_1.1) (q_2.1) q_2.2)
    else (
      if q_2.1 = 0 then (
        (F_X5_refuse ((1 : Int32)) q_2.2).bind fun q_10 => (
        if xbb q_10.1 = true then (
        some (q_10.1, q_10.2))
        else none))
      else (
        J_X5_parsePart_31 rj (x1) (q_1.1) (q_2.1) q_2.2)))))
set_option maxHeartbeats 4000000 in
set_option maxRecDepth 100000 in
theorem pJ_X5_parsePart_31 {E : xE} {d : Nat} {Q : Option Value → xS → Prop} (hd : 3 ≤ d) (out : Int32 × xMem) (hR : Q (some (.int out.1)) (xf E out.2)) {dr : Nat} (rj : Int32 → Int32 → xMem → Option (Int32 × xMem)) (hrj : ∀ (y1 y2 : Int32) (m : xMem) (out : Int32 × xMem), rj y1 y2 m = some out → xCi E mX5_parseJoined dr [.ref (xB E + 31), .int y1, .int y2] m out.1 out.2) (hdr : dr < d) (x1 : Int32) (x2 : Int32) (x3 : Int32) (m : xMem) (hf : J_X5_parsePart_31 rj x1 x2 x3 m = some out) : xX E mX5_parsePart d 0 0 0 0 Q 31 [(0, .ref (xB E + 31)), (1, .int (x1)), (2, .int (x2)), (3, .int (x3))] [] (xf E m) := by
  unfold J_X5_parsePart_31 at hf
  refine x_iload_n dX5_parsePart_31 rfl ?_
  refine x_iconst (v := 5) dX5_parsePart_32 (by decide) ?_
  refine x_icmp_lt 42 dX5_parsePart_33 (by decide) (fun hc => ?_) (fun hc => ?_)
  · replace hf := x_ift hc hf
    refine x_iload_n dX5_parsePart_42 rfl ?_
    refine x_bipush (v := 40) dX5_parsePart_43 (by decide) ?_
    refine x_icmp_ne 84 dX5_parsePart_45 (by decide) (fun hc => ?_) (fun hc => ?_)
    · replace hf := x_iff hc hf
      refine x_aload_n dX5_parsePart_84 rfl ?_
      refine f_getR (b := 36) dX5_parsePart_85 xcl_5 (by decide) fl_RX5_21 (by decide) sh_31 rfl ?_
      refine x_iload_n dX5_parsePart_88 rfl ?_
      refine x_if_eq 97 dX5_parsePart_89 (by decide) (fun hc => ?_) (fun hc => ?_)
      · replace hf := x_ift hc hf
        refine x_aload_n dX5_parsePart_97 rfl ?_
        refine f_getR (b := 32) dX5_parsePart_98 xcl_5 (by decide) fl_RX5_12 (by decide) sh_31 rfl ?_
        refine f_getR (b := 35) dX5_parsePart_101 xcl_8 (by decide) fl_RX5_50 (by decide) sh_32 rfl ?_
        refine x_aload_n dX5_parsePart_104 rfl ?_
        refine f_getI dX5_parsePart_105 xcl_5 (by decide) fl_RX5_32 (by decide) sh_31 rfl ?_
        have hg_3 := x_gd hf
        replace hf := hg_3.2
        refine f_iald dX5_parsePart_108 (by decide) sh_35 hg_3.1 ?_
        obtain ⟨q_4, hq_4, hf⟩ := Option.bind_eq_some_iff.mp hf
        refine f_cVv mX6_add [.int (m.1 ag_parser_tokens_value (m.1 ag_parser fParser_at).toNatClampNeg)] [] dX5_parsePart_109 cs_RX5_72 ⟨w_730, w_42⟩ (ci := 6) rfl (by decide) sh_36 rfl rfl (Nat.le_of_ble_eq_true rfl) (by omega) (c_X6_add (d := d - 1) (by omega) (m.1 ag_parser_tokens_value (m.1 ag_parser fParser_at).toNatClampNeg) m q_4 hq_4) ?_
        refine x_aload_n dX5_parsePart_112 rfl ?_
        refine x_dup dX5_parsePart_113 rfl ?_
        refine f_getI dX5_parsePart_114 xcl_5 (by decide) fl_RX5_32 (by decide) sh_31 rfl ?_
        refine x_iconst (v := 1) dX5_parsePart_117 (by decide) ?_
        refine x_iadd dX5_parsePart_118 ?_
        refine f_putI dX5_parsePart_119 xcl_5 (by decide) fl_RX5_32 rfl rfl (by decide) sh_31 rfl ?_
        refine x_iconst (v := 1) dX5_parsePart_122 (by decide) ?_
        exact x_zret dX5_parsePart_123 rfl (by decide) (by cases hf; exact hR)
      · replace hf := x_iff hc hf
        refine x_iload_n dX5_parsePart_92 rfl ?_
        refine x_ineg dX5_parsePart_93 ?_
        refine x_goto 109 dX5_parsePart_94 (by decide) ?_
        obtain ⟨q_5, hq_5, hf⟩ := Option.bind_eq_some_iff.mp hf
        refine f_cVv mX6_add [.int (-x2)] [] dX5_parsePart_109 cs_RX5_72 ⟨w_730, w_42⟩ (ci := 6) rfl (by decide) sh_36 rfl rfl (Nat.le_of_ble_eq_true rfl) (by omega) (c_X6_add (d := d - 1) (by omega) (-x2) m q_5 hq_5) ?_
        refine x_aload_n dX5_parsePart_112 rfl ?_
        refine x_dup dX5_parsePart_113 rfl ?_
        refine f_getI dX5_parsePart_114 xcl_5 (by decide) fl_RX5_32 (by decide) sh_31 rfl ?_
        refine x_iconst (v := 1) dX5_parsePart_117 (by decide) ?_
        refine x_iadd dX5_parsePart_118 ?_
        refine f_putI dX5_parsePart_119 xcl_5 (by decide) fl_RX5_32 rfl rfl (by decide) sh_31 rfl ?_
        refine x_iconst (v := 1) dX5_parsePart_122 (by decide) ?_
        exact x_zret dX5_parsePart_123 rfl (by decide) (by cases hf; exact hR)
    · replace hf := x_ift hc hf
      refine x_aload_n dX5_parsePart_48 rfl ?_
      refine x_dup dX5_parsePart_49 rfl ?_
      refine f_getI dX5_parsePart_50 xcl_5 (by decide) fl_RX5_32 (by decide) sh_31 rfl ?_
      refine x_iconst (v := 1) dX5_parsePart_53 (by decide) ?_
      refine x_iadd dX5_parsePart_54 ?_
      refine f_putI dX5_parsePart_55 xcl_5 (by decide) fl_RX5_32 rfl rfl (by decide) sh_31 rfl ?_
      refine x_aload_n dX5_parsePart_58 rfl ?_
      refine x_iconst (v := 0) dX5_parsePart_59 (by decide) ?_
      refine x_iload_n dX5_parsePart_60 rfl ?_
      refine x_iconst (v := 1) dX5_parsePart_61 (by decide) ?_
      refine x_iadd dX5_parsePart_62 ?_
      obtain ⟨q_6, hq_6, hf⟩ := Option.bind_eq_some_iff.mp hf
      refine f_cVi mX5_parseJoined [.int ((0 : Int32)), .int (x1 + (1 : Int32))] [] dX5_parsePart_63 cs_RX5_57 ⟨w_719, w_40⟩ (ci := 5) rfl (by decide) sh_31 rfl rfl (Nat.le_of_ble_eq_true rfl) (by omega) (hrj ((0 : Int32)) (x1 + (1 : Int32)) (xst m.1 ag_parser fParser_at ((m.1 ag_parser fParser_at) + (1 : Int32)), m.2) q_6 hq_6) ?_
      refine x_if_eq 82 dX5_parsePart_66 (by decide) (fun hc => ?_) (fun hc => ?_)
      · replace hf := x_ift hc hf
        refine x_iconst (v := 0) dX5_parsePart_82 (by decide) ?_
        exact x_zret dX5_parsePart_83 rfl (by decide) (by cases hf; exact hR)
      · replace hf := x_iff hc hf
        refine x_aload_n dX5_parsePart_69 rfl ?_
        refine x_bipush (v := 41) dX5_parsePart_70 (by decide) ?_
        obtain ⟨q_7, hq_7, hf⟩ := Option.bind_eq_some_iff.mp hf
        refine f_cVi mX5_pass [.int ((41 : Int32))] [] dX5_parsePart_72 cs_RX5_54 ⟨w_715, w_39⟩ (ci := 5) rfl (by decide) sh_31 rfl rfl (Nat.le_of_ble_eq_true rfl) (by omega) (c_X5_pass (d := d - 1) (by omega) ((41 : Int32)) q_6.2 q_7 hq_7) ?_
        refine x_if_eq 82 dX5_parsePart_75 (by decide) (fun hc => ?_) (fun hc => ?_)
        · replace hf := x_ift hc hf
          refine x_iconst (v := 0) dX5_parsePart_82 (by decide) ?_
          exact x_zret dX5_parsePart_83 rfl (by decide) (by cases hf; exact hR)
        · replace hf := x_iff hc hf
          refine x_iconst (v := 1) dX5_parsePart_78 (by decide) ?_
          refine x_goto 83 dX5_parsePart_79 (by decide) ?_
          exact x_zret dX5_parsePart_83 rfl (by decide) (by cases hf; exact hR)
  · replace hf := x_iff hc hf
    refine x_aload_n dX5_parsePart_36 rfl ?_
    refine x_iconst (v := 5) dX5_parsePart_37 (by decide) ?_
    obtain ⟨q_8, hq_8, hf⟩ := Option.bind_eq_some_iff.mp hf
    refine f_cVi mX5_refuse [.int ((5 : Int32))] [] dX5_parsePart_38 cs_RX5_47 ⟨w_711, w_38⟩ (ci := 5) rfl (by decide) sh_31 rfl rfl (Nat.le_of_ble_eq_true rfl) (by omega) (c_X5_refuse (d := d - 1) (by omega) ((5 : Int32)) m q_8 hq_8) ?_
    have hg_9 := x_gd hf
    replace hf := hg_9.2
    exact x_zret dX5_parsePart_41 rfl (xbb_n hg_9.1) (by cases hf; exact hR)
set_option maxHeartbeats 4000000 in
set_option maxRecDepth 100000 in
theorem pF_X5_parsePart {E : xE} {d : Nat} {Q : Option Value → xS → Prop} (hd : 3 ≤ d) (out : Int32 × xMem) (hR : Q (some (.int out.1)) (xf E out.2)) {dr : Nat} (rj : Int32 → Int32 → xMem → Option (Int32 × xMem)) (hrj : ∀ (y1 y2 : Int32) (m : xMem) (out : Int32 × xMem), rj y1 y2 m = some out → xCi E mX5_parseJoined dr [.ref (xB E + 31), .int y1, .int y2] m out.1 out.2) (hdr : dr < d) (x1 : Int32) (m : xMem) (hf : F_X5_parsePart rj x1 m = some out) : xX E mX5_parsePart d 0 0 0 0 Q 0 [(0, .ref (xB E + 31)), (1, .int (x1))] [] (xf E m) := by
  unfold F_X5_parsePart at hf
  refine x_aload_n dX5_parsePart_0 rfl ?_
  obtain ⟨q_1, hq_1, hf⟩ := Option.bind_eq_some_iff.mp hf
  refine f_cVi mX5_token [] [] dX5_parsePart_1 cs_RX5_39 ⟨w_703, w_36⟩ (ci := 5) rfl (by decide) sh_31 rfl rfl (Nat.le_of_ble_eq_true rfl) (by omega) (c_X5_token (d := d - 1) (by omega) m q_1 hq_1) ?_
  refine x_istore_n (lv' := [(0, .ref (xB E + 31)), (1, .int (x1)), (2, .int (q_1.1))]) dX5_parsePart_4 [1, 2, 0] (by decide) rfl ?_
  refine x_iload_n dX5_parsePart_5 rfl ?_
  obtain ⟨q_2, hq_2, hf⟩ := Option.bind_eq_some_iff.mp hf
  refine f_cSi mX9_isName [.int (q_1.1)] [] dX5_parsePart_6 cs_RX5_75 w_726 rfl rfl (Nat.le_of_ble_eq_true rfl) (by omega) (c_X9_isName (d := d - 1) (by omega) (q_1.1) q_1.2 q_2 hq_2) ?_
  refine x_istore_n (lv' := [(0, .ref (xB E + 31)), (1, .int (x1)), (2, .int (q_1.1)), (3, .int (q_2.1))]) dX5_parsePart_9 [1, 2, 3, 0] (by decide) rfl ?_
  refine x_iload_n dX5_parsePart_10 rfl ?_
  refine x_bipush (v := 40) dX5_parsePart_11 (by decide) ?_
  refine x_icmp_eq 31 dX5_parsePart_13 (by decide) (fun hc => ?_) (fun hc => ?_)
  · replace hf := x_ift hc hf
    exact pJ_X5_parsePart_31 hd out hR rj hrj hdr _ _ _ _ hf
  · replace hf := x_iff hc hf
    refine x_iload_n dX5_parsePart_16 rfl ?_
    refine x_iconst (v := 2) dX5_parsePart_17 (by decide) ?_
    refine x_icmp_eq 31 dX5_parsePart_18 (by decide) (fun hc => ?_) (fun hc => ?_)
    · replace hf := x_ift hc hf
      exact pJ_X5_parsePart_31 hd out hR rj hrj hdr _ _ _ _ hf
    · replace hf := x_iff hc hf
      refine x_iload_n dX5_parsePart_21 rfl ?_
      refine x_if_ne 31 dX5_parsePart_22 (by decide) (fun hc => ?_) (fun hc => ?_)
      · replace hf := x_iff hc hf
        exact pJ_X5_parsePart_31 hd out hR rj hrj hdr _ _ _ _ hf
      · replace hf := x_ift hc hf
        refine x_aload_n dX5_parsePart_25 rfl ?_
        refine x_iconst (v := 1) dX5_parsePart_26 (by decide) ?_
        obtain ⟨q_10, hq_10, hf⟩ := Option.bind_eq_some_iff.mp hf
        refine f_cVi mX5_refuse [.int ((1 : Int32))] [] dX5_parsePart_27 cs_RX5_47 ⟨w_711, w_38⟩ (ci := 5) rfl (by decide) sh_31 rfl rfl (Nat.le_of_ble_eq_true rfl) (by omega) (c_X5_refuse (d := d - 1) (by omega) ((1 : Int32)) q_2.2 q_10 hq_10) ?_
        have hg_11 := x_gd hf
        replace hf := hg_11.2
        exact x_zret dX5_parsePart_30 rfl (xbb_n hg_11.1) (by cases hf; exact hR)
theorem c_X5_parsePart {E : xE} {d : Nat} (hd : 3 ≤ d) {dr : Nat} (rj : Int32 → Int32 → xMem → Option (Int32 × xMem)) (hrj : ∀ (y1 y2 : Int32) (m : xMem) (out : Int32 × xMem), rj y1 y2 m = some out → xCi E mX5_parseJoined dr [.ref (xB E + 31), .int y1, .int y2] m out.1 out.2) (hdr : dr < d) (x1 : Int32) (m : xMem) (out : Int32 × xMem) (h : F_X5_parsePart rj x1 m = some out) : xCi E mX5_parsePart d [.ref (xB E + 31), .int x1] m out.1 out.2 :=
  x_enter (by decide +kernel) (Nat.le_of_ble_eq_true rfl) (pF_X5_parsePart hd (Q := _) out ⟨rfl, rfl⟩ rj hrj hdr x1 m h)
-- X5_parseJoinedB
def L_X5_parseJoinedB_40 (rj : Int32 → Int32 → xMem → Option (Int32 × xMem)) (x1 : Int32) (x2 : Int32) (x3 : Int32) : Nat → Int32 → xMem → Option (Int32 × xMem)
  | 0, _, _ => none
  | fk + 1, x4, m =>
    if x3 ≤ x4 then (
      some ((1 : Int32), m))
    else (
      (F_X5_token m).bind fun q_2 => (
      (F_X5_joins (q_2.1) q_2.2).bind fun q_3 => (
      if q_3.1 = x1 then (
        (F_X5_token q_3.2).bind fun q_4 => (
        (rj (x1 + (1 : Int32)) (x2) (xst q_4.2.1 ag_parser fParser_at ((q_4.2.1 ag_parser fParser_at) + (1 : Int32)), q_4.2.2)).bind fun q_5 => (
        if q_5.1 = 0 then (
          some ((0 : Int32), q_5.2))
        else (
          (F_X6_add (-q_4.1) q_5.2).bind fun q_6 => (
          L_X5_parseJoinedB_40 rj (x1) (x2) (x3) fk (x4 + 1) q_6.2)))))
      else (
        some ((1 : Int32), q_3.2)))))
def J_X5_parseJoinedB_36 (rj : Int32 → Int32 → xMem → Option (Int32 × xMem)) (x1 : Int32) (x2 : Int32) (s0 : Int32) (m : xMem) : Option (Int32 × xMem) :=
  L_X5_parseJoinedB_40 rj (x1) (x2) (s0) xfuel ((0 : Int32)) m
def F_X5_parseJoinedB (rj : Int32 → Int32 → xMem → Option (Int32 × xMem)) (x1 : Int32) (x2 : Int32) (m : xMem) : Option (Int32 × xMem) :=
  if x1 ≤ (2 : Int32) then (
    (rj (x1 + (1 : Int32)) (x2) m).bind fun q_1 => (
    if q_1.1 = 0 then (
      some ((0 : Int32), q_1.2))
    else (
      if x1 = (1 : Int32) then (
        J_X5_parseJoinedB_36 rj (x1) (x2) ((1 : Int32)) q_1.2)
      else (
        J_X5_parseJoinedB_36 rj (x1) (x2) ((600 : Int32)) q_1.2))))
  else (
    (F_X5_parsePart rj (x2) m).bind fun q_7 => (
    if xbb q_7.1 = true then (
    some (q_7.1, q_7.2))
    else none))
set_option maxHeartbeats 4000000 in
set_option maxRecDepth 100000 in
theorem pL_X5_parseJoinedB_40 {E : xE} {d : Nat} {Q : Option Value → xS → Prop} (hd : 4 ≤ d) (out : Int32 × xMem) (hR : Q (some (.int out.1)) (xf E out.2)) {dr : Nat} (rj : Int32 → Int32 → xMem → Option (Int32 × xMem)) (hrj : ∀ (y1 y2 : Int32) (m : xMem) (out : Int32 × xMem), rj y1 y2 m = some out → xCi E mX5_parseJoined dr [.ref (xB E + 31), .int y1, .int y2] m out.1 out.2) (hdr : dr + 1 < d) (x1 : Int32) (x2 : Int32) (x3 : Int32) : ∀ (fk : Nat) (x4 : Int32) (m : xMem), L_X5_parseJoinedB_40 rj x1 x2 x3 fk x4 m = some out → xX E mX5_parseJoined d 0 0 0 0 Q 40 [(0, .ref (xB E + 31)), (1, .int (x1)), (2, .int (x2)), (3, .int (x3)), (4, .int (x4))] [] (xf E m) := by
  intro fk
  induction fk with
  | zero => intro x4 m hf; cases hf
  | succ fk ih =>
    intro x4 m hf
    rw [L_X5_parseJoinedB_40] at hf
    refine x_iload dX5_parseJoined_40 rfl ?_
    refine x_iload_n dX5_parseJoined_42 rfl ?_
    refine x_icmp_ge 102 dX5_parseJoined_43 (by decide) (fun hc => ?_) (fun hc => ?_)
    · replace hf := x_ift hc hf
      refine x_iconst (v := 1) dX5_parseJoined_102 (by decide) ?_
      exact x_zret dX5_parseJoined_103 rfl (by decide) (by cases hf; exact hR)
    · replace hf := x_iff hc hf
      refine x_aload_n dX5_parseJoined_46 rfl ?_
      obtain ⟨q_2, hq_2, hf⟩ := Option.bind_eq_some_iff.mp hf
      refine f_cVi mX5_token [] [] dX5_parseJoined_47 cs_RX5_39 ⟨w_703, w_36⟩ (ci := 5) rfl (by decide) sh_31 rfl rfl (Nat.le_of_ble_eq_true rfl) (by omega) (c_X5_token (d := d - 1) (by omega) m q_2 hq_2) ?_
      obtain ⟨q_3, hq_3, hf⟩ := Option.bind_eq_some_iff.mp hf
      refine f_cSi mX5_joins [.int (q_2.1)] [] dX5_parseJoined_50 cs_RX5_68 w_733 rfl rfl (Nat.le_of_ble_eq_true rfl) (by omega) (c_X5_joins (d := d - 1) (by omega) (q_2.1) q_2.2 q_3 hq_3) ?_
      refine x_iload_n dX5_parseJoined_53 rfl ?_
      refine x_icmp_ne 102 dX5_parseJoined_54 (by decide) (fun hc => ?_) (fun hc => ?_)
      · replace hf := x_iff hc hf
        refine x_iconst (v := 1) dX5_parseJoined_102 (by decide) ?_
        exact x_zret dX5_parseJoined_103 rfl (by decide) (by cases hf; exact hR)
      · replace hf := x_ift hc hf
        refine x_aload_n dX5_parseJoined_57 rfl ?_
        obtain ⟨q_4, hq_4, hf⟩ := Option.bind_eq_some_iff.mp hf
        refine f_cVi mX5_token [] [] dX5_parseJoined_58 cs_RX5_39 ⟨w_703, w_36⟩ (ci := 5) rfl (by decide) sh_31 rfl rfl (Nat.le_of_ble_eq_true rfl) (by omega) (c_X5_token (d := d - 1) (by omega) q_3.2 q_4 hq_4) ?_
        refine x_istore (lv' := [(0, .ref (xB E + 31)), (1, .int (x1)), (2, .int (x2)), (3, .int (x3)), (4, .int (x4)), (5, .int (q_4.1))]) dX5_parseJoined_61 [1, 2, 3, 4, 5, 0] (by decide) rfl ?_
        refine x_aload_n dX5_parseJoined_63 rfl ?_
        refine x_dup dX5_parseJoined_64 rfl ?_
        refine f_getI dX5_parseJoined_65 xcl_5 (by decide) fl_RX5_32 (by decide) sh_31 rfl ?_
        refine x_iconst (v := 1) dX5_parseJoined_68 (by decide) ?_
        refine x_iadd dX5_parseJoined_69 ?_
        refine f_putI dX5_parseJoined_70 xcl_5 (by decide) fl_RX5_32 rfl rfl (by decide) sh_31 rfl ?_
        refine x_aload_n dX5_parseJoined_73 rfl ?_
        refine x_iload_n dX5_parseJoined_74 rfl ?_
        refine x_iconst (v := 1) dX5_parseJoined_75 (by decide) ?_
        refine x_iadd dX5_parseJoined_76 ?_
        refine x_iload_n dX5_parseJoined_77 rfl ?_
        obtain ⟨q_5, hq_5, hf⟩ := Option.bind_eq_some_iff.mp hf
        refine f_cVi mX5_parseJoined [.int (x1 + (1 : Int32)), .int (x2)] [] dX5_parseJoined_78 cs_RX5_57 ⟨w_719, w_40⟩ (ci := 5) rfl (by decide) sh_31 rfl rfl (Nat.le_of_ble_eq_true rfl) (by omega) (hrj (x1 + (1 : Int32)) (x2) (xst q_4.2.1 ag_parser fParser_at ((q_4.2.1 ag_parser fParser_at) + (1 : Int32)), q_4.2.2) q_5 hq_5) ?_
        refine x_if_ne 86 dX5_parseJoined_81 (by decide) (fun hc => ?_) (fun hc => ?_)
        · replace hf := x_iff hc hf
          refine x_aload_n dX5_parseJoined_86 rfl ?_
          refine f_getR (b := 36) dX5_parseJoined_87 xcl_5 (by decide) fl_RX5_21 (by decide) sh_31 rfl ?_
          refine x_iload dX5_parseJoined_90 rfl ?_
          refine x_ineg dX5_parseJoined_92 ?_
          obtain ⟨q_6, hq_6, hf⟩ := Option.bind_eq_some_iff.mp hf
          refine f_cVv mX6_add [.int (-q_4.1)] [] dX5_parseJoined_93 cs_RX5_72 ⟨w_730, w_42⟩ (ci := 6) rfl (by decide) sh_36 rfl rfl (Nat.le_of_ble_eq_true rfl) (by omega) (c_X6_add (d := d - 1) (by omega) (-q_4.1) q_5.2 q_6 hq_6) ?_
          refine x_iinc (v := x4 + 1) (lv' := [(0, .ref (xB E + 31)), (1, .int (x1)), (2, .int (x2)), (3, .int (x3)), (4, .int (x4 + 1))]) dX5_parseJoined_96 4 [1, 2, 3, 4, 0] rfl rfl (by decide) rfl ?_
          refine x_goto 40 dX5_parseJoined_99 (by decide) ?_
          exact ih _ _ hf
        · replace hf := x_ift hc hf
          refine x_iconst (v := 0) dX5_parseJoined_84 (by decide) ?_
          exact x_zret dX5_parseJoined_85 rfl (by decide) (by cases hf; exact hR)
set_option maxHeartbeats 4000000 in
set_option maxRecDepth 100000 in
theorem pJ_X5_parseJoinedB_36 {E : xE} {d : Nat} {Q : Option Value → xS → Prop} (hd : 4 ≤ d) (out : Int32 × xMem) (hR : Q (some (.int out.1)) (xf E out.2)) {dr : Nat} (rj : Int32 → Int32 → xMem → Option (Int32 × xMem)) (hrj : ∀ (y1 y2 : Int32) (m : xMem) (out : Int32 × xMem), rj y1 y2 m = some out → xCi E mX5_parseJoined dr [.ref (xB E + 31), .int y1, .int y2] m out.1 out.2) (hdr : dr + 1 < d) (x1 : Int32) (x2 : Int32) (s0 : Int32) (m : xMem) (hf : J_X5_parseJoinedB_36 rj x1 x2 s0 m = some out) : xX E mX5_parseJoined d 0 0 0 0 Q 36 [(0, .ref (xB E + 31)), (1, .int (x1)), (2, .int (x2))] [.int (s0)] (xf E m) := by
  unfold J_X5_parseJoinedB_36 at hf
  refine x_istore_n (lv' := [(0, .ref (xB E + 31)), (1, .int (x1)), (2, .int (x2)), (3, .int (s0))]) dX5_parseJoined_36 [1, 2, 3, 0] (by decide) rfl ?_
  refine x_iconst (v := 0) dX5_parseJoined_37 (by decide) ?_
  refine x_istore (lv' := [(0, .ref (xB E + 31)), (1, .int (x1)), (2, .int (x2)), (3, .int (s0)), (4, .int ((0 : Int32)))]) dX5_parseJoined_38 [1, 2, 3, 4, 0] (by decide) rfl ?_
  refine pL_X5_parseJoinedB_40 hd out hR rj hrj hdr _ _ _ xfuel _ _ hf
set_option maxHeartbeats 4000000 in
set_option maxRecDepth 100000 in
theorem pF_X5_parseJoinedB {E : xE} {d : Nat} {Q : Option Value → xS → Prop} (hd : 4 ≤ d) (out : Int32 × xMem) (hR : Q (some (.int out.1)) (xf E out.2)) {dr : Nat} (rj : Int32 → Int32 → xMem → Option (Int32 × xMem)) (hrj : ∀ (y1 y2 : Int32) (m : xMem) (out : Int32 × xMem), rj y1 y2 m = some out → xCi E mX5_parseJoined dr [.ref (xB E + 31), .int y1, .int y2] m out.1 out.2) (hdr : dr + 1 < d) (x1 : Int32) (x2 : Int32) (m : xMem) (hf : F_X5_parseJoinedB rj x1 x2 m = some out) : xX E mX5_parseJoined d 0 0 0 0 Q 0 [(0, .ref (xB E + 31)), (1, .int (x1)), (2, .int (x2))] [] (xf E m) := by
  unfold F_X5_parseJoinedB at hf
  refine x_iload_n dX5_parseJoined_0 rfl ?_
  refine x_iconst (v := 2) dX5_parseJoined_1 (by decide) ?_
  refine x_icmp_le 11 dX5_parseJoined_2 (by decide) (fun hc => ?_) (fun hc => ?_)
  · replace hf := x_ift hc hf
    refine x_aload_n dX5_parseJoined_11 rfl ?_
    refine x_iload_n dX5_parseJoined_12 rfl ?_
    refine x_iconst (v := 1) dX5_parseJoined_13 (by decide) ?_
    refine x_iadd dX5_parseJoined_14 ?_
    refine x_iload_n dX5_parseJoined_15 rfl ?_
    obtain ⟨q_1, hq_1, hf⟩ := Option.bind_eq_some_iff.mp hf
    refine f_cVi mX5_parseJoined [.int (x1 + (1 : Int32)), .int (x2)] [] dX5_parseJoined_16 cs_RX5_57 ⟨w_719, w_40⟩ (ci := 5) rfl (by decide) sh_31 rfl rfl (Nat.le_of_ble_eq_true rfl) (by omega) (hrj (x1 + (1 : Int32)) (x2) m q_1 hq_1) ?_
    refine x_if_ne 24 dX5_parseJoined_19 (by decide) (fun hc => ?_) (fun hc => ?_)
    · replace hf := x_iff hc hf
      refine x_iload_n dX5_parseJoined_24 rfl ?_
      refine x_iconst (v := 1) dX5_parseJoined_25 (by decide) ?_
      refine x_icmp_ne 33 dX5_parseJoined_26 (by decide) (fun hc => ?_) (fun hc => ?_)
      · replace hf := x_iff hc hf
        refine x_sipush (v := 600) dX5_parseJoined_33 (by decide) ?_
        exact pJ_X5_parseJoinedB_36 hd out hR rj hrj hdr _ _ _ _ hf
      · replace hf := x_ift hc hf
        refine x_iconst (v := 1) dX5_parseJoined_29 (by decide) ?_
        refine x_goto 36 dX5_parseJoined_30 (by decide) ?_
        exact pJ_X5_parseJoinedB_36 hd out hR rj hrj hdr _ _ _ _ hf
    · replace hf := x_ift hc hf
      refine x_iconst (v := 0) dX5_parseJoined_22 (by decide) ?_
      exact x_zret dX5_parseJoined_23 rfl (by decide) (by cases hf; exact hR)
  · replace hf := x_iff hc hf
    refine x_aload_n dX5_parseJoined_5 rfl ?_
    refine x_iload_n dX5_parseJoined_6 rfl ?_
    obtain ⟨q_7, hq_7, hf⟩ := Option.bind_eq_some_iff.mp hf
    refine f_cVi mX5_parsePart [.int (x2)] [] dX5_parseJoined_7 cs_RX5_65 ⟨w_723, w_41⟩ (ci := 5) rfl (by decide) sh_31 rfl rfl (Nat.le_of_ble_eq_true rfl) (by omega) (c_X5_parsePart (d := d - 1) (by omega) rj hrj (by omega) (x2) m q_7 hq_7) ?_
    have hg_8 := x_gd hf
    replace hf := hg_8.2
    exact x_zret dX5_parseJoined_10 rfl (xbb_n hg_8.1) (by cases hf; exact hR)
theorem c_X5_parseJoinedB {E : xE} {d : Nat} (hd : 4 ≤ d) {dr : Nat} (rj : Int32 → Int32 → xMem → Option (Int32 × xMem)) (hrj : ∀ (y1 y2 : Int32) (m : xMem) (out : Int32 × xMem), rj y1 y2 m = some out → xCi E mX5_parseJoined dr [.ref (xB E + 31), .int y1, .int y2] m out.1 out.2) (hdr : dr + 1 < d) (x1 : Int32) (x2 : Int32) (m : xMem) (out : Int32 × xMem) (h : F_X5_parseJoinedB rj x1 x2 m = some out) : xCi E mX5_parseJoined d [.ref (xB E + 31), .int x1, .int x2] m out.1 out.2 :=
  x_enter (by decide +kernel) (Nat.le_of_ble_eq_true rfl) (pF_X5_parseJoinedB hd (Q := _) out ⟨rfl, rfl⟩ rj hrj hdr x1 x2 m h)
def F_X5_parseJoined : Nat → Int32 → Int32 → xMem → Option (Int32 × xMem)
  | 0 => fun _ _ _ => none
  | fk + 1 => F_X5_parseJoinedB (F_X5_parseJoined fk)
theorem c_X5_parseJoined {E : xE} : ∀ (fk d : Nat) (_ : 2 * fk + 4 ≤ d) (x1 : Int32) (x2 : Int32) (m : xMem) (out : Int32 × xMem) (_ : F_X5_parseJoined fk x1 x2 m = some out), xCi E mX5_parseJoined d [.ref (xB E + 31), .int x1, .int x2] m out.1 out.2 := by
  intro fk
  induction fk with
  | zero => intro d hd x1 x2 m out h; cases h
  | succ fk ih =>
    intro d hd x1 x2 m out h
    exact c_X5_parseJoinedB (d := d) (dr := d - 2) (by omega) _ (fun y1 y2 m out h => ih (d - 2) (by omega) y1 y2 m out h) (by omega) x1 x2 m out h
-- X6_endLine
def F_X6_endLine (x1 : Int32) (m : xMem) : Option (Int32 × xMem) :=
  if (16 : Int32) ≤ (m.1 ag_parser_draft fScript_lines) then (
    some (0, m))
  else (
    if xin (m.1 ag_parser_draft fScript_lines) 16 = true then (
    if xin ((xst m.1 ag_parser_draft_endOf (m.1 ag_parser_draft fScript_lines).toNatClampNeg (m.1 ag_parser_draft fScript_size)) ag_parser_draft fScript_lines) 16 = true then (
    some (0, (xst (xst (xst m.1 ag_parser_draft_endOf (m.1 ag_parser_draft fScript_lines).toNatClampNeg (m.1 ag_parser_draft fScript_size)) ag_parser_draft_starsIn ((xst m.1 ag_parser_draft_endOf (m.1 ag_parser_draft fScript_lines).toNatClampNeg (m.1 ag_parser_draft fScript_size)) ag_parser_draft fScript_lines).toNatClampNeg x1) ag_parser_draft fScript_lines (((xst (xst m.1 ag_parser_draft_endOf (m.1 ag_parser_draft fScript_lines).toNatClampNeg (m.1 ag_parser_draft fScript_size)) ag_parser_draft_starsIn ((xst m.1 ag_parser_draft_endOf (m.1 ag_parser_draft fScript_lines).toNatClampNeg (m.1 ag_parser_draft fScript_size)) ag_parser_draft fScript_lines).toNatClampNeg x1) ag_parser_draft fScript_lines) + (1 : Int32)), m.2)))
    else none)
    else none)
set_option maxHeartbeats 4000000 in
set_option maxRecDepth 100000 in
theorem pF_X6_endLine {E : xE} {d : Nat} {Q : Option Value → xS → Prop} (hd : 1 ≤ d) (out : Int32 × xMem) (hR : Q none (xf E out.2)) (x1 : Int32) (m : xMem) (hf : F_X6_endLine x1 m = some out) : xX E mX6_endLine d 0 0 0 0 Q 0 [(0, .ref (xB E + 36)), (1, .int (x1))] [] (xf E m) := by
  unfold F_X6_endLine at hf
  refine x_aload_n dX6_endLine_0 rfl ?_
  refine f_getI dX6_endLine_1 xcl_6 (by decide) fl_RX6_28 (by decide) sh_36 rfl ?_
  refine x_bipush (v := 16) dX6_endLine_4 (by decide) ?_
  refine x_icmp_ge 42 dX6_endLine_6 (by decide) (fun hc => ?_) (fun hc => ?_)
  · replace hf := x_ift hc hf
    exact x_vret dX6_endLine_42 rfl (by cases hf; exact hR)
  · replace hf := x_iff hc hf
    refine x_aload_n dX6_endLine_9 rfl ?_
    refine f_getR (b := 38) dX6_endLine_10 xcl_6 (by decide) fl_RX6_15 (by decide) sh_36 rfl ?_
    refine x_aload_n dX6_endLine_13 rfl ?_
    refine f_getI dX6_endLine_14 xcl_6 (by decide) fl_RX6_28 (by decide) sh_36 rfl ?_
    refine x_aload_n dX6_endLine_17 rfl ?_
    refine f_getI dX6_endLine_18 xcl_6 (by decide) fl_RX6_24 (by decide) sh_36 rfl ?_
    have hg_1 := x_gd hf
    replace hf := hg_1.2
    refine f_iast dX6_endLine_21 (by decide) sh_38 hg_1.1 ?_
    refine x_aload_n dX6_endLine_22 rfl ?_
    refine f_getR (b := 39) dX6_endLine_23 xcl_6 (by decide) fl_RX6_18 (by decide) sh_36 rfl ?_
    refine x_aload_n dX6_endLine_26 rfl ?_
    refine f_getI dX6_endLine_27 xcl_6 (by decide) fl_RX6_28 (by decide) sh_36 rfl ?_
    refine x_iload_n dX6_endLine_30 rfl ?_
    have hg_2 := x_gd hf
    replace hf := hg_2.2
    refine f_iast dX6_endLine_31 (by decide) sh_39 hg_2.1 ?_
    refine x_aload_n dX6_endLine_32 rfl ?_
    refine x_dup dX6_endLine_33 rfl ?_
    refine f_getI dX6_endLine_34 xcl_6 (by decide) fl_RX6_28 (by decide) sh_36 rfl ?_
    refine x_iconst (v := 1) dX6_endLine_37 (by decide) ?_
    refine x_iadd dX6_endLine_38 ?_
    refine f_putI dX6_endLine_39 xcl_6 (by decide) fl_RX6_28 rfl rfl (by decide) sh_36 rfl ?_
    exact x_vret dX6_endLine_42 rfl (by cases hf; exact hR)
theorem c_X6_endLine {E : xE} {d : Nat} (hd : 1 ≤ d) (x1 : Int32) (m : xMem) (out : Int32 × xMem) (h : F_X6_endLine x1 m = some out) : xCv E mX6_endLine d [.ref (xB E + 36), .int x1] m out.2 :=
  x_enter (by decide +kernel) (Nat.le_of_ble_eq_true rfl) (pF_X6_endLine hd (Q := _) out ⟨rfl, rfl⟩ x1 m h)
-- X5_parseLine
def F_X5_parseLine (x1 : Int32) (m : xMem) : Option (Int32 × xMem) :=
  (F_X5_token m).bind fun q_1 => (
  if q_1.1 = (201 : Int32) then (
    if x1 < (16 : Int32) then (
      (F_X5_token (xst q_1.2.1 ag_parser fParser_at ((q_1.2.1 ag_parser fParser_at) + (1 : Int32)), q_1.2.2)).bind fun q_2 => (
      if q_2.1 = (2 : Int32) then (
        if xin (q_2.2.1 ag_parser fParser_at) 601 = true then (
        if (q_2.2.1 ag_parser_tokens_value (q_2.2.1 ag_parser fParser_at).toNatClampNeg) ≤ (5 : Int32) then (
          (F_X5_pass ((202 : Int32)) (xst q_2.2.1 ag_parser fParser_at ((q_2.2.1 ag_parser fParser_at) + (1 : Int32)), q_2.2.2)).bind fun q_4 => (
          if q_4.1 = 0 then (
            some ((0 : Int32), q_4.2))
          else (
            (F_X5_parseJoined 40 ((0 : Int32)) ((0 : Int32)) q_4.2).bind fun q_5 => (
            if q_5.1 = 0 then (
              some ((0 : Int32), q_5.2))
            else (
              (F_X5_pass ((59 : Int32)) q_5.2).bind fun q_6 => (
              if q_6.1 = 0 then (
                some ((0 : Int32), q_6.2))
              else (
                (F_X6_endLine (q_2.2.1 ag_parser_tokens_value (q_2.2.1 ag_parser fParser_at).toNatClampNeg) q_6.2).bind fun q_7 => (
                some ((1 : Int32), q_7.2)))))))))
        else (
          (F_X5_refuse ((4 : Int32)) q_2.2).bind fun q_8 => (
          if xbb q_8.1 = true then (
          some (q_8.1, q_8.2))
          else none)))
        else none)
      else (
        (F_X5_refuse ((1 : Int32)) q_2.2).bind fun q_10 => (
        if xbb q_10.1 = true then (
        some (q_10.1, q_10.2))
        else none))))
    else (
      (F_X5_refuse ((5 : Int32)) q_1.2).bind fun q_12 => (
      if xbb q_12.1 = true then (
      some (q_12.1, q_12.2))
      else none)))
  else (
    (F_X5_refuse ((1 : Int32)) q_1.2).bind fun q_14 => (
    if xbb q_14.1 = true then (
    some (q_14.1, q_14.2))
    else none)))
set_option maxHeartbeats 4000000 in
set_option maxRecDepth 100000 in
theorem pF_X5_parseLine {E : xE} {d : Nat} {Q : Option Value → xS → Prop} (hd : 85 ≤ d) (out : Int32 × xMem) (hR : Q (some (.int out.1)) (xf E out.2)) (x1 : Int32) (m : xMem) (hf : F_X5_parseLine x1 m = some out) : xX E mX5_parseLine d 0 0 0 0 Q 0 [(0, .ref (xB E + 31)), (1, .int (x1))] [] (xf E m) := by
  unfold F_X5_parseLine at hf
  refine x_aload_n dX5_parseLine_0 rfl ?_
  obtain ⟨q_1, hq_1, hf⟩ := Option.bind_eq_some_iff.mp hf
  refine f_cVi mX5_token [] [] dX5_parseLine_1 cs_RX5_39 ⟨w_703, w_36⟩ (ci := 5) rfl (by decide) sh_31 rfl rfl (Nat.le_of_ble_eq_true rfl) (by omega) (c_X5_token (d := d - 1) (by omega) m q_1 hq_1) ?_
  refine x_sipush (v := 201) dX5_parseLine_4 (by decide) ?_
  refine x_icmp_eq 16 dX5_parseLine_7 (by decide) (fun hc => ?_) (fun hc => ?_)
  · replace hf := x_ift hc hf
    refine x_iload_n dX5_parseLine_16 rfl ?_
    refine x_bipush (v := 16) dX5_parseLine_17 (by decide) ?_
    refine x_icmp_lt 28 dX5_parseLine_19 (by decide) (fun hc => ?_) (fun hc => ?_)
    · replace hf := x_ift hc hf
      refine x_aload_n dX5_parseLine_28 rfl ?_
      refine x_dup dX5_parseLine_29 rfl ?_
      refine f_getI dX5_parseLine_30 xcl_5 (by decide) fl_RX5_32 (by decide) sh_31 rfl ?_
      refine x_iconst (v := 1) dX5_parseLine_33 (by decide) ?_
      refine x_iadd dX5_parseLine_34 ?_
      refine f_putI dX5_parseLine_35 xcl_5 (by decide) fl_RX5_32 rfl rfl (by decide) sh_31 rfl ?_
      refine x_aload_n dX5_parseLine_38 rfl ?_
      obtain ⟨q_2, hq_2, hf⟩ := Option.bind_eq_some_iff.mp hf
      refine f_cVi mX5_token [] [] dX5_parseLine_39 cs_RX5_39 ⟨w_703, w_36⟩ (ci := 5) rfl (by decide) sh_31 rfl rfl (Nat.le_of_ble_eq_true rfl) (by omega) (c_X5_token (d := d - 1) (by omega) (xst q_1.2.1 ag_parser fParser_at ((q_1.2.1 ag_parser fParser_at) + (1 : Int32)), q_1.2.2) q_2 hq_2) ?_
      refine x_iconst (v := 2) dX5_parseLine_42 (by decide) ?_
      refine x_icmp_eq 52 dX5_parseLine_43 (by decide) (fun hc => ?_) (fun hc => ?_)
      · replace hf := x_ift hc hf
        refine x_aload_n dX5_parseLine_52 rfl ?_
        refine f_getR (b := 32) dX5_parseLine_53 xcl_5 (by decide) fl_RX5_12 (by decide) sh_31 rfl ?_
        refine f_getR (b := 35) dX5_parseLine_56 xcl_8 (by decide) fl_RX5_50 (by decide) sh_32 rfl ?_
        refine x_aload_n dX5_parseLine_59 rfl ?_
        refine f_getI dX5_parseLine_60 xcl_5 (by decide) fl_RX5_32 (by decide) sh_31 rfl ?_
        have hg_3 := x_gd hf
        replace hf := hg_3.2
        refine f_iald dX5_parseLine_63 (by decide) sh_35 hg_3.1 ?_
        refine x_istore_n (lv' := [(0, .ref (xB E + 31)), (2, .int (q_2.2.1 ag_parser_tokens_value (q_2.2.1 ag_parser fParser_at).toNatClampNeg))]) dX5_parseLine_64 [1, 0] (by decide) rfl ?_
        refine x_iload_n dX5_parseLine_65 rfl ?_
        refine x_iconst (v := 5) dX5_parseLine_66 (by decide) ?_
        refine x_icmp_le 76 dX5_parseLine_67 (by decide) (fun hc => ?_) (fun hc => ?_)
        · replace hf := x_ift hc hf
          refine x_aload_n dX5_parseLine_76 rfl ?_
          refine x_dup dX5_parseLine_77 rfl ?_
          refine f_getI dX5_parseLine_78 xcl_5 (by decide) fl_RX5_32 (by decide) sh_31 rfl ?_
          refine x_iconst (v := 1) dX5_parseLine_81 (by decide) ?_
          refine x_iadd dX5_parseLine_82 ?_
          refine f_putI dX5_parseLine_83 xcl_5 (by decide) fl_RX5_32 rfl rfl (by decide) sh_31 rfl ?_
          refine x_aload_n dX5_parseLine_86 rfl ?_
          refine x_sipush (v := 202) dX5_parseLine_87 (by decide) ?_
          obtain ⟨q_4, hq_4, hf⟩ := Option.bind_eq_some_iff.mp hf
          refine f_cVi mX5_pass [.int ((202 : Int32))] [] dX5_parseLine_90 cs_RX5_54 ⟨w_715, w_39⟩ (ci := 5) rfl (by decide) sh_31 rfl rfl (Nat.le_of_ble_eq_true rfl) (by omega) (c_X5_pass (d := d - 1) (by omega) ((202 : Int32)) (xst q_2.2.1 ag_parser fParser_at ((q_2.2.1 ag_parser fParser_at) + (1 : Int32)), q_2.2.2) q_4 hq_4) ?_
          refine x_if_eq 114 dX5_parseLine_93 (by decide) (fun hc => ?_) (fun hc => ?_)
          · replace hf := x_ift hc hf
            refine x_iconst (v := 0) dX5_parseLine_114 (by decide) ?_
            exact x_zret dX5_parseLine_115 rfl (by decide) (by cases hf; exact hR)
          · replace hf := x_iff hc hf
            refine x_aload_n dX5_parseLine_96 rfl ?_
            refine x_iconst (v := 0) dX5_parseLine_97 (by decide) ?_
            refine x_iconst (v := 0) dX5_parseLine_98 (by decide) ?_
            obtain ⟨q_5, hq_5, hf⟩ := Option.bind_eq_some_iff.mp hf
            refine f_cVi mX5_parseJoined [.int ((0 : Int32)), .int ((0 : Int32))] [] dX5_parseLine_99 cs_RX5_57 ⟨w_719, w_40⟩ (ci := 5) rfl (by decide) sh_31 rfl rfl (Nat.le_of_ble_eq_true rfl) (by omega) (c_X5_parseJoined 40 (d - 1) (by omega) ((0 : Int32)) ((0 : Int32)) q_4.2 q_5 hq_5) ?_
            refine x_if_eq 114 dX5_parseLine_102 (by decide) (fun hc => ?_) (fun hc => ?_)
            · replace hf := x_ift hc hf
              refine x_iconst (v := 0) dX5_parseLine_114 (by decide) ?_
              exact x_zret dX5_parseLine_115 rfl (by decide) (by cases hf; exact hR)
            · replace hf := x_iff hc hf
              refine x_aload_n dX5_parseLine_105 rfl ?_
              refine x_bipush (v := 59) dX5_parseLine_106 (by decide) ?_
              obtain ⟨q_6, hq_6, hf⟩ := Option.bind_eq_some_iff.mp hf
              refine f_cVi mX5_pass [.int ((59 : Int32))] [] dX5_parseLine_108 cs_RX5_54 ⟨w_715, w_39⟩ (ci := 5) rfl (by decide) sh_31 rfl rfl (Nat.le_of_ble_eq_true rfl) (by omega) (c_X5_pass (d := d - 1) (by omega) ((59 : Int32)) q_5.2 q_6 hq_6) ?_
              refine x_if_ne 116 dX5_parseLine_111 (by decide) (fun hc => ?_) (fun hc => ?_)
              · replace hf := x_iff hc hf
                refine x_aload_n dX5_parseLine_116 rfl ?_
                refine f_getR (b := 36) dX5_parseLine_117 xcl_5 (by decide) fl_RX5_21 (by decide) sh_31 rfl ?_
                refine x_iload_n dX5_parseLine_120 rfl ?_
                obtain ⟨q_7, hq_7, hf⟩ := Option.bind_eq_some_iff.mp hf
                refine f_cVv mX6_endLine [.int (q_2.2.1 ag_parser_tokens_value (q_2.2.1 ag_parser fParser_at).toNatClampNeg)] [] dX5_parseLine_121 cs_RX5_61 ⟨w_737, w_43⟩ (ci := 6) rfl (by decide) sh_36 rfl rfl (Nat.le_of_ble_eq_true rfl) (by omega) (c_X6_endLine (d := d - 1) (by omega) (q_2.2.1 ag_parser_tokens_value (q_2.2.1 ag_parser fParser_at).toNatClampNeg) q_6.2 q_7 hq_7) ?_
                refine x_iconst (v := 1) dX5_parseLine_124 (by decide) ?_
                exact x_zret dX5_parseLine_125 rfl (by decide) (by cases hf; exact hR)
              · replace hf := x_ift hc hf
                refine x_iconst (v := 0) dX5_parseLine_114 (by decide) ?_
                exact x_zret dX5_parseLine_115 rfl (by decide) (by cases hf; exact hR)
        · replace hf := x_iff hc hf
          refine x_aload_n dX5_parseLine_70 rfl ?_
          refine x_iconst (v := 4) dX5_parseLine_71 (by decide) ?_
          obtain ⟨q_8, hq_8, hf⟩ := Option.bind_eq_some_iff.mp hf
          refine f_cVi mX5_refuse [.int ((4 : Int32))] [] dX5_parseLine_72 cs_RX5_47 ⟨w_711, w_38⟩ (ci := 5) rfl (by decide) sh_31 rfl rfl (Nat.le_of_ble_eq_true rfl) (by omega) (c_X5_refuse (d := d - 1) (by omega) ((4 : Int32)) q_2.2 q_8 hq_8) ?_
          have hg_9 := x_gd hf
          replace hf := hg_9.2
          exact x_zret dX5_parseLine_75 rfl (xbb_n hg_9.1) (by cases hf; exact hR)
      · replace hf := x_iff hc hf
        refine x_aload_n dX5_parseLine_46 rfl ?_
        refine x_iconst (v := 1) dX5_parseLine_47 (by decide) ?_
        obtain ⟨q_10, hq_10, hf⟩ := Option.bind_eq_some_iff.mp hf
        refine f_cVi mX5_refuse [.int ((1 : Int32))] [] dX5_parseLine_48 cs_RX5_47 ⟨w_711, w_38⟩ (ci := 5) rfl (by decide) sh_31 rfl rfl (Nat.le_of_ble_eq_true rfl) (by omega) (c_X5_refuse (d := d - 1) (by omega) ((1 : Int32)) q_2.2 q_10 hq_10) ?_
        have hg_11 := x_gd hf
        replace hf := hg_11.2
        exact x_zret dX5_parseLine_51 rfl (xbb_n hg_11.1) (by cases hf; exact hR)
    · replace hf := x_iff hc hf
      refine x_aload_n dX5_parseLine_22 rfl ?_
      refine x_iconst (v := 5) dX5_parseLine_23 (by decide) ?_
      obtain ⟨q_12, hq_12, hf⟩ := Option.bind_eq_some_iff.mp hf
      refine f_cVi mX5_refuse [.int ((5 : Int32))] [] dX5_parseLine_24 cs_RX5_47 ⟨w_711, w_38⟩ (ci := 5) rfl (by decide) sh_31 rfl rfl (Nat.le_of_ble_eq_true rfl) (by omega) (c_X5_refuse (d := d - 1) (by omega) ((5 : Int32)) q_1.2 q_12 hq_12) ?_
      have hg_13 := x_gd hf
      replace hf := hg_13.2
      exact x_zret dX5_parseLine_27 rfl (xbb_n hg_13.1) (by cases hf; exact hR)
  · replace hf := x_iff hc hf
    refine x_aload_n dX5_parseLine_10 rfl ?_
    refine x_iconst (v := 1) dX5_parseLine_11 (by decide) ?_
    obtain ⟨q_14, hq_14, hf⟩ := Option.bind_eq_some_iff.mp hf
    refine f_cVi mX5_refuse [.int ((1 : Int32))] [] dX5_parseLine_12 cs_RX5_47 ⟨w_711, w_38⟩ (ci := 5) rfl (by decide) sh_31 rfl rfl (Nat.le_of_ble_eq_true rfl) (by omega) (c_X5_refuse (d := d - 1) (by omega) ((1 : Int32)) q_1.2 q_14 hq_14) ?_
    have hg_15 := x_gd hf
    replace hf := hg_15.2
    exact x_zret dX5_parseLine_15 rfl (xbb_n hg_15.1) (by cases hf; exact hR)
theorem c_X5_parseLine {E : xE} {d : Nat} (hd : 85 ≤ d) (x1 : Int32) (m : xMem) (out : Int32 × xMem) (h : F_X5_parseLine x1 m = some out) : xCi E mX5_parseLine d [.ref (xB E + 31), .int x1] m out.1 out.2 :=
  x_enter (by decide +kernel) (Nat.le_of_ble_eq_true rfl) (pF_X5_parseLine hd (Q := _) out ⟨rfl, rfl⟩ x1 m h)
-- X5_parse
def L_X5_parse_27 : Nat → Int32 → xMem → Option (Int32 × xMem)
  | 0, _, _ => none
  | fk + 1, x2, m =>
    if (16 : Int32) < x2 then (
      some ((0 : Int32), m))
    else (
      (F_X5_token m).bind fun q_3 => (
      if q_3.1 = 0 then (
        some ((0 : Int32), q_3.2))
      else (
        (F_X5_parseLine (x2) q_3.2).bind fun q_4 => (
        if q_4.1 = 0 then (
          some (q_4.2.1 ag_parser fParser_fault, q_4.2))
        else (
          L_X5_parse_27 fk (x2 + 1) q_4.2)))))
def F_X5_parse (m : xMem) : Option (Int32 × xMem) :=
  (F_X8_scan m).bind fun q_1 => (
  (F_X6_clear q_1.2).bind fun q_2 => (
  L_X5_parse_27 xfuel ((0 : Int32)) (xst (xst q_2.2.1 ag_parser fParser_at (0 : Int32)) ag_parser fParser_fault (0 : Int32), q_2.2.2)))
set_option maxHeartbeats 4000000 in
set_option maxRecDepth 100000 in
theorem pL_X5_parse_27 {E : xE} {d : Nat} {Q : Option Value → xS → Prop} (hd : 86 ≤ d) (out : Int32 × xMem) (hR : Q (some (.int out.1)) (xf E out.2)) : ∀ (fk : Nat) (x2 : Int32) (m : xMem), L_X5_parse_27 fk x2 m = some out → xX E mX5_parse d 0 0 0 0 Q 27 [(0, .ref (xB E + 31)), (2, .int (x2))] [] (xf E m) := by
  intro fk
  induction fk with
  | zero => intro x2 m hf; cases hf
  | succ fk ih =>
    intro x2 m hf
    rw [L_X5_parse_27] at hf
    refine x_iload_n dX5_parse_27 rfl ?_
    refine x_bipush (v := 16) dX5_parse_28 (by decide) ?_
    refine x_icmp_gt 59 dX5_parse_30 (by decide) (fun hc => ?_) (fun hc => ?_)
    · replace hf := x_ift hc hf
      refine x_iconst (v := 0) dX5_parse_59 (by decide) ?_
      exact x_iret dX5_parse_60 rfl (by cases hf; exact hR)
    · replace hf := x_iff hc hf
      refine x_aload_n dX5_parse_33 rfl ?_
      obtain ⟨q_3, hq_3, hf⟩ := Option.bind_eq_some_iff.mp hf
      refine f_cVi mX5_token [] [] dX5_parse_34 cs_RX5_39 ⟨w_703, w_36⟩ (ci := 5) rfl (by decide) sh_31 rfl rfl (Nat.le_of_ble_eq_true rfl) (by omega) (c_X5_token (d := d - 1) (by omega) m q_3 hq_3) ?_
      refine x_if_eq 59 dX5_parse_37 (by decide) (fun hc => ?_) (fun hc => ?_)
      · replace hf := x_ift hc hf
        refine x_iconst (v := 0) dX5_parse_59 (by decide) ?_
        exact x_iret dX5_parse_60 rfl (by cases hf; exact hR)
      · replace hf := x_iff hc hf
        refine x_aload_n dX5_parse_40 rfl ?_
        refine x_iload_n dX5_parse_41 rfl ?_
        obtain ⟨q_4, hq_4, hf⟩ := Option.bind_eq_some_iff.mp hf
        refine f_cVi mX5_parseLine [.int (x2)] [] dX5_parse_42 cs_RX5_43 ⟨w_707, w_37⟩ (ci := 5) rfl (by decide) sh_31 rfl rfl (Nat.le_of_ble_eq_true rfl) (by omega) (c_X5_parseLine (d := d - 1) (by omega) (x2) q_3.2 q_4 hq_4) ?_
        refine x_if_ne 53 dX5_parse_45 (by decide) (fun hc => ?_) (fun hc => ?_)
        · replace hf := x_iff hc hf
          refine x_iinc (v := x2 + 1) (lv' := [(0, .ref (xB E + 31)), (2, .int (x2 + 1))]) dX5_parse_53 1 [1, 0] rfl rfl (by decide) rfl ?_
          refine x_goto 27 dX5_parse_56 (by decide) ?_
          exact ih _ _ hf
        · replace hf := x_ift hc hf
          refine x_aload_n dX5_parse_48 rfl ?_
          refine f_getI dX5_parse_49 xcl_5 (by decide) fl_RX5_36 (by decide) sh_31 rfl ?_
          exact x_iret dX5_parse_52 rfl (by cases hf; exact hR)
set_option maxHeartbeats 4000000 in
set_option maxRecDepth 100000 in
theorem pF_X5_parse {E : xE} {d : Nat} {Q : Option Value → xS → Prop} (hd : 86 ≤ d) (out : Int32 × xMem) (hR : Q (some (.int out.1)) (xf E out.2)) (m : xMem) (hf : F_X5_parse m = some out) : xX E mX5_parse d 0 0 0 0 Q 0 [(0, .ref (xB E + 31)), (1, .ref (xB E + 29))] [] (xf E m) := by
  unfold F_X5_parse at hf
  refine x_aload_n dX5_parse_0 rfl ?_
  refine f_getR (b := 32) dX5_parse_1 xcl_5 (by decide) fl_RX5_12 (by decide) sh_31 rfl ?_
  refine x_aload_n dX5_parse_4 rfl ?_
  obtain ⟨q_1, hq_1, hf⟩ := Option.bind_eq_some_iff.mp hf
  refine f_cVv mX8_scan [.ref (xB E + 29)] [] dX5_parse_5 cs_RX5_25 ⟨w_590, w_25⟩ (ci := 8) rfl (by decide) sh_32 rfl rfl (Nat.le_of_ble_eq_true rfl) (by omega) (c_X8_scan (d := d - 1) (by omega) m q_1 hq_1) ?_
  refine x_aload_n dX5_parse_8 rfl ?_
  refine f_getR (b := 36) dX5_parse_9 xcl_5 (by decide) fl_RX5_21 (by decide) sh_31 rfl ?_
  obtain ⟨q_2, hq_2, hf⟩ := Option.bind_eq_some_iff.mp hf
  refine f_cVv mX6_clear [] [] dX5_parse_12 cs_RX5_29 ⟨w_699, w_35⟩ (ci := 6) rfl (by decide) sh_36 rfl rfl (Nat.le_of_ble_eq_true rfl) (by omega) (c_X6_clear (d := d - 1) (by omega) q_1.2 q_2 hq_2) ?_
  refine x_aload_n dX5_parse_15 rfl ?_
  refine x_iconst (v := 0) dX5_parse_16 (by decide) ?_
  refine f_putI dX5_parse_17 xcl_5 (by decide) fl_RX5_32 rfl rfl (by decide) sh_31 rfl ?_
  refine x_aload_n dX5_parse_20 rfl ?_
  refine x_iconst (v := 0) dX5_parse_21 (by decide) ?_
  refine f_putI dX5_parse_22 xcl_5 (by decide) fl_RX5_36 rfl rfl (by decide) sh_31 rfl ?_
  refine x_iconst (v := 0) dX5_parse_25 (by decide) ?_
  refine x_istore_n (lv' := [(0, .ref (xB E + 31)), (2, .int ((0 : Int32)))]) dX5_parse_26 [1, 0] (by decide) rfl ?_
  refine pL_X5_parse_27 hd out hR xfuel _ _ hf
theorem c_X5_parse {E : xE} {d : Nat} (hd : 86 ≤ d) (m : xMem) (out : Int32 × xMem) (h : F_X5_parse m = some out) : xCi E mX5_parse d [.ref (xB E + 31), .ref (xB E + 29)] m out.1 out.2 :=
  x_enter (by decide +kernel) (Nat.le_of_ble_eq_true rfl) (pF_X5_parse hd (Q := _) out ⟨rfl, rfl⟩ m h)
-- X6_copy
def F_X6_copy (m : xMem) : Option (Int32 × xMem) :=
  if xcpo ((0 : Int32)) ((0 : Int32)) ((xst (xst m.1 ag_script fScript_size (m.1 ag_parser_draft fScript_size)) ag_script fScript_lines ((xst m.1 ag_script fScript_size (m.1 ag_parser_draft fScript_size)) ag_parser_draft fScript_lines)) ag_script fScript_size) 600 600 = true then (
  if xcpo ((0 : Int32)) ((0 : Int32)) ((xcp (xst (xst m.1 ag_script fScript_size (m.1 ag_parser_draft fScript_size)) ag_script fScript_lines ((xst m.1 ag_script fScript_size (m.1 ag_parser_draft fScript_size)) ag_parser_draft fScript_lines)) ag_parser_draft_code ag_script_code ((0 : Int32)).toNatClampNeg ((0 : Int32)).toNatClampNeg ((xst (xst m.1 ag_script fScript_size (m.1 ag_parser_draft fScript_size)) ag_script fScript_lines ((xst m.1 ag_script fScript_size (m.1 ag_parser_draft fScript_size)) ag_parser_draft fScript_lines)) ag_script fScript_size).toNatClampNeg) ag_script fScript_lines) 16 16 = true then (
  if xcpo ((0 : Int32)) ((0 : Int32)) ((xcp (xcp (xst (xst m.1 ag_script fScript_size (m.1 ag_parser_draft fScript_size)) ag_script fScript_lines ((xst m.1 ag_script fScript_size (m.1 ag_parser_draft fScript_size)) ag_parser_draft fScript_lines)) ag_parser_draft_code ag_script_code ((0 : Int32)).toNatClampNeg ((0 : Int32)).toNatClampNeg ((xst (xst m.1 ag_script fScript_size (m.1 ag_parser_draft fScript_size)) ag_script fScript_lines ((xst m.1 ag_script fScript_size (m.1 ag_parser_draft fScript_size)) ag_parser_draft fScript_lines)) ag_script fScript_size).toNatClampNeg) ag_parser_draft_endOf ag_script_endOf ((0 : Int32)).toNatClampNeg ((0 : Int32)).toNatClampNeg ((xcp (xst (xst m.1 ag_script fScript_size (m.1 ag_parser_draft fScript_size)) ag_script fScript_lines ((xst m.1 ag_script fScript_size (m.1 ag_parser_draft fScript_size)) ag_parser_draft fScript_lines)) ag_parser_draft_code ag_script_code ((0 : Int32)).toNatClampNeg ((0 : Int32)).toNatClampNeg ((xst (xst m.1 ag_script fScript_size (m.1 ag_parser_draft fScript_size)) ag_script fScript_lines ((xst m.1 ag_script fScript_size (m.1 ag_parser_draft fScript_size)) ag_parser_draft fScript_lines)) ag_script fScript_size).toNatClampNeg) ag_script fScript_lines).toNatClampNeg) ag_script fScript_lines) 16 16 = true then (
  some (0, (xcp (xcp (xcp (xst (xst m.1 ag_script fScript_size (m.1 ag_parser_draft fScript_size)) ag_script fScript_lines ((xst m.1 ag_script fScript_size (m.1 ag_parser_draft fScript_size)) ag_parser_draft fScript_lines)) ag_parser_draft_code ag_script_code ((0 : Int32)).toNatClampNeg ((0 : Int32)).toNatClampNeg ((xst (xst m.1 ag_script fScript_size (m.1 ag_parser_draft fScript_size)) ag_script fScript_lines ((xst m.1 ag_script fScript_size (m.1 ag_parser_draft fScript_size)) ag_parser_draft fScript_lines)) ag_script fScript_size).toNatClampNeg) ag_parser_draft_endOf ag_script_endOf ((0 : Int32)).toNatClampNeg ((0 : Int32)).toNatClampNeg ((xcp (xst (xst m.1 ag_script fScript_size (m.1 ag_parser_draft fScript_size)) ag_script fScript_lines ((xst m.1 ag_script fScript_size (m.1 ag_parser_draft fScript_size)) ag_parser_draft fScript_lines)) ag_parser_draft_code ag_script_code ((0 : Int32)).toNatClampNeg ((0 : Int32)).toNatClampNeg ((xst (xst m.1 ag_script fScript_size (m.1 ag_parser_draft fScript_size)) ag_script fScript_lines ((xst m.1 ag_script fScript_size (m.1 ag_parser_draft fScript_size)) ag_parser_draft fScript_lines)) ag_script fScript_size).toNatClampNeg) ag_script fScript_lines).toNatClampNeg) ag_parser_draft_starsIn ag_script_starsIn ((0 : Int32)).toNatClampNeg ((0 : Int32)).toNatClampNeg ((xcp (xcp (xst (xst m.1 ag_script fScript_size (m.1 ag_parser_draft fScript_size)) ag_script fScript_lines ((xst m.1 ag_script fScript_size (m.1 ag_parser_draft fScript_size)) ag_parser_draft fScript_lines)) ag_parser_draft_code ag_script_code ((0 : Int32)).toNatClampNeg ((0 : Int32)).toNatClampNeg ((xst (xst m.1 ag_script fScript_size (m.1 ag_parser_draft fScript_size)) ag_script fScript_lines ((xst m.1 ag_script fScript_size (m.1 ag_parser_draft fScript_size)) ag_parser_draft fScript_lines)) ag_script fScript_size).toNatClampNeg) ag_parser_draft_endOf ag_script_endOf ((0 : Int32)).toNatClampNeg ((0 : Int32)).toNatClampNeg ((xcp (xst (xst m.1 ag_script fScript_size (m.1 ag_parser_draft fScript_size)) ag_script fScript_lines ((xst m.1 ag_script fScript_size (m.1 ag_parser_draft fScript_size)) ag_parser_draft fScript_lines)) ag_parser_draft_code ag_script_code ((0 : Int32)).toNatClampNeg ((0 : Int32)).toNatClampNeg ((xst (xst m.1 ag_script fScript_size (m.1 ag_parser_draft fScript_size)) ag_script fScript_lines ((xst m.1 ag_script fScript_size (m.1 ag_parser_draft fScript_size)) ag_parser_draft fScript_lines)) ag_script fScript_size).toNatClampNeg) ag_script fScript_lines).toNatClampNeg) ag_script fScript_lines).toNatClampNeg, m.2)))
  else none)
  else none)
  else none
set_option maxHeartbeats 4000000 in
set_option maxRecDepth 100000 in
theorem pF_X6_copy {E : xE} {d : Nat} {Q : Option Value → xS → Prop} (hd : 1 ≤ d) (out : Int32 × xMem) (hR : Q none (xf E out.2)) (m : xMem) (hf : F_X6_copy m = some out) : xX E mX6_copy d 0 0 0 0 Q 0 [(0, .ref (xB E + 41)), (1, .ref (xB E + 36))] [] (xf E m) := by
  unfold F_X6_copy at hf
  refine x_aload_n dX6_copy_0 rfl ?_
  refine x_aload_n dX6_copy_1 rfl ?_
  refine f_getI dX6_copy_2 xcl_6 (by decide) fl_RX6_24 (by decide) sh_36 rfl ?_
  refine f_putI dX6_copy_5 xcl_6 (by decide) fl_RX6_24 rfl rfl (by decide) sh_41 rfl ?_
  refine x_aload_n dX6_copy_8 rfl ?_
  refine x_aload_n dX6_copy_9 rfl ?_
  refine f_getI dX6_copy_10 xcl_6 (by decide) fl_RX6_28 (by decide) sh_36 rfl ?_
  refine f_putI dX6_copy_13 xcl_6 (by decide) fl_RX6_28 rfl rfl (by decide) sh_41 rfl ?_
  refine x_aload_n dX6_copy_16 rfl ?_
  refine f_getR (b := 37) dX6_copy_17 xcl_6 (by decide) fl_RX6_9 (by decide) sh_36 rfl ?_
  refine x_iconst (v := 0) dX6_copy_20 (by decide) ?_
  refine x_aload_n dX6_copy_21 rfl ?_
  refine f_getR (b := 42) dX6_copy_22 xcl_6 (by decide) fl_RX6_9 (by decide) sh_41 rfl ?_
  refine x_iconst (v := 0) dX6_copy_25 (by decide) ?_
  refine x_aload_n dX6_copy_26 rfl ?_
  refine f_getI dX6_copy_27 xcl_6 (by decide) fl_RX6_24 (by decide) sh_41 rfl ?_
  have hg_1 := x_gd hf
  replace hf := hg_1.2
  refine f_acpy dX6_copy_30 w_743 w_745 w_744 w_108 (by decide) (by decide) sh_37 sh_42 hg_1.1 (Nat.le_of_ble_eq_true rfl) (by omega) ?_
  refine x_aload_n dX6_copy_33 rfl ?_
  refine f_getR (b := 38) dX6_copy_34 xcl_6 (by decide) fl_RX6_15 (by decide) sh_36 rfl ?_
  refine x_iconst (v := 0) dX6_copy_37 (by decide) ?_
  refine x_aload_n dX6_copy_38 rfl ?_
  refine f_getR (b := 43) dX6_copy_39 xcl_6 (by decide) fl_RX6_15 (by decide) sh_41 rfl ?_
  refine x_iconst (v := 0) dX6_copy_42 (by decide) ?_
  refine x_aload_n dX6_copy_43 rfl ?_
  refine f_getI dX6_copy_44 xcl_6 (by decide) fl_RX6_28 (by decide) sh_41 rfl ?_
  have hg_2 := x_gd hf
  replace hf := hg_2.2
  refine f_acpy dX6_copy_47 w_743 w_745 w_744 w_108 (by decide) (by decide) sh_38 sh_43 hg_2.1 (Nat.le_of_ble_eq_true rfl) (by omega) ?_
  refine x_aload_n dX6_copy_50 rfl ?_
  refine f_getR (b := 39) dX6_copy_51 xcl_6 (by decide) fl_RX6_18 (by decide) sh_36 rfl ?_
  refine x_iconst (v := 0) dX6_copy_54 (by decide) ?_
  refine x_aload_n dX6_copy_55 rfl ?_
  refine f_getR (b := 44) dX6_copy_56 xcl_6 (by decide) fl_RX6_18 (by decide) sh_41 rfl ?_
  refine x_iconst (v := 0) dX6_copy_59 (by decide) ?_
  refine x_aload_n dX6_copy_60 rfl ?_
  refine f_getI dX6_copy_61 xcl_6 (by decide) fl_RX6_28 (by decide) sh_41 rfl ?_
  have hg_3 := x_gd hf
  replace hf := hg_3.2
  refine f_acpy dX6_copy_64 w_743 w_745 w_744 w_108 (by decide) (by decide) sh_39 sh_44 hg_3.1 (Nat.le_of_ble_eq_true rfl) (by omega) ?_
  exact x_vret dX6_copy_67 rfl (by cases hf; exact hR)
theorem c_X6_copy {E : xE} {d : Nat} (hd : 1 ≤ d) (m : xMem) (out : Int32 × xMem) (h : F_X6_copy m = some out) : xCv E mX6_copy d [.ref (xB E + 41), .ref (xB E + 36)] m out.2 :=
  x_enter (by decide +kernel) (Nat.le_of_ble_eq_true rfl) (pF_X6_copy hd (Q := _) out ⟨rfl, rfl⟩ m h)
-- X9_text
def F_X9_text (m : xMem) : Option (Int32 × xMem) :=
  (F_X5_parse m).bind fun q_1 => (
  if q_1.1 = 0 then (
    (F_X6_copy (xst q_1.2.1 ag_tape fTape_length (0 : Int32), q_1.2.2)).bind fun q_2 => (
    some (q_1.1, q_2.2)))
  else (
    some (q_1.1, (xst q_1.2.1 ag_tape fTape_length (0 : Int32), q_1.2.2))))
set_option maxHeartbeats 4000000 in
set_option maxRecDepth 100000 in
theorem pF_X9_text {E : xE} {d : Nat} {Q : Option Value → xS → Prop} (hd : 87 ≤ d) (out : Int32 × xMem) (hR : Q (some (.int out.1)) (xf E out.2)) (m : xMem) (hf : F_X9_text m = some out) : xX E mX9_text d 0 0 0 0 Q 0 [(0, .ref (xB E + 0))] [] (xf E m) := by
  unfold F_X9_text at hf
  refine x_aload_n dX9_text_0 rfl ?_
  refine f_getR (b := 31) dX9_text_1 xcl_9 (by decide) fl_RX9_40 (by decide) sh_0 rfl ?_
  refine x_aload_n dX9_text_4 rfl ?_
  refine f_getR (b := 29) dX9_text_5 xcl_9 (by decide) fl_RX9_33 (by decide) sh_0 rfl ?_
  obtain ⟨q_1, hq_1, hf⟩ := Option.bind_eq_some_iff.mp hf
  refine f_cVi mX5_parse [.ref (xB E + 29)] [] dX9_text_8 cs_RX9_180 ⟨w_586, w_24⟩ (ci := 5) rfl (by decide) sh_31 rfl rfl (Nat.le_of_ble_eq_true rfl) (by omega) (c_X5_parse (d := d - 1) (by omega) m q_1 hq_1) ?_
  refine x_istore_n (lv' := [(0, .ref (xB E + 0)), (1, .int (q_1.1))]) dX9_text_11 [1, 0] (by decide) rfl ?_
  refine x_aload_n dX9_text_12 rfl ?_
  refine f_getR (b := 29) dX9_text_13 xcl_9 (by decide) fl_RX9_33 (by decide) sh_0 rfl ?_
  refine x_iconst (v := 0) dX9_text_16 (by decide) ?_
  refine f_putI dX9_text_17 xcl_7 (by decide) fl_RX9_178 rfl rfl (by decide) sh_29 rfl ?_
  refine x_iload_n dX9_text_20 rfl ?_
  refine x_if_ne 38 dX9_text_21 (by decide) (fun hc => ?_) (fun hc => ?_)
  · replace hf := x_iff hc hf
    refine x_iload_n dX9_text_38 rfl ?_
    exact x_iret dX9_text_39 rfl (by cases hf; exact hR)
  · replace hf := x_ift hc hf
    refine x_aload_n dX9_text_24 rfl ?_
    refine f_getR (b := 41) dX9_text_25 xcl_9 (by decide) fl_RX9_47 (by decide) sh_0 rfl ?_
    refine x_aload_n dX9_text_28 rfl ?_
    refine f_getR (b := 31) dX9_text_29 xcl_9 (by decide) fl_RX9_40 (by decide) sh_0 rfl ?_
    refine f_getR (b := 36) dX9_text_32 xcl_5 (by decide) fl_RX9_184 (by decide) sh_31 rfl ?_
    obtain ⟨q_2, hq_2, hf⟩ := Option.bind_eq_some_iff.mp hf
    refine f_cVv mX6_copy [.ref (xB E + 36)] [] dX9_text_35 cs_RX9_187 ⟨w_741, w_44⟩ (ci := 6) rfl (by decide) sh_41 rfl rfl (Nat.le_of_ble_eq_true rfl) (by omega) (c_X6_copy (d := d - 1) (by omega) (xst q_1.2.1 ag_tape fTape_length (0 : Int32), q_1.2.2) q_2 hq_2) ?_
    refine x_iload_n dX9_text_38 rfl ?_
    exact x_iret dX9_text_39 rfl (by cases hf; exact hR)
theorem c_X9_text {E : xE} {d : Nat} (hd : 87 ≤ d) (m : xMem) (out : Int32 × xMem) (h : F_X9_text m = some out) : xCi E mX9_text d [.ref (xB E + 0)] m out.1 out.2 :=
  x_enter (by decide +kernel) (Nat.le_of_ble_eq_true rfl) (pF_X9_text hd (Q := _) out ⟨rfl, rfl⟩ m h)
-- X10_isLetter
def F_X10_isLetter (x0 : Int32) (m : xMem) : Option (Int32 × xMem) :=
  if x0 < (97 : Int32) then (
    some ((0 : Int32), m))
  else (
    if (122 : Int32) < x0 then (
      some ((0 : Int32), m))
    else (
      some ((1 : Int32), m)))
set_option maxHeartbeats 4000000 in
set_option maxRecDepth 100000 in
theorem pF_X10_isLetter {E : xE} {d : Nat} {Q : Option Value → xS → Prop} (hd : 1 ≤ d) (out : Int32 × xMem) (hR : Q (some (.int out.1)) (xf E out.2)) (x0 : Int32) (m : xMem) (hf : F_X10_isLetter x0 m = some out) : xX E mX10_isLetter d 0 0 0 0 Q 0 [(0, .int (x0))] [] (xf E m) := by
  unfold F_X10_isLetter at hf
  refine x_iload_n dX10_isLetter_0 rfl ?_
  refine x_bipush (v := 97) dX10_isLetter_1 (by decide) ?_
  refine x_icmp_lt 16 dX10_isLetter_3 (by decide) (fun hc => ?_) (fun hc => ?_)
  · replace hf := x_ift hc hf
    refine x_iconst (v := 0) dX10_isLetter_16 (by decide) ?_
    exact x_zret dX10_isLetter_17 rfl (by decide) (by cases hf; exact hR)
  · replace hf := x_iff hc hf
    refine x_iload_n dX10_isLetter_6 rfl ?_
    refine x_bipush (v := 122) dX10_isLetter_7 (by decide) ?_
    refine x_icmp_gt 16 dX10_isLetter_9 (by decide) (fun hc => ?_) (fun hc => ?_)
    · replace hf := x_ift hc hf
      refine x_iconst (v := 0) dX10_isLetter_16 (by decide) ?_
      exact x_zret dX10_isLetter_17 rfl (by decide) (by cases hf; exact hR)
    · replace hf := x_iff hc hf
      refine x_iconst (v := 1) dX10_isLetter_12 (by decide) ?_
      refine x_goto 17 dX10_isLetter_13 (by decide) ?_
      exact x_zret dX10_isLetter_17 rfl (by decide) (by cases hf; exact hR)
theorem c_X10_isLetter {E : xE} {d : Nat} (hd : 1 ≤ d) (x0 : Int32) (m : xMem) (out : Int32 × xMem) (h : F_X10_isLetter x0 m = some out) : xCi E mX10_isLetter d [.int x0] m out.1 out.2 :=
  x_enter (by decide +kernel) (Nat.le_of_ble_eq_true rfl) (pF_X10_isLetter hd (Q := _) out ⟨rfl, rfl⟩ x0 m h)
-- X10_isDigit
def F_X10_isDigit (x0 : Int32) (m : xMem) : Option (Int32 × xMem) :=
  if x0 < (48 : Int32) then (
    some ((0 : Int32), m))
  else (
    if (57 : Int32) < x0 then (
      some ((0 : Int32), m))
    else (
      some ((1 : Int32), m)))
set_option maxHeartbeats 4000000 in
set_option maxRecDepth 100000 in
theorem pF_X10_isDigit {E : xE} {d : Nat} {Q : Option Value → xS → Prop} (hd : 1 ≤ d) (out : Int32 × xMem) (hR : Q (some (.int out.1)) (xf E out.2)) (x0 : Int32) (m : xMem) (hf : F_X10_isDigit x0 m = some out) : xX E mX10_isDigit d 0 0 0 0 Q 0 [(0, .int (x0))] [] (xf E m) := by
  unfold F_X10_isDigit at hf
  refine x_iload_n dX10_isDigit_0 rfl ?_
  refine x_bipush (v := 48) dX10_isDigit_1 (by decide) ?_
  refine x_icmp_lt 16 dX10_isDigit_3 (by decide) (fun hc => ?_) (fun hc => ?_)
  · replace hf := x_ift hc hf
    refine x_iconst (v := 0) dX10_isDigit_16 (by decide) ?_
    exact x_zret dX10_isDigit_17 rfl (by decide) (by cases hf; exact hR)
  · replace hf := x_iff hc hf
    refine x_iload_n dX10_isDigit_6 rfl ?_
    refine x_bipush (v := 57) dX10_isDigit_7 (by decide) ?_
    refine x_icmp_gt 16 dX10_isDigit_9 (by decide) (fun hc => ?_) (fun hc => ?_)
    · replace hf := x_ift hc hf
      refine x_iconst (v := 0) dX10_isDigit_16 (by decide) ?_
      exact x_zret dX10_isDigit_17 rfl (by decide) (by cases hf; exact hR)
    · replace hf := x_iff hc hf
      refine x_iconst (v := 1) dX10_isDigit_12 (by decide) ?_
      refine x_goto 17 dX10_isDigit_13 (by decide) ?_
      exact x_zret dX10_isDigit_17 rfl (by decide) (by cases hf; exact hR)
theorem c_X10_isDigit {E : xE} {d : Nat} (hd : 1 ≤ d) (x0 : Int32) (m : xMem) (out : Int32 × xMem) (h : F_X10_isDigit x0 m = some out) : xCi E mX10_isDigit d [.int x0] m out.1 out.2 :=
  x_enter (by decide +kernel) (Nat.le_of_ble_eq_true rfl) (pF_X10_isDigit hd (Q := _) out ⟨rfl, rfl⟩ x0 m h)
-- X10_isSignOf
def J_X10_isSignOf_42 (m : xMem) : Option (Int32 × xMem) :=
  some ((1 : Int32), m)
def F_X10_isSignOf (x0 : Int32) (m : xMem) : Option (Int32 × xMem) :=
  if x0 = (40 : Int32) then (
    J_X10_isSignOf_42 m)
  else (
    if x0 = (41 : Int32) then (
      J_X10_isSignOf_42 m)
    else (
      if x0 = (59 : Int32) then (
        J_X10_isSignOf_42 m)
      else (
        if x0 = (61 : Int32) then (
          J_X10_isSignOf_42 m)
        else (
          if x0 = (60 : Int32) then (
            J_X10_isSignOf_42 m)
          else (
            if x0 = (43 : Int32) then (
              J_X10_isSignOf_42 m)
            else (
              if x0 = (45 : Int32) then (
                J_X10_isSignOf_42 m)
              else (
                some ((0 : Int32), m))))))))
set_option maxHeartbeats 4000000 in
set_option maxRecDepth 100000 in
theorem pJ_X10_isSignOf_42 {E : xE} {d : Nat} {Q : Option Value → xS → Prop} (hd : 1 ≤ d) (out : Int32 × xMem) (hR : Q (some (.int out.1)) (xf E out.2)) (m : xMem) (hf : J_X10_isSignOf_42 m = some out) : xX E mX10_isSignOf d 0 0 0 0 Q 42 [] [] (xf E m) := by
  unfold J_X10_isSignOf_42 at hf
  refine x_iconst (v := 1) dX10_isSignOf_42 (by decide) ?_
  refine x_goto 47 dX10_isSignOf_43 (by decide) ?_
  exact x_zret dX10_isSignOf_47 rfl (by decide) (by cases hf; exact hR)
set_option maxHeartbeats 4000000 in
set_option maxRecDepth 100000 in
theorem pF_X10_isSignOf {E : xE} {d : Nat} {Q : Option Value → xS → Prop} (hd : 1 ≤ d) (out : Int32 × xMem) (hR : Q (some (.int out.1)) (xf E out.2)) (x0 : Int32) (m : xMem) (hf : F_X10_isSignOf x0 m = some out) : xX E mX10_isSignOf d 0 0 0 0 Q 0 [(0, .int (x0))] [] (xf E m) := by
  unfold F_X10_isSignOf at hf
  refine x_iload_n dX10_isSignOf_0 rfl ?_
  refine x_bipush (v := 40) dX10_isSignOf_1 (by decide) ?_
  refine x_icmp_eq 42 dX10_isSignOf_3 (by decide) (fun hc => ?_) (fun hc => ?_)
  · replace hf := x_ift hc hf
    refine x_lv (lv' := []) [] rfl ?_
    exact pJ_X10_isSignOf_42 hd out hR _ hf
  · replace hf := x_iff hc hf
    refine x_iload_n dX10_isSignOf_6 rfl ?_
    refine x_bipush (v := 41) dX10_isSignOf_7 (by decide) ?_
    refine x_icmp_eq 42 dX10_isSignOf_9 (by decide) (fun hc => ?_) (fun hc => ?_)
    · replace hf := x_ift hc hf
      refine x_lv (lv' := []) [] rfl ?_
      exact pJ_X10_isSignOf_42 hd out hR _ hf
    · replace hf := x_iff hc hf
      refine x_iload_n dX10_isSignOf_12 rfl ?_
      refine x_bipush (v := 59) dX10_isSignOf_13 (by decide) ?_
      refine x_icmp_eq 42 dX10_isSignOf_15 (by decide) (fun hc => ?_) (fun hc => ?_)
      · replace hf := x_ift hc hf
        refine x_lv (lv' := []) [] rfl ?_
        exact pJ_X10_isSignOf_42 hd out hR _ hf
      · replace hf := x_iff hc hf
        refine x_iload_n dX10_isSignOf_18 rfl ?_
        refine x_bipush (v := 61) dX10_isSignOf_19 (by decide) ?_
        refine x_icmp_eq 42 dX10_isSignOf_21 (by decide) (fun hc => ?_) (fun hc => ?_)
        · replace hf := x_ift hc hf
          refine x_lv (lv' := []) [] rfl ?_
          exact pJ_X10_isSignOf_42 hd out hR _ hf
        · replace hf := x_iff hc hf
          refine x_iload_n dX10_isSignOf_24 rfl ?_
          refine x_bipush (v := 60) dX10_isSignOf_25 (by decide) ?_
          refine x_icmp_eq 42 dX10_isSignOf_27 (by decide) (fun hc => ?_) (fun hc => ?_)
          · replace hf := x_ift hc hf
            refine x_lv (lv' := []) [] rfl ?_
            exact pJ_X10_isSignOf_42 hd out hR _ hf
          · replace hf := x_iff hc hf
            refine x_iload_n dX10_isSignOf_30 rfl ?_
            refine x_bipush (v := 43) dX10_isSignOf_31 (by decide) ?_
            refine x_icmp_eq 42 dX10_isSignOf_33 (by decide) (fun hc => ?_) (fun hc => ?_)
            · replace hf := x_ift hc hf
              refine x_lv (lv' := []) [] rfl ?_
              exact pJ_X10_isSignOf_42 hd out hR _ hf
            · replace hf := x_iff hc hf
              refine x_iload_n dX10_isSignOf_36 rfl ?_
              refine x_bipush (v := 45) dX10_isSignOf_37 (by decide) ?_
              refine x_icmp_ne 46 dX10_isSignOf_39 (by decide) (fun hc => ?_) (fun hc => ?_)
              · replace hf := x_iff hc hf
                refine x_iconst (v := 0) dX10_isSignOf_46 (by decide) ?_
                exact x_zret dX10_isSignOf_47 rfl (by decide) (by cases hf; exact hR)
              · replace hf := x_ift hc hf
                refine x_lv (lv' := []) [] rfl ?_
                exact pJ_X10_isSignOf_42 hd out hR _ hf
theorem c_X10_isSignOf {E : xE} {d : Nat} (hd : 1 ≤ d) (x0 : Int32) (m : xMem) (out : Int32 × xMem) (h : F_X10_isSignOf x0 m = some out) : xCi E mX10_isSignOf d [.int x0] m out.1 out.2 :=
  x_enter (by decide +kernel) (Nat.le_of_ble_eq_true rfl) (pF_X10_isSignOf hd (Q := _) out ⟨rfl, rfl⟩ x0 m h)
-- X10_rank
def F_X10_rank (x0 : Int32) (m : xMem) : Option (Int32 × xMem) :=
  (F_X10_isLetter (x0) m).bind fun q_1 => (
  if q_1.1 = 0 then (
    some (x0 - (21 : Int32), q_1.2))
  else (
    some (x0 - (96 : Int32), q_1.2)))
set_option maxHeartbeats 4000000 in
set_option maxRecDepth 100000 in
theorem pF_X10_rank {E : xE} {d : Nat} {Q : Option Value → xS → Prop} (hd : 2 ≤ d) (out : Int32 × xMem) (hR : Q (some (.int out.1)) (xf E out.2)) (x0 : Int32) (m : xMem) (hf : F_X10_rank x0 m = some out) : xX E mX10_rank d 0 0 0 0 Q 0 [(0, .int (x0))] [] (xf E m) := by
  unfold F_X10_rank at hf
  refine x_iload_n dX10_rank_0 rfl ?_
  obtain ⟨q_1, hq_1, hf⟩ := Option.bind_eq_some_iff.mp hf
  refine f_cSi mX10_isLetter [.int (x0)] [] dX10_rank_1 cs_RX10_152 w_1100 rfl rfl (Nat.le_of_ble_eq_true rfl) (by omega) (c_X10_isLetter (d := d - 1) (by omega) (x0) m q_1 hq_1) ?_
  refine x_if_eq 14 dX10_rank_4 (by decide) (fun hc => ?_) (fun hc => ?_)
  · replace hf := x_ift hc hf
    refine x_iload_n dX10_rank_14 rfl ?_
    refine x_bipush (v := 21) dX10_rank_15 (by decide) ?_
    refine x_isub dX10_rank_17 ?_
    exact x_iret dX10_rank_18 rfl (by cases hf; exact hR)
  · replace hf := x_iff hc hf
    refine x_iload_n dX10_rank_7 rfl ?_
    refine x_bipush (v := 96) dX10_rank_8 (by decide) ?_
    refine x_isub dX10_rank_10 ?_
    refine x_goto 18 dX10_rank_11 (by decide) ?_
    exact x_iret dX10_rank_18 rfl (by cases hf; exact hR)
theorem c_X10_rank {E : xE} {d : Nat} (hd : 2 ≤ d) (x0 : Int32) (m : xMem) (out : Int32 × xMem) (h : F_X10_rank x0 m = some out) : xCi E mX10_rank d [.int x0] m out.1 out.2 :=
  x_enter (by decide +kernel) (Nat.le_of_ble_eq_true rfl) (pF_X10_rank hd (Q := _) out ⟨rfl, rfl⟩ x0 m h)
-- X10_cutAll
def J_X10_cutAll_44 (rec : Int32 → Int32 → xMem → Option (Int32 × xMem)) (c279 : Int32 → xMem → Option (Int32 × xMem)) (x1 : Int32) (x2 : Int32) (m : xMem) : Option (Int32 × xMem) :=
  rec (x1) (x2 + 1) m
def J_X10_cutAll_265 (rec : Int32 → Int32 → xMem → Option (Int32 × xMem)) (c279 : Int32 → xMem → Option (Int32 × xMem)) (x1 : Int32) (x2 : Int32) (l5 : Int64) (m : xMem) : Option (Int32 × xMem) :=
  if xin x1 602 = true then (
  rec (x1 + 1) (x2) (m.1, xsl m.2 am_value x1.toNatClampNeg l5))
  else none
def J_X10_cutAll_210 (rec : Int32 → Int64 → xMem → Option (Int32 × xMem)) (c218 : Int32 → Int64 → xMem → Option (Int32 × xMem)) (x1 : Int32) (x2 : Int32) (x4 : Int32) (s0 : Int64) (m : xMem) : Option (Int32 × xMem) :=
  rec (x2 + 1) (s0) m
def L_X10_cutAll_159 (x1 : Int32) (x4 : Int32) (c218 : Int32 → Int64 → xMem → Option (Int32 × xMem)) : Nat → Int32 → Int64 → xMem → Option (Int32 × xMem)
  | 0, _, _, _ => none
  | fk + 1, x2, l5, m =>
    if (m.1 am fGuideBookModel_size) ≤ x2 then (
      c218 (x2) (l5) m)
    else (
      if xin x2 600 = true then (
      (F_X10_isDigit (m.1 am_tape x2.toNatClampNeg) m).bind fun q_10 => (
      if q_10.1 = 0 then (
        c218 (x2) (l5) q_10.2)
      else (
        if (4 : Int32) ≤ (x2 - x4) then (
          J_X10_cutAll_210 (fun y_12 y_13 m_14 => L_X10_cutAll_159 x1 x4 c218 fk y_12 y_13 m_14) c218 (x1) (x2) (x4) (l5) q_10.2)
        else (
          if xin x2 600 = true then (
          J_X10_cutAll_210 (fun y_15 y_16 m_17 => L_X10_cutAll_159 x1 x4 c218 fk y_15 y_16 m_17) c218 (x1) (x2) (x4) ((((10 : Int64) * l5) + ((q_10.2.1 am_tape x2.toNatClampNeg).toInt64)) - (48 : Int64)) q_10.2)
          else none))))
      else none)
def J_X10_cutAll_121 (rec : Int32 → Int64 → xMem → Option (Int32 × xMem)) (c129 : Int32 → Int64 → xMem → Option (Int32 × xMem)) (x1 : Int32) (x2 : Int32) (x4 : Int32) (s0 : Int64) (m : xMem) : Option (Int32 × xMem) :=
  rec (x2 + 1) (s0) m
def L_X10_cutAll_70 (x1 : Int32) (x4 : Int32) (c129 : Int32 → Int64 → xMem → Option (Int32 × xMem)) : Nat → Int32 → Int64 → xMem → Option (Int32 × xMem)
  | 0, _, _, _ => none
  | fk + 1, x2, l5, m =>
    if (m.1 am fGuideBookModel_size) ≤ x2 then (
      c129 (x2) (l5) m)
    else (
      if xin x2 600 = true then (
      (F_X10_isLetter (m.1 am_tape x2.toNatClampNeg) m).bind fun q_24 => (
      if q_24.1 = 0 then (
        c129 (x2) (l5) q_24.2)
      else (
        if (8 : Int32) ≤ (x2 - x4) then (
          J_X10_cutAll_121 (fun y_27 y_28 m_29 => L_X10_cutAll_70 x1 x4 c129 fk y_27 y_28 m_29) c129 (x1) (x2) (x4) (l5) q_24.2)
        else (
          if xin x2 600 = true then (
          (F_X10_rank (q_24.2.1 am_tape x2.toNatClampNeg) q_24.2).bind fun q_26 => (
          J_X10_cutAll_121 (fun y_30 y_31 m_32 => L_X10_cutAll_70 x1 x4 c129 fk y_30 y_31 m_32) c129 (x1) (x2) (x4) (((37 : Int64) * l5) + q_26.1.toInt64) q_26.2))
          else none))))
      else none)
def L_X10_cutAll_17 (c279 : Int32 → xMem → Option (Int32 × xMem)) : Nat → Int32 → Int32 → xMem → Option (Int32 × xMem)
  | 0, _, _, _ => none
  | fk + 1, x1, x2, m =>
    if (m.1 am fGuideBookModel_size) ≤ x2 then (
      c279 (x1) m)
    else (
      if xin x2 600 = true then (
      if (m.1 am_tape x2.toNatClampNeg) = (10 : Int32) then (
        J_X10_cutAll_44 (fun y_38 y_39 m_40 => L_X10_cutAll_17 c279 fk y_38 y_39 m_40) c279 (x1) (x2) m)
      else (
        if (m.1 am_tape x2.toNatClampNeg) = (32 : Int32) then (
          J_X10_cutAll_44 (fun y_41 y_42 m_43 => L_X10_cutAll_17 c279 fk y_41 y_42 m_43) c279 (x1) (x2) m)
        else (
          if xin x1 602 = true then (
          (F_X10_isLetter (m.1 am_tape x2.toNatClampNeg) (xst m.1 am_place x1.toNatClampNeg x2, m.2)).bind fun q_3 => (
          if q_3.1 = 0 then (
            (F_X10_isDigit (m.1 am_tape x2.toNatClampNeg) q_3.2).bind fun q_4 => (
            if q_4.1 = 0 then (
              (F_X10_isSignOf (m.1 am_tape x2.toNatClampNeg) q_4.2).bind fun q_5 => (
              if q_5.1 = 0 then (
                if xin x1 602 = true then (
                J_X10_cutAll_265 (fun y_44 y_45 m_46 => L_X10_cutAll_17 c279 fk y_44 y_45 m_46) c279 (x1) (x2 + 1) ((m.1 am_tape x2.toNatClampNeg).toInt64) (xst q_5.2.1 am_sort x1.toNatClampNeg (4 : Int32), q_5.2.2))
                else none)
              else (
                if xin x1 602 = true then (
                J_X10_cutAll_265 (fun y_47 y_48 m_49 => L_X10_cutAll_17 c279 fk y_47 y_48 m_49) c279 (x1) (x2 + 1) ((m.1 am_tape x2.toNatClampNeg).toInt64) (xst q_5.2.1 am_sort x1.toNatClampNeg (3 : Int32), q_5.2.2))
                else none)))
            else (
              L_X10_cutAll_159 (x1) (x2) (fun x2_18 l5_19 m_20 => (
                if (x2_18 - x2) ≤ (4 : Int32) then (
                  if xin x1 602 = true then (
                  J_X10_cutAll_265 (fun y_50 y_51 m_52 => L_X10_cutAll_17 c279 fk y_50 y_51 m_52) c279 (x1) (x2_18) (l5_19) (xst m_20.1 am_sort x1.toNatClampNeg (2 : Int32), m_20.2))
                  else none)
                else (
                  if xin x1 602 = true then (
                  J_X10_cutAll_265 (fun y_53 y_54 m_55 => L_X10_cutAll_17 c279 fk y_53 y_54 m_55) c279 (x1) (x2_18) (l5_19) (xst m_20.1 am_sort x1.toNatClampNeg (4 : Int32), m_20.2))
                  else none))) xfuel (x2) ((0 : Int64)) q_4.2)))
          else (
            L_X10_cutAll_70 (x1) (x2) (fun x2_33 l5_34 m_35 => (
              if (x2_33 - x2) ≤ (8 : Int32) then (
                if xin x1 602 = true then (
                J_X10_cutAll_265 (fun y_56 y_57 m_58 => L_X10_cutAll_17 c279 fk y_56 y_57 m_58) c279 (x1) (x2_33) (l5_34) (xst m_35.1 am_sort x1.toNatClampNeg (1 : Int32), m_35.2))
                else none)
              else (
                if xin x1 602 = true then (
                J_X10_cutAll_265 (fun y_59 y_60 m_61 => L_X10_cutAll_17 c279 fk y_59 y_60 m_61) c279 (x1) (x2_33) (l5_34) (xst m_35.1 am_sort x1.toNatClampNeg (4 : Int32), m_35.2))
                else none))) xfuel (x2) ((0 : Int64)) q_3.2)))
          else none)))
      else none)
def F_X10_cutAll (m : xMem) : Option (Int32 × xMem) :=
  L_X10_cutAll_17 (fun x1_62 m_63 => (
    if xin x1_62 602 = true then (
    if xin x1_62 602 = true then (
    some (0, (xst (xst (xst (xst m_63.1 am_sort x1_62.toNatClampNeg (0 : Int32)) am_place x1_62.toNatClampNeg ((xst m_63.1 am_sort x1_62.toNatClampNeg (0 : Int32)) am fGuideBookModel_size)) am fGuideBookModel_at (0 : Int32)) am fGuideBookModel_fault (0 : Int32), m_63.2)))
    else none)
    else none)) xfuel ((0 : Int32)) ((0 : Int32)) (xst (xst m.1 am fGuideBookModel_size (m.1 am fGuideBookModel_taped)) am fGuideBookModel_taped (0 : Int32), m.2)
set_option maxHeartbeats 4000000 in
set_option maxRecDepth 100000 in
theorem pJ_X10_cutAll_44 {E : xE} {d : Nat} {Q : Option Value → xS → Prop} (hd : 3 ≤ d) (out : Int32 × xMem) (hR : Q none (xf E out.2)) (rec : Int32 → Int32 → xMem → Option (Int32 × xMem)) (c279 : Int32 → xMem → Option (Int32 × xMem)) (x1 : Int32) (x2 : Int32) (hrec : ∀ (x1 : Int32) (x2 : Int32) (m : xMem), rec x1 x2 m = some out → xX E mX10_cutAll d 0 0 0 0 Q 17 [(0, .ref (xB E + 87)), (1, .int (x1)), (2, .int (x2))] [] (xf E m)) (hc279 : ∀ (x1 : Int32) (m : xMem), c279 x1 m = some out → xX E mX10_cutAll d 0 0 0 0 Q 279 [(0, .ref (xB E + 87)), (1, .int (x1))] [] (xf E m)) (m : xMem) (hf : J_X10_cutAll_44 rec c279 x1 x2 m = some out) : xX E mX10_cutAll d 0 0 0 0 Q 44 [(0, .ref (xB E + 87)), (1, .int (x1)), (2, .int (x2))] [] (xf E m) := by
  unfold J_X10_cutAll_44 at hf
  refine x_iinc (v := x2 + 1) (lv' := [(0, .ref (xB E + 87)), (1, .int (x1)), (2, .int (x2 + 1))]) dX10_cutAll_44 2 [1, 2, 0] rfl rfl (by decide) rfl ?_
  refine x_goto 17 dX10_cutAll_47 (by decide) ?_
  exact hrec _ _ _ hf
set_option maxHeartbeats 4000000 in
set_option maxRecDepth 100000 in
theorem pJ_X10_cutAll_265 {E : xE} {d : Nat} {Q : Option Value → xS → Prop} (hd : 3 ≤ d) (out : Int32 × xMem) (hR : Q none (xf E out.2)) (rec : Int32 → Int32 → xMem → Option (Int32 × xMem)) (c279 : Int32 → xMem → Option (Int32 × xMem)) (x1 : Int32) (x2 : Int32) (l5 : Int64) (hrec : ∀ (x1 : Int32) (x2 : Int32) (m : xMem), rec x1 x2 m = some out → xX E mX10_cutAll d 0 0 0 0 Q 17 [(0, .ref (xB E + 87)), (1, .int (x1)), (2, .int (x2))] [] (xf E m)) (hc279 : ∀ (x1 : Int32) (m : xMem), c279 x1 m = some out → xX E mX10_cutAll d 0 0 0 0 Q 279 [(0, .ref (xB E + 87)), (1, .int (x1))] [] (xf E m)) (m : xMem) (hf : J_X10_cutAll_265 rec c279 x1 x2 l5 m = some out) : xX E mX10_cutAll d 0 0 0 0 Q 265 [(0, .ref (xB E + 87)), (1, .int (x1)), (2, .int (x2)), (5, .long (l5))] [] (xf E m) := by
  unfold J_X10_cutAll_265 at hf
  refine x_aload_n dX10_cutAll_265 rfl ?_
  refine f_getR (b := 91) dX10_cutAll_266 xcl_10 (by decide) fl_RX10_30 (by decide) sh_87 rfl ?_
  refine x_iload_n dX10_cutAll_269 rfl ?_
  refine x_lload dX10_cutAll_270 rfl ?_
  have hg_7 := x_gd hf
  replace hf := hg_7.2
  refine f_last dX10_cutAll_272 (by decide) sh_91 hg_7.1 ?_
  refine x_iinc (v := x1 + 1) (lv' := [(0, .ref (xB E + 87)), (1, .int (x1 + 1)), (2, .int (x2))]) dX10_cutAll_273 1 [1, 0, 2] rfl rfl (by decide) rfl ?_
  refine x_goto 17 dX10_cutAll_276 (by decide) ?_
  exact hrec _ _ _ hf
set_option maxHeartbeats 4000000 in
set_option maxRecDepth 100000 in
theorem pJ_X10_cutAll_210 {E : xE} {d : Nat} {Q : Option Value → xS → Prop} (hd : 3 ≤ d) (out : Int32 × xMem) (hR : Q none (xf E out.2)) (rec : Int32 → Int64 → xMem → Option (Int32 × xMem)) (c218 : Int32 → Int64 → xMem → Option (Int32 × xMem)) (x1 : Int32) (x2 : Int32) (x4 : Int32) (s0 : Int64) (hrec : ∀ (x2 : Int32) (l5 : Int64) (m : xMem), rec x2 l5 m = some out → xX E mX10_cutAll d 0 0 0 0 Q 159 [(0, .ref (xB E + 87)), (1, .int (x1)), (2, .int (x2)), (4, .int (x4)), (5, .long (l5))] [] (xf E m)) (hc218 : ∀ (x2 : Int32) (l5 : Int64) (m : xMem), c218 x2 l5 m = some out → xX E mX10_cutAll d 0 0 0 0 Q 218 [(0, .ref (xB E + 87)), (1, .int (x1)), (2, .int (x2)), (4, .int (x4)), (5, .long (l5))] [] (xf E m)) (m : xMem) (hf : J_X10_cutAll_210 rec c218 x1 x2 x4 s0 m = some out) : xX E mX10_cutAll d 0 0 0 0 Q 210 [(0, .ref (xB E + 87)), (1, .int (x1)), (2, .int (x2)), (4, .int (x4))] [.long (s0)] (xf E m) := by
  unfold J_X10_cutAll_210 at hf
  refine x_lstore (lv' := [(0, .ref (xB E + 87)), (1, .int (x1)), (2, .int (x2)), (4, .int (x4)), (5, .long (s0))]) dX10_cutAll_210 [1, 2, 3, 4, 0] (by decide) rfl ?_
  refine x_iinc (v := x2 + 1) (lv' := [(0, .ref (xB E + 87)), (1, .int (x1)), (2, .int (x2 + 1)), (4, .int (x4)), (5, .long (s0))]) dX10_cutAll_212 2 [1, 2, 0, 3, 4] rfl rfl (by decide) rfl ?_
  refine x_goto 159 dX10_cutAll_215 (by decide) ?_
  exact hrec _ _ _ hf
set_option maxHeartbeats 4000000 in
set_option maxRecDepth 100000 in
theorem pL_X10_cutAll_159 {E : xE} {d : Nat} {Q : Option Value → xS → Prop} (hd : 3 ≤ d) (out : Int32 × xMem) (hR : Q none (xf E out.2)) (x1 : Int32) (x4 : Int32) (c218 : Int32 → Int64 → xMem → Option (Int32 × xMem)) (hc218 : ∀ (x2 : Int32) (l5 : Int64) (m : xMem), c218 x2 l5 m = some out → xX E mX10_cutAll d 0 0 0 0 Q 218 [(0, .ref (xB E + 87)), (1, .int (x1)), (2, .int (x2)), (4, .int (x4)), (5, .long (l5))] [] (xf E m)) : ∀ (fk : Nat) (x2 : Int32) (l5 : Int64) (m : xMem), L_X10_cutAll_159 x1 x4 c218 fk x2 l5 m = some out → xX E mX10_cutAll d 0 0 0 0 Q 159 [(0, .ref (xB E + 87)), (1, .int (x1)), (2, .int (x2)), (4, .int (x4)), (5, .long (l5))] [] (xf E m) := by
  intro fk
  induction fk with
  | zero => intro x2 l5 m hf; cases hf
  | succ fk ih =>
    intro x2 l5 m hf
    rw [L_X10_cutAll_159] at hf
    refine x_iload_n dX10_cutAll_159 rfl ?_
    refine x_aload_n dX10_cutAll_160 rfl ?_
    refine f_getI dX10_cutAll_161 xcl_10 (by decide) fl_RX10_156 (by decide) sh_87 rfl ?_
    refine x_icmp_ge 218 dX10_cutAll_164 (by decide) (fun hc => ?_) (fun hc => ?_)
    · replace hf := x_ift hc hf
      exact hc218 _ _ _ hf
    · replace hf := x_iff hc hf
      refine x_aload_n dX10_cutAll_167 rfl ?_
      refine f_getR (b := 88) dX10_cutAll_168 xcl_10 (by decide) fl_RX10_14 (by decide) sh_87 rfl ?_
      refine x_iload_n dX10_cutAll_171 rfl ?_
      have hg_9 := x_gd hf
      replace hf := hg_9.2
      refine f_iald dX10_cutAll_172 (by decide) sh_88 hg_9.1 ?_
      obtain ⟨q_10, hq_10, hf⟩ := Option.bind_eq_some_iff.mp hf
      refine f_cSi mX10_isDigit [.int (m.1 am_tape x2.toNatClampNeg)] [] dX10_cutAll_173 cs_RX10_165 w_1107 rfl rfl (Nat.le_of_ble_eq_true rfl) (by omega) (c_X10_isDigit (d := d - 1) (by omega) (m.1 am_tape x2.toNatClampNeg) m q_10 hq_10) ?_
      refine x_if_eq 218 dX10_cutAll_176 (by decide) (fun hc => ?_) (fun hc => ?_)
      · replace hf := x_ift hc hf
        exact hc218 _ _ _ hf
      · replace hf := x_iff hc hf
        refine x_iload_n dX10_cutAll_179 rfl ?_
        refine x_iload dX10_cutAll_180 rfl ?_
        refine x_isub dX10_cutAll_182 ?_
        refine x_iconst (v := 4) dX10_cutAll_183 (by decide) ?_
        refine x_icmp_ge 208 dX10_cutAll_184 (by decide) (fun hc => ?_) (fun hc => ?_)
        · replace hf := x_ift hc hf
          refine x_lload dX10_cutAll_208 rfl ?_
          refine x_lv (lv' := [(0, .ref (xB E + 87)), (1, .int (x1)), (2, .int (x2)), (4, .int (x4))]) [0, 1, 2, 3] rfl ?_
          exact pJ_X10_cutAll_210 hd out hR _ _ _ _ _ _ (fun y0 y1 m9 h9 => ih y0 y1 m9 h9) hc218 _ hf
        · replace hf := x_iff hc hf
          refine x_ldc2 (v := 10) dX10_cutAll_187 w_1109 ?_
          refine x_lload dX10_cutAll_190 rfl ?_
          refine x_lmul dX10_cutAll_192 ?_
          refine x_aload_n dX10_cutAll_193 rfl ?_
          refine f_getR (b := 88) dX10_cutAll_194 xcl_10 (by decide) fl_RX10_14 (by decide) sh_87 rfl ?_
          refine x_iload_n dX10_cutAll_197 rfl ?_
          have hg_11 := x_gd hf
          replace hf := hg_11.2
          refine f_iald dX10_cutAll_198 (by decide) sh_88 hg_11.1 ?_
          refine x_i2l dX10_cutAll_199 ?_
          refine x_ladd dX10_cutAll_200 ?_
          refine x_ldc2 (v := 48) dX10_cutAll_201 w_1110 ?_
          refine x_lsub dX10_cutAll_204 ?_
          refine x_goto 210 dX10_cutAll_205 (by decide) ?_
          refine x_lv (lv' := [(0, .ref (xB E + 87)), (1, .int (x1)), (2, .int (x2)), (4, .int (x4))]) [0, 1, 2, 3] rfl ?_
          exact pJ_X10_cutAll_210 hd out hR _ _ _ _ _ _ (fun y0 y1 m9 h9 => ih y0 y1 m9 h9) hc218 _ hf
set_option maxHeartbeats 4000000 in
set_option maxRecDepth 100000 in
theorem pJ_X10_cutAll_121 {E : xE} {d : Nat} {Q : Option Value → xS → Prop} (hd : 3 ≤ d) (out : Int32 × xMem) (hR : Q none (xf E out.2)) (rec : Int32 → Int64 → xMem → Option (Int32 × xMem)) (c129 : Int32 → Int64 → xMem → Option (Int32 × xMem)) (x1 : Int32) (x2 : Int32) (x4 : Int32) (s0 : Int64) (hrec : ∀ (x2 : Int32) (l5 : Int64) (m : xMem), rec x2 l5 m = some out → xX E mX10_cutAll d 0 0 0 0 Q 70 [(0, .ref (xB E + 87)), (1, .int (x1)), (2, .int (x2)), (4, .int (x4)), (5, .long (l5))] [] (xf E m)) (hc129 : ∀ (x2 : Int32) (l5 : Int64) (m : xMem), c129 x2 l5 m = some out → xX E mX10_cutAll d 0 0 0 0 Q 129 [(0, .ref (xB E + 87)), (1, .int (x1)), (2, .int (x2)), (4, .int (x4)), (5, .long (l5))] [] (xf E m)) (m : xMem) (hf : J_X10_cutAll_121 rec c129 x1 x2 x4 s0 m = some out) : xX E mX10_cutAll d 0 0 0 0 Q 121 [(0, .ref (xB E + 87)), (1, .int (x1)), (2, .int (x2)), (4, .int (x4))] [.long (s0)] (xf E m) := by
  unfold J_X10_cutAll_121 at hf
  refine x_lstore (lv' := [(0, .ref (xB E + 87)), (1, .int (x1)), (2, .int (x2)), (4, .int (x4)), (5, .long (s0))]) dX10_cutAll_121 [1, 2, 3, 4, 0] (by decide) rfl ?_
  refine x_iinc (v := x2 + 1) (lv' := [(0, .ref (xB E + 87)), (1, .int (x1)), (2, .int (x2 + 1)), (4, .int (x4)), (5, .long (s0))]) dX10_cutAll_123 2 [1, 2, 0, 3, 4] rfl rfl (by decide) rfl ?_
  refine x_goto 70 dX10_cutAll_126 (by decide) ?_
  exact hrec _ _ _ hf
set_option maxHeartbeats 4000000 in
set_option maxRecDepth 100000 in
theorem pL_X10_cutAll_70 {E : xE} {d : Nat} {Q : Option Value → xS → Prop} (hd : 3 ≤ d) (out : Int32 × xMem) (hR : Q none (xf E out.2)) (x1 : Int32) (x4 : Int32) (c129 : Int32 → Int64 → xMem → Option (Int32 × xMem)) (hc129 : ∀ (x2 : Int32) (l5 : Int64) (m : xMem), c129 x2 l5 m = some out → xX E mX10_cutAll d 0 0 0 0 Q 129 [(0, .ref (xB E + 87)), (1, .int (x1)), (2, .int (x2)), (4, .int (x4)), (5, .long (l5))] [] (xf E m)) : ∀ (fk : Nat) (x2 : Int32) (l5 : Int64) (m : xMem), L_X10_cutAll_70 x1 x4 c129 fk x2 l5 m = some out → xX E mX10_cutAll d 0 0 0 0 Q 70 [(0, .ref (xB E + 87)), (1, .int (x1)), (2, .int (x2)), (4, .int (x4)), (5, .long (l5))] [] (xf E m) := by
  intro fk
  induction fk with
  | zero => intro x2 l5 m hf; cases hf
  | succ fk ih =>
    intro x2 l5 m hf
    rw [L_X10_cutAll_70] at hf
    refine x_iload_n dX10_cutAll_70 rfl ?_
    refine x_aload_n dX10_cutAll_71 rfl ?_
    refine f_getI dX10_cutAll_72 xcl_10 (by decide) fl_RX10_156 (by decide) sh_87 rfl ?_
    refine x_icmp_ge 129 dX10_cutAll_75 (by decide) (fun hc => ?_) (fun hc => ?_)
    · replace hf := x_ift hc hf
      exact hc129 _ _ _ hf
    · replace hf := x_iff hc hf
      refine x_aload_n dX10_cutAll_78 rfl ?_
      refine f_getR (b := 88) dX10_cutAll_79 xcl_10 (by decide) fl_RX10_14 (by decide) sh_87 rfl ?_
      refine x_iload_n dX10_cutAll_82 rfl ?_
      have hg_23 := x_gd hf
      replace hf := hg_23.2
      refine f_iald dX10_cutAll_83 (by decide) sh_88 hg_23.1 ?_
      obtain ⟨q_24, hq_24, hf⟩ := Option.bind_eq_some_iff.mp hf
      refine f_cSi mX10_isLetter [.int (m.1 am_tape x2.toNatClampNeg)] [] dX10_cutAll_84 cs_RX10_152 w_1100 rfl rfl (Nat.le_of_ble_eq_true rfl) (by omega) (c_X10_isLetter (d := d - 1) (by omega) (m.1 am_tape x2.toNatClampNeg) m q_24 hq_24) ?_
      refine x_if_eq 129 dX10_cutAll_87 (by decide) (fun hc => ?_) (fun hc => ?_)
      · replace hf := x_ift hc hf
        exact hc129 _ _ _ hf
      · replace hf := x_iff hc hf
        refine x_iload_n dX10_cutAll_90 rfl ?_
        refine x_iload dX10_cutAll_91 rfl ?_
        refine x_isub dX10_cutAll_93 ?_
        refine x_bipush (v := 8) dX10_cutAll_94 (by decide) ?_
        refine x_icmp_ge 119 dX10_cutAll_96 (by decide) (fun hc => ?_) (fun hc => ?_)
        · replace hf := x_ift hc hf
          refine x_lload dX10_cutAll_119 rfl ?_
          refine x_lv (lv' := [(0, .ref (xB E + 87)), (1, .int (x1)), (2, .int (x2)), (4, .int (x4))]) [0, 1, 2, 3] rfl ?_
          exact pJ_X10_cutAll_121 hd out hR _ _ _ _ _ _ (fun y0 y1 m9 h9 => ih y0 y1 m9 h9) hc129 _ hf
        · replace hf := x_iff hc hf
          refine x_ldc2 (v := 37) dX10_cutAll_99 w_1102 ?_
          refine x_lload dX10_cutAll_102 rfl ?_
          refine x_lmul dX10_cutAll_104 ?_
          refine x_aload_n dX10_cutAll_105 rfl ?_
          refine f_getR (b := 88) dX10_cutAll_106 xcl_10 (by decide) fl_RX10_14 (by decide) sh_87 rfl ?_
          refine x_iload_n dX10_cutAll_109 rfl ?_
          have hg_25 := x_gd hf
          replace hf := hg_25.2
          refine f_iald dX10_cutAll_110 (by decide) sh_88 hg_25.1 ?_
          obtain ⟨q_26, hq_26, hf⟩ := Option.bind_eq_some_iff.mp hf
          refine f_cSi mX10_rank [.int (q_24.2.1 am_tape x2.toNatClampNeg)] [.long ((37 : Int64) * l5)] dX10_cutAll_111 cs_RX10_161 w_1104 rfl rfl (Nat.le_of_ble_eq_true rfl) (by omega) (c_X10_rank (d := d - 1) (by omega) (q_24.2.1 am_tape x2.toNatClampNeg) q_24.2 q_26 hq_26) ?_
          refine x_i2l dX10_cutAll_114 ?_
          refine x_ladd dX10_cutAll_115 ?_
          refine x_goto 121 dX10_cutAll_116 (by decide) ?_
          refine x_lv (lv' := [(0, .ref (xB E + 87)), (1, .int (x1)), (2, .int (x2)), (4, .int (x4))]) [0, 1, 2, 3] rfl ?_
          exact pJ_X10_cutAll_121 hd out hR _ _ _ _ _ _ (fun y0 y1 m9 h9 => ih y0 y1 m9 h9) hc129 _ hf
set_option maxHeartbeats 4000000 in
set_option maxRecDepth 100000 in
theorem pL_X10_cutAll_17 {E : xE} {d : Nat} {Q : Option Value → xS → Prop} (hd : 3 ≤ d) (out : Int32 × xMem) (hR : Q none (xf E out.2)) (c279 : Int32 → xMem → Option (Int32 × xMem)) (hc279 : ∀ (x1 : Int32) (m : xMem), c279 x1 m = some out → xX E mX10_cutAll d 0 0 0 0 Q 279 [(0, .ref (xB E + 87)), (1, .int (x1))] [] (xf E m)) : ∀ (fk : Nat) (x1 : Int32) (x2 : Int32) (m : xMem), L_X10_cutAll_17 c279 fk x1 x2 m = some out → xX E mX10_cutAll d 0 0 0 0 Q 17 [(0, .ref (xB E + 87)), (1, .int (x1)), (2, .int (x2))] [] (xf E m) := by
  intro fk
  induction fk with
  | zero => intro x1 x2 m hf; cases hf
  | succ fk ih =>
    intro x1 x2 m hf
    rw [L_X10_cutAll_17] at hf
    refine x_iload_n dX10_cutAll_17 rfl ?_
    refine x_aload_n dX10_cutAll_18 rfl ?_
    refine f_getI dX10_cutAll_19 xcl_10 (by decide) fl_RX10_156 (by decide) sh_87 rfl ?_
    refine x_icmp_ge 279 dX10_cutAll_22 (by decide) (fun hc => ?_) (fun hc => ?_)
    · replace hf := x_ift hc hf
      refine x_lv (lv' := [(0, .ref (xB E + 87)), (1, .int (x1))]) [0, 1] rfl ?_
      exact hc279 _ _ hf
    · replace hf := x_iff hc hf
      refine x_aload_n dX10_cutAll_25 rfl ?_
      refine f_getR (b := 88) dX10_cutAll_26 xcl_10 (by decide) fl_RX10_14 (by decide) sh_87 rfl ?_
      refine x_iload_n dX10_cutAll_29 rfl ?_
      have hg_1 := x_gd hf
      replace hf := hg_1.2
      refine f_iald dX10_cutAll_30 (by decide) sh_88 hg_1.1 ?_
      refine x_istore_n (lv' := [(0, .ref (xB E + 87)), (1, .int (x1)), (2, .int (x2)), (3, .int (m.1 am_tape x2.toNatClampNeg))]) dX10_cutAll_31 [1, 2, 3, 0] (by decide) rfl ?_
      refine x_iload_n dX10_cutAll_32 rfl ?_
      refine x_bipush (v := 10) dX10_cutAll_33 (by decide) ?_
      refine x_icmp_eq 44 dX10_cutAll_35 (by decide) (fun hc => ?_) (fun hc => ?_)
      · replace hf := x_ift hc hf
        refine x_lv (lv' := [(0, .ref (xB E + 87)), (1, .int (x1)), (2, .int (x2))]) [0, 1, 2] rfl ?_
        exact pJ_X10_cutAll_44 hd out hR _ _ _ _ (fun y0 y1 m9 h9 => ih y0 y1 m9 h9) hc279 _ hf
      · replace hf := x_iff hc hf
        refine x_iload_n dX10_cutAll_38 rfl ?_
        refine x_bipush (v := 32) dX10_cutAll_39 (by decide) ?_
        refine x_icmp_ne 50 dX10_cutAll_41 (by decide) (fun hc => ?_) (fun hc => ?_)
        · replace hf := x_iff hc hf
          refine x_iload_n dX10_cutAll_50 rfl ?_
          refine x_istore (lv' := [(0, .ref (xB E + 87)), (1, .int (x1)), (2, .int (x2)), (3, .int (m.1 am_tape x2.toNatClampNeg)), (4, .int (x2))]) dX10_cutAll_51 [1, 2, 3, 4, 0] (by decide) rfl ?_
          refine x_lconst (v := 0) dX10_cutAll_53 (by decide) ?_
          refine x_lstore (lv' := [(0, .ref (xB E + 87)), (1, .int (x1)), (2, .int (x2)), (3, .int (m.1 am_tape x2.toNatClampNeg)), (4, .int (x2)), (5, .long ((0 : Int64)))]) dX10_cutAll_54 [1, 2, 3, 4, 5, 0] (by decide) rfl ?_
          refine x_aload_n dX10_cutAll_56 rfl ?_
          refine f_getR (b := 90) dX10_cutAll_57 xcl_10 (by decide) fl_RX10_27 (by decide) sh_87 rfl ?_
          refine x_iload_n dX10_cutAll_60 rfl ?_
          refine x_iload_n dX10_cutAll_61 rfl ?_
          have hg_2 := x_gd hf
          replace hf := hg_2.2
          refine f_iast dX10_cutAll_62 (by decide) sh_90 hg_2.1 ?_
          refine x_iload_n dX10_cutAll_63 rfl ?_
          obtain ⟨q_3, hq_3, hf⟩ := Option.bind_eq_some_iff.mp hf
          refine f_cSi mX10_isLetter [.int (m.1 am_tape x2.toNatClampNeg)] [] dX10_cutAll_64 cs_RX10_152 w_1100 rfl rfl (Nat.le_of_ble_eq_true rfl) (by omega) (c_X10_isLetter (d := d - 1) (by omega) (m.1 am_tape x2.toNatClampNeg) (xst m.1 am_place x1.toNatClampNeg x2, m.2) q_3 hq_3) ?_
          refine x_if_eq 152 dX10_cutAll_67 (by decide) (fun hc => ?_) (fun hc => ?_)
          · replace hf := x_ift hc hf
            refine x_iload_n dX10_cutAll_152 rfl ?_
            obtain ⟨q_4, hq_4, hf⟩ := Option.bind_eq_some_iff.mp hf
            refine f_cSi mX10_isDigit [.int (m.1 am_tape x2.toNatClampNeg)] [] dX10_cutAll_153 cs_RX10_165 w_1107 rfl rfl (Nat.le_of_ble_eq_true rfl) (by omega) (c_X10_isDigit (d := d - 1) (by omega) (m.1 am_tape x2.toNatClampNeg) q_3.2 q_4 hq_4) ?_
            refine x_if_eq 240 dX10_cutAll_156 (by decide) (fun hc => ?_) (fun hc => ?_)
            · replace hf := x_ift hc hf
              refine x_iload_n dX10_cutAll_240 rfl ?_
              refine x_i2l dX10_cutAll_241 ?_
              refine x_lstore (lv' := [(0, .ref (xB E + 87)), (1, .int (x1)), (2, .int (x2)), (3, .int (m.1 am_tape x2.toNatClampNeg)), (5, .long ((m.1 am_tape x2.toNatClampNeg).toInt64))]) dX10_cutAll_242 [1, 2, 3, 4, 0] (by decide) rfl ?_
              refine x_aload_n dX10_cutAll_244 rfl ?_
              refine f_getR (b := 89) dX10_cutAll_245 xcl_10 (by decide) fl_RX10_24 (by decide) sh_87 rfl ?_
              refine x_iload_n dX10_cutAll_248 rfl ?_
              refine x_iload_n dX10_cutAll_249 rfl ?_
              obtain ⟨q_5, hq_5, hf⟩ := Option.bind_eq_some_iff.mp hf
              refine f_cSi mX10_isSignOf [.int (m.1 am_tape x2.toNatClampNeg)] [.int (x1), .ref (xB E + 89)] dX10_cutAll_250 cs_RX10_172 w_1112 rfl rfl (Nat.le_of_ble_eq_true rfl) (by omega) (c_X10_isSignOf (d := d - 1) (by omega) (m.1 am_tape x2.toNatClampNeg) q_4.2 q_5 hq_5) ?_
              refine x_if_eq 260 dX10_cutAll_253 (by decide) (fun hc => ?_) (fun hc => ?_)
              · replace hf := x_ift hc hf
                refine x_iconst (v := 4) dX10_cutAll_260 (by decide) ?_
                have hg_6 := x_gd hf
                replace hf := hg_6.2
                refine f_iast dX10_cutAll_261 (by decide) sh_89 hg_6.1 ?_
                refine x_iinc (v := x2 + 1) (lv' := [(0, .ref (xB E + 87)), (1, .int (x1)), (2, .int (x2 + 1)), (5, .long ((m.1 am_tape x2.toNatClampNeg).toInt64))]) dX10_cutAll_262 2 [1, 2, 0, 4] rfl rfl (by decide) rfl ?_
                exact pJ_X10_cutAll_265 hd out hR _ _ _ _ _ (fun y0 y1 m9 h9 => ih y0 y1 m9 h9) hc279 _ hf
              · replace hf := x_iff hc hf
                refine x_iconst (v := 3) dX10_cutAll_256 (by decide) ?_
                refine x_goto 261 dX10_cutAll_257 (by decide) ?_
                have hg_8 := x_gd hf
                replace hf := hg_8.2
                refine f_iast dX10_cutAll_261 (by decide) sh_89 hg_8.1 ?_
                refine x_iinc (v := x2 + 1) (lv' := [(0, .ref (xB E + 87)), (1, .int (x1)), (2, .int (x2 + 1)), (5, .long ((m.1 am_tape x2.toNatClampNeg).toInt64))]) dX10_cutAll_262 2 [1, 2, 0, 4] rfl rfl (by decide) rfl ?_
                exact pJ_X10_cutAll_265 hd out hR _ _ _ _ _ (fun y0 y1 m9 h9 => ih y0 y1 m9 h9) hc279 _ hf
            · replace hf := x_iff hc hf
              refine x_lv (lv' := [(0, .ref (xB E + 87)), (1, .int (x1)), (2, .int (x2)), (4, .int (x2)), (5, .long ((0 : Int64)))]) [0, 1, 2, 4, 5] rfl ?_
              refine pL_X10_cutAll_159 hd out hR _ _ _ (fun x2_18 l5_19 m_20 hf => ?_) xfuel _ _ _ hf
              refine x_aload_n dX10_cutAll_218 rfl ?_
              refine f_getR (b := 89) dX10_cutAll_219 xcl_10 (by decide) fl_RX10_24 (by decide) sh_87 rfl ?_
              refine x_iload_n dX10_cutAll_222 rfl ?_
              refine x_iload_n dX10_cutAll_223 rfl ?_
              refine x_iload dX10_cutAll_224 rfl ?_
              refine x_isub dX10_cutAll_226 ?_
              refine x_iconst (v := 4) dX10_cutAll_227 (by decide) ?_
              refine x_icmp_le 235 dX10_cutAll_228 (by decide) (fun hc => ?_) (fun hc => ?_)
              · replace hf := x_ift hc hf
                refine x_iconst (v := 2) dX10_cutAll_235 (by decide) ?_
                have hg_21 := x_gd hf
                replace hf := hg_21.2
                refine f_iast dX10_cutAll_236 (by decide) sh_89 hg_21.1 ?_
                refine x_goto 265 dX10_cutAll_237 (by decide) ?_
                refine x_lv (lv' := [(0, .ref (xB E + 87)), (1, .int (x1)), (2, .int (x2_18)), (5, .long (l5_19))]) [0, 1, 2, 4] rfl ?_
                exact pJ_X10_cutAll_265 hd out hR _ _ _ _ _ (fun y0 y1 m9 h9 => ih y0 y1 m9 h9) hc279 _ hf
              · replace hf := x_iff hc hf
                refine x_iconst (v := 4) dX10_cutAll_231 (by decide) ?_
                refine x_goto 236 dX10_cutAll_232 (by decide) ?_
                have hg_22 := x_gd hf
                replace hf := hg_22.2
                refine f_iast dX10_cutAll_236 (by decide) sh_89 hg_22.1 ?_
                refine x_goto 265 dX10_cutAll_237 (by decide) ?_
                refine x_lv (lv' := [(0, .ref (xB E + 87)), (1, .int (x1)), (2, .int (x2_18)), (5, .long (l5_19))]) [0, 1, 2, 4] rfl ?_
                exact pJ_X10_cutAll_265 hd out hR _ _ _ _ _ (fun y0 y1 m9 h9 => ih y0 y1 m9 h9) hc279 _ hf
          · replace hf := x_iff hc hf
            refine x_lv (lv' := [(0, .ref (xB E + 87)), (1, .int (x1)), (2, .int (x2)), (4, .int (x2)), (5, .long ((0 : Int64)))]) [0, 1, 2, 4, 5] rfl ?_
            refine pL_X10_cutAll_70 hd out hR _ _ _ (fun x2_33 l5_34 m_35 hf => ?_) xfuel _ _ _ hf
            refine x_aload_n dX10_cutAll_129 rfl ?_
            refine f_getR (b := 89) dX10_cutAll_130 xcl_10 (by decide) fl_RX10_24 (by decide) sh_87 rfl ?_
            refine x_iload_n dX10_cutAll_133 rfl ?_
            refine x_iload_n dX10_cutAll_134 rfl ?_
            refine x_iload dX10_cutAll_135 rfl ?_
            refine x_isub dX10_cutAll_137 ?_
            refine x_bipush (v := 8) dX10_cutAll_138 (by decide) ?_
            refine x_icmp_le 147 dX10_cutAll_140 (by decide) (fun hc => ?_) (fun hc => ?_)
            · replace hf := x_ift hc hf
              refine x_iconst (v := 1) dX10_cutAll_147 (by decide) ?_
              have hg_36 := x_gd hf
              replace hf := hg_36.2
              refine f_iast dX10_cutAll_148 (by decide) sh_89 hg_36.1 ?_
              refine x_goto 265 dX10_cutAll_149 (by decide) ?_
              refine x_lv (lv' := [(0, .ref (xB E + 87)), (1, .int (x1)), (2, .int (x2_33)), (5, .long (l5_34))]) [0, 1, 2, 4] rfl ?_
              exact pJ_X10_cutAll_265 hd out hR _ _ _ _ _ (fun y0 y1 m9 h9 => ih y0 y1 m9 h9) hc279 _ hf
            · replace hf := x_iff hc hf
              refine x_iconst (v := 4) dX10_cutAll_143 (by decide) ?_
              refine x_goto 148 dX10_cutAll_144 (by decide) ?_
              have hg_37 := x_gd hf
              replace hf := hg_37.2
              refine f_iast dX10_cutAll_148 (by decide) sh_89 hg_37.1 ?_
              refine x_goto 265 dX10_cutAll_149 (by decide) ?_
              refine x_lv (lv' := [(0, .ref (xB E + 87)), (1, .int (x1)), (2, .int (x2_33)), (5, .long (l5_34))]) [0, 1, 2, 4] rfl ?_
              exact pJ_X10_cutAll_265 hd out hR _ _ _ _ _ (fun y0 y1 m9 h9 => ih y0 y1 m9 h9) hc279 _ hf
        · replace hf := x_ift hc hf
          refine x_lv (lv' := [(0, .ref (xB E + 87)), (1, .int (x1)), (2, .int (x2))]) [0, 1, 2] rfl ?_
          exact pJ_X10_cutAll_44 hd out hR _ _ _ _ (fun y0 y1 m9 h9 => ih y0 y1 m9 h9) hc279 _ hf
set_option maxHeartbeats 4000000 in
set_option maxRecDepth 100000 in
theorem pF_X10_cutAll {E : xE} {d : Nat} {Q : Option Value → xS → Prop} (hd : 3 ≤ d) (out : Int32 × xMem) (hR : Q none (xf E out.2)) (m : xMem) (hf : F_X10_cutAll m = some out) : xX E mX10_cutAll d 0 0 0 0 Q 0 [(0, .ref (xB E + 87))] [] (xf E m) := by
  unfold F_X10_cutAll at hf
  refine x_aload_n dX10_cutAll_0 rfl ?_
  refine x_aload_n dX10_cutAll_1 rfl ?_
  refine f_getI dX10_cutAll_2 xcl_10 (by decide) fl_RX10_11 (by decide) sh_87 rfl ?_
  refine f_putI dX10_cutAll_5 xcl_10 (by decide) fl_RX10_156 rfl rfl (by decide) sh_87 rfl ?_
  refine x_aload_n dX10_cutAll_8 rfl ?_
  refine x_iconst (v := 0) dX10_cutAll_9 (by decide) ?_
  refine f_putI dX10_cutAll_10 xcl_10 (by decide) fl_RX10_11 rfl rfl (by decide) sh_87 rfl ?_
  refine x_iconst (v := 0) dX10_cutAll_13 (by decide) ?_
  refine x_istore_n (lv' := [(0, .ref (xB E + 87)), (1, .int ((0 : Int32)))]) dX10_cutAll_14 [1, 0] (by decide) rfl ?_
  refine x_iconst (v := 0) dX10_cutAll_15 (by decide) ?_
  refine x_istore_n (lv' := [(0, .ref (xB E + 87)), (1, .int ((0 : Int32))), (2, .int ((0 : Int32)))]) dX10_cutAll_16 [1, 2, 0] (by decide) rfl ?_
  refine pL_X10_cutAll_17 hd out hR _ (fun x1_62 m_63 hf => ?_) xfuel _ _ _ hf
  refine x_aload_n dX10_cutAll_279 rfl ?_
  refine f_getR (b := 89) dX10_cutAll_280 xcl_10 (by decide) fl_RX10_24 (by decide) sh_87 rfl ?_
  refine x_iload_n dX10_cutAll_283 rfl ?_
  refine x_iconst (v := 0) dX10_cutAll_284 (by decide) ?_
  have hg_64 := x_gd hf
  replace hf := hg_64.2
  refine f_iast dX10_cutAll_285 (by decide) sh_89 hg_64.1 ?_
  refine x_aload_n dX10_cutAll_286 rfl ?_
  refine f_getR (b := 90) dX10_cutAll_287 xcl_10 (by decide) fl_RX10_27 (by decide) sh_87 rfl ?_
  refine x_iload_n dX10_cutAll_290 rfl ?_
  refine x_aload_n dX10_cutAll_291 rfl ?_
  refine f_getI dX10_cutAll_292 xcl_10 (by decide) fl_RX10_156 (by decide) sh_87 rfl ?_
  have hg_65 := x_gd hf
  replace hf := hg_65.2
  refine f_iast dX10_cutAll_295 (by decide) sh_90 hg_65.1 ?_
  refine x_aload_n dX10_cutAll_296 rfl ?_
  refine x_iconst (v := 0) dX10_cutAll_297 (by decide) ?_
  refine f_putI dX10_cutAll_298 xcl_10 (by decide) fl_RX10_175 rfl rfl (by decide) sh_87 rfl ?_
  refine x_aload_n dX10_cutAll_301 rfl ?_
  refine x_iconst (v := 0) dX10_cutAll_302 (by decide) ?_
  refine f_putI dX10_cutAll_303 xcl_10 (by decide) fl_RX10_178 rfl rfl (by decide) sh_87 rfl ?_
  exact x_vret dX10_cutAll_306 rfl (by cases hf; exact hR)
theorem c_X10_cutAll {E : xE} {d : Nat} (hd : 3 ≤ d) (m : xMem) (out : Int32 × xMem) (h : F_X10_cutAll m = some out) : xCv E mX10_cutAll d [.ref (xB E + 87)] m out.2 :=
  x_enter (by decide +kernel) (Nat.le_of_ble_eq_true rfl) (pF_X10_cutAll hd (Q := _) out ⟨rfl, rfl⟩ m h)
