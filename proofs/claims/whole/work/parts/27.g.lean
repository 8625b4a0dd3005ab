-- X10_isWord
def F_X10_isWord (x1 : Int32) (m : xMem) : Option (Int32 × xMem) :=
  if (m.1 am fGuideBookModel_fault) = 0 then (
    if xin (m.1 am fGuideBookModel_at) 602 = true then (
    if (m.1 am_sort (m.1 am fGuideBookModel_at).toNatClampNeg) = (1 : Int32) then (
      if xin (m.1 am fGuideBookModel_at) 602 = true then (
      if xin x1 9 = true then (
      if (lg_cmp (m.2 am_value (m.1 am fGuideBookModel_at).toNatClampNeg) (m.2 am_words x1.toNatClampNeg)) = 0 then (
        some ((1 : Int32), m))
      else (
        some ((0 : Int32), m)))
      else none)
      else none)
    else (
      some ((0 : Int32), m)))
    else none)
  else (
    some ((0 : Int32), m))
set_option maxHeartbeats 4000000 in
set_option maxRecDepth 100000 in
theorem pF_X10_isWord {E : xE} {d : Nat} {Q : Option Value → xS → Prop} (hd : 1 ≤ d) (out : Int32 × xMem) (hR : Q (some (.int out.1)) (xf E out.2)) (x1 : Int32) (m : xMem) (hf : F_X10_isWord x1 m = some out) : xX E mX10_isWord d 0 0 0 0 Q 0 [(0, .ref (xB E + 87)), (1, .int (x1))] [] (xf E m) := by
  unfold F_X10_isWord at hf
  refine x_aload_n dX10_isWord_0 rfl ?_
  refine f_getI dX10_isWord_1 xcl_10 (by decide) fl_RX10_178 (by decide) sh_87 rfl ?_
  refine x_if_ne 43 dX10_isWord_4 (by decide) (fun hc => ?_) (fun hc => ?_)
  · replace hf := x_iff hc hf
    refine x_iconst (v := 0) dX10_isWord_43 (by decide) ?_
    exact x_zret dX10_isWord_44 rfl (by decide) (by cases hf; exact hR)
  · replace hf := x_ift hc hf
    refine x_aload_n dX10_isWord_7 rfl ?_
    refine f_getR (b := 89) dX10_isWord_8 xcl_10 (by decide) fl_RX10_24 (by decide) sh_87 rfl ?_
    refine x_aload_n dX10_isWord_11 rfl ?_
    refine f_getI dX10_isWord_12 xcl_10 (by decide) fl_RX10_175 (by decide) sh_87 rfl ?_
    have hg_1 := x_gd hf
    replace hf := hg_1.2
    refine f_iald dX10_isWord_15 (by decide) sh_89 hg_1.1 ?_
    refine x_iconst (v := 1) dX10_isWord_16 (by decide) ?_
    refine x_icmp_ne 43 dX10_isWord_17 (by decide) (fun hc => ?_) (fun hc => ?_)
    · replace hf := x_iff hc hf
      refine x_iconst (v := 0) dX10_isWord_43 (by decide) ?_
      exact x_zret dX10_isWord_44 rfl (by decide) (by cases hf; exact hR)
    · replace hf := x_ift hc hf
      refine x_aload_n dX10_isWord_20 rfl ?_
      refine f_getR (b := 91) dX10_isWord_21 xcl_10 (by decide) fl_RX10_30 (by decide) sh_87 rfl ?_
      refine x_aload_n dX10_isWord_24 rfl ?_
      refine f_getI dX10_isWord_25 xcl_10 (by decide) fl_RX10_175 (by decide) sh_87 rfl ?_
      have hg_2 := x_gd hf
      replace hf := hg_2.2
      refine f_lald dX10_isWord_28 (by decide) sh_91 hg_2.1 ?_
      refine x_aload_n dX10_isWord_29 rfl ?_
      refine f_getR (b := 92) dX10_isWord_30 xcl_10 (by decide) fl_RX10_52 (by decide) sh_87 rfl ?_
      refine x_iload_n dX10_isWord_33 rfl ?_
      have hg_3 := x_gd hf
      replace hf := hg_3.2
      refine f_lald dX10_isWord_34 (by decide) sh_92 hg_3.1 ?_
      refine x_lcmp dX10_isWord_35 ?_
      refine x_if_ne 43 dX10_isWord_36 (by decide) (fun hc => ?_) (fun hc => ?_)
      · replace hf := x_iff hc hf
        refine x_iconst (v := 0) dX10_isWord_43 (by decide) ?_
        exact x_zret dX10_isWord_44 rfl (by decide) (by cases hf; exact hR)
      · replace hf := x_ift hc hf
        refine x_iconst (v := 1) dX10_isWord_39 (by decide) ?_
        refine x_goto 44 dX10_isWord_40 (by decide) ?_
        exact x_zret dX10_isWord_44 rfl (by decide) (by cases hf; exact hR)
theorem c_X10_isWord {E : xE} {d : Nat} (hd : 1 ≤ d) (x1 : Int32) (m : xMem) (out : Int32 × xMem) (h : F_X10_isWord x1 m = some out) : xCi E mX10_isWord d [.ref (xB E + 87), .int x1] m out.1 out.2 :=
  x_enter (by decide +kernel) (Nat.le_of_ble_eq_true rfl) (pF_X10_isWord hd (Q := _) out ⟨rfl, rfl⟩ x1 m h)
-- X10_hasWord
def F_X10_hasWord (x1 : Int32) (m : xMem) : Option (Int32 × xMem) :=
  (F_X10_isWord (x1) m).bind fun q_1 => (
  if q_1.1 = 0 then (
    if xbb q_1.1 = true then (
    some (q_1.1, (xst q_1.2.1 am fGuideBookModel_at ((q_1.2.1 am fGuideBookModel_at) + (0 : Int32)), q_1.2.2)))
    else none)
  else (
    if xbb q_1.1 = true then (
    some (q_1.1, (xst q_1.2.1 am fGuideBookModel_at ((q_1.2.1 am fGuideBookModel_at) + (1 : Int32)), q_1.2.2)))
    else none))
set_option maxHeartbeats 4000000 in
set_option maxRecDepth 100000 in
theorem pF_X10_hasWord {E : xE} {d : Nat} {Q : Option Value → xS → Prop} (hd : 2 ≤ d) (out : Int32 × xMem) (hR : Q (some (.int out.1)) (xf E out.2)) (x1 : Int32) (m : xMem) (hf : F_X10_hasWord x1 m = some out) : xX E mX10_hasWord d 0 0 0 0 Q 0 [(0, .ref (xB E + 87)), (1, .int (x1))] [] (xf E m) := by
  unfold F_X10_hasWord at hf
  refine x_aload_n dX10_hasWord_0 rfl ?_
  refine x_iload_n dX10_hasWord_1 rfl ?_
  obtain ⟨q_1, hq_1, hf⟩ := Option.bind_eq_some_iff.mp hf
  refine f_cVi mX10_isWord [.int (x1)] [] dX10_hasWord_2 cs_RX10_188 ⟨w_1120, w_59⟩ (ci := 10) rfl (by decide) sh_87 rfl rfl (Nat.le_of_ble_eq_true rfl) (by omega) (c_X10_isWord (d := d - 1) (by omega) (x1) m q_1 hq_1) ?_
  refine x_istore_n (lv' := [(0, .ref (xB E + 87)), (2, .int (q_1.1))]) dX10_hasWord_5 [1, 0] (by decide) rfl ?_
  refine x_aload_n dX10_hasWord_6 rfl ?_
  refine x_dup dX10_hasWord_7 rfl ?_
  refine f_getI dX10_hasWord_8 xcl_10 (by decide) fl_RX10_175 (by decide) sh_87 rfl ?_
  refine x_iload_n dX10_hasWord_11 rfl ?_
  refine x_if_eq 19 dX10_hasWord_12 (by decide) (fun hc => ?_) (fun hc => ?_)
  · replace hf := x_ift hc hf
    refine x_iconst (v := 0) dX10_hasWord_19 (by decide) ?_
    refine x_iadd dX10_hasWord_20 ?_
    refine f_putI dX10_hasWord_21 xcl_10 (by decide) fl_RX10_175 rfl rfl (by decide) sh_87 rfl ?_
    refine x_iload_n dX10_hasWord_24 rfl ?_
    have hg_2 := x_gd hf
    replace hf := hg_2.2
    exact x_zret dX10_hasWord_25 rfl (xbb_n hg_2.1) (by cases hf; exact hR)
  · replace hf := x_iff hc hf
    refine x_iconst (v := 1) dX10_hasWord_15 (by decide) ?_
    refine x_goto 20 dX10_hasWord_16 (by decide) ?_
    refine x_iadd dX10_hasWord_20 ?_
    refine f_putI dX10_hasWord_21 xcl_10 (by decide) fl_RX10_175 rfl rfl (by decide) sh_87 rfl ?_
    refine x_iload_n dX10_hasWord_24 rfl ?_
    have hg_3 := x_gd hf
    replace hf := hg_3.2
    exact x_zret dX10_hasWord_25 rfl (xbb_n hg_3.1) (by cases hf; exact hR)
theorem c_X10_hasWord {E : xE} {d : Nat} (hd : 2 ≤ d) (x1 : Int32) (m : xMem) (out : Int32 × xMem) (h : F_X10_hasWord x1 m = some out) : xCi E mX10_hasWord d [.ref (xB E + 87), .int x1] m out.1 out.2 :=
  x_enter (by decide +kernel) (Nat.le_of_ble_eq_true rfl) (pF_X10_hasWord hd (Q := _) out ⟨rfl, rfl⟩ x1 m h)
-- X10_wrong
def F_X10_wrong (x1 : Int32) (m : xMem) : Option (Int32 × xMem) :=
  if (m.1 am fGuideBookModel_fault) = 0 then (
    if xin (m.1 am fGuideBookModel_at) 602 = true then (
    some (0, (xst m.1 am fGuideBookModel_fault (x1 + ((16 : Int32) * (m.1 am_place (m.1 am fGuideBookModel_at).toNatClampNeg))), m.2)))
    else none)
  else (
    some (0, m))
set_option maxHeartbeats 4000000 in
set_option maxRecDepth 100000 in
theorem pF_X10_wrong {E : xE} {d : Nat} {Q : Option Value → xS → Prop} (hd : 1 ≤ d) (out : Int32 × xMem) (hR : Q none (xf E out.2)) (x1 : Int32) (m : xMem) (hf : F_X10_wrong x1 m = some out) : xX E mX10_wrong d 0 0 0 0 Q 0 [(0, .ref (xB E + 87)), (1, .int (x1))] [] (xf E m) := by
  unfold F_X10_wrong at hf
  refine x_aload_n dX10_wrong_0 rfl ?_
  refine f_getI dX10_wrong_1 xcl_10 (by decide) fl_RX10_178 (by decide) sh_87 rfl ?_
  refine x_if_ne 25 dX10_wrong_4 (by decide) (fun hc => ?_) (fun hc => ?_)
  · replace hf := x_iff hc hf
    exact x_vret dX10_wrong_25 rfl (by cases hf; exact hR)
  · replace hf := x_ift hc hf
    refine x_aload_n dX10_wrong_7 rfl ?_
    refine x_iload_n dX10_wrong_8 rfl ?_
    refine x_bipush (v := 16) dX10_wrong_9 (by decide) ?_
    refine x_aload_n dX10_wrong_11 rfl ?_
    refine f_getR (b := 90) dX10_wrong_12 xcl_10 (by decide) fl_RX10_27 (by decide) sh_87 rfl ?_
    refine x_aload_n dX10_wrong_15 rfl ?_
    refine f_getI dX10_wrong_16 xcl_10 (by decide) fl_RX10_175 (by decide) sh_87 rfl ?_
    have hg_1 := x_gd hf
    replace hf := hg_1.2
    refine f_iald dX10_wrong_19 (by decide) sh_90 hg_1.1 ?_
    refine x_imul dX10_wrong_20 ?_
    refine x_iadd dX10_wrong_21 ?_
    refine f_putI dX10_wrong_22 xcl_10 (by decide) fl_RX10_178 rfl rfl (by decide) sh_87 rfl ?_
    exact x_vret dX10_wrong_25 rfl (by cases hf; exact hR)
theorem c_X10_wrong {E : xE} {d : Nat} (hd : 1 ≤ d) (x1 : Int32) (m : xMem) (out : Int32 × xMem) (h : F_X10_wrong x1 m = some out) : xCv E mX10_wrong d [.ref (xB E + 87), .int x1] m out.2 :=
  x_enter (by decide +kernel) (Nat.le_of_ble_eq_true rfl) (pF_X10_wrong hd (Q := _) out ⟨rfl, rfl⟩ x1 m h)
-- X10_takeWord
def F_X10_takeWord (x1 : Int32) (m : xMem) : Option (Int32 × xMem) :=
  (F_X10_hasWord (x1) m).bind fun q_1 => (
  if q_1.1 = 0 then (
    (F_X10_wrong ((1 : Int32)) q_1.2).bind fun q_2 => (
    some (0, q_2.2)))
  else (
    some (0, q_1.2)))
set_option maxHeartbeats 4000000 in
set_option maxRecDepth 100000 in
theorem pF_X10_takeWord {E : xE} {d : Nat} {Q : Option Value → xS → Prop} (hd : 3 ≤ d) (out : Int32 × xMem) (hR : Q none (xf E out.2)) (x1 : Int32) (m : xMem) (hf : F_X10_takeWord x1 m = some out) : xX E mX10_takeWord d 0 0 0 0 Q 0 [(0, .ref (xB E + 87)), (1, .int (x1))] [] (xf E m) := by
  unfold F_X10_takeWord at hf
  refine x_aload_n dX10_takeWord_0 rfl ?_
  refine x_iload_n dX10_takeWord_1 rfl ?_
  obtain ⟨q_1, hq_1, hf⟩ := Option.bind_eq_some_iff.mp hf
  refine f_cVi mX10_hasWord [.int (x1)] [] dX10_takeWord_2 cs_RX10_191 ⟨w_1133, w_62⟩ (ci := 10) rfl (by decide) sh_87 rfl rfl (Nat.le_of_ble_eq_true rfl) (by omega) (c_X10_hasWord (d := d - 1) (by omega) (x1) m q_1 hq_1) ?_
  refine x_if_ne 13 dX10_takeWord_5 (by decide) (fun hc => ?_) (fun hc => ?_)
  · replace hf := x_iff hc hf
    exact x_vret dX10_takeWord_13 rfl (by cases hf; exact hR)
  · replace hf := x_ift hc hf
    refine x_aload_n dX10_takeWord_8 rfl ?_
    refine x_iconst (v := 1) dX10_takeWord_9 (by decide) ?_
    obtain ⟨q_2, hq_2, hf⟩ := Option.bind_eq_some_iff.mp hf
    refine f_cVv mX10_wrong [.int ((1 : Int32))] [] dX10_takeWord_10 cs_RX10_184 ⟨w_1124, w_60⟩ (ci := 10) rfl (by decide) sh_87 rfl rfl (Nat.le_of_ble_eq_true rfl) (by omega) (c_X10_wrong (d := d - 1) (by omega) ((1 : Int32)) q_1.2 q_2 hq_2) ?_
    exact x_vret dX10_takeWord_13 rfl (by cases hf; exact hR)
theorem c_X10_takeWord {E : xE} {d : Nat} (hd : 3 ≤ d) (x1 : Int32) (m : xMem) (out : Int32 × xMem) (h : F_X10_takeWord x1 m = some out) : xCv E mX10_takeWord d [.ref (xB E + 87), .int x1] m out.2 :=
  x_enter (by decide +kernel) (Nat.le_of_ble_eq_true rfl) (pF_X10_takeWord hd (Q := _) out ⟨rfl, rfl⟩ x1 m h)
-- X10_opens
def F_X10_opens (m : xMem) : Option (Int32 × xMem) :=
  if xin (m.1 am fGuideBookModel_deep) 7 = true then (
  if xin ((xst m.1 am_sumWaits (m.1 am fGuideBookModel_deep).toNatClampNeg (0 : Int32)) am fGuideBookModel_deep) 7 = true then (
  if xin ((xst (xst m.1 am_sumWaits (m.1 am fGuideBookModel_deep).toNatClampNeg (0 : Int32)) am_signWaits ((xst m.1 am_sumWaits (m.1 am fGuideBookModel_deep).toNatClampNeg (0 : Int32)) am fGuideBookModel_deep).toNatClampNeg (0 : Int32)) am fGuideBookModel_deep) 7 = true then (
  some (0, (xst (xst (xst m.1 am_sumWaits (m.1 am fGuideBookModel_deep).toNatClampNeg (0 : Int32)) am_signWaits ((xst m.1 am_sumWaits (m.1 am fGuideBookModel_deep).toNatClampNeg (0 : Int32)) am fGuideBookModel_deep).toNatClampNeg (0 : Int32)) am_andWaits ((xst (xst m.1 am_sumWaits (m.1 am fGuideBookModel_deep).toNatClampNeg (0 : Int32)) am_signWaits ((xst m.1 am_sumWaits (m.1 am fGuideBookModel_deep).toNatClampNeg (0 : Int32)) am fGuideBookModel_deep).toNatClampNeg (0 : Int32)) am fGuideBookModel_deep).toNatClampNeg (0 : Int32), m.2)))
  else none)
  else none)
  else none
set_option maxHeartbeats 4000000 in
set_option maxRecDepth 100000 in
theorem pF_X10_opens {E : xE} {d : Nat} {Q : Option Value → xS → Prop} (hd : 1 ≤ d) (out : Int32 × xMem) (hR : Q none (xf E out.2)) (m : xMem) (hf : F_X10_opens m = some out) : xX E mX10_opens d 0 0 0 0 Q 0 [(0, .ref (xB E + 87))] [] (xf E m) := by
  unfold F_X10_opens at hf
  refine x_aload_n dX10_opens_0 rfl ?_
  refine f_getR (b := 98) dX10_opens_1 xcl_10 (by decide) fl_RX10_70 (by decide) sh_87 rfl ?_
  refine x_aload_n dX10_opens_4 rfl ?_
  refine f_getI dX10_opens_5 xcl_10 (by decide) fl_RX10_214 (by decide) sh_87 rfl ?_
  refine x_iconst (v := 0) dX10_opens_8 (by decide) ?_
  have hg_1 := x_gd hf
  replace hf := hg_1.2
  refine f_iast dX10_opens_9 (by decide) sh_98 hg_1.1 ?_
  refine x_aload_n dX10_opens_10 rfl ?_
  refine f_getR (b := 99) dX10_opens_11 xcl_10 (by decide) fl_RX10_73 (by decide) sh_87 rfl ?_
  refine x_aload_n dX10_opens_14 rfl ?_
  refine f_getI dX10_opens_15 xcl_10 (by decide) fl_RX10_214 (by decide) sh_87 rfl ?_
  refine x_iconst (v := 0) dX10_opens_18 (by decide) ?_
  have hg_2 := x_gd hf
  replace hf := hg_2.2
  refine f_iast dX10_opens_19 (by decide) sh_99 hg_2.1 ?_
  refine x_aload_n dX10_opens_20 rfl ?_
  refine f_getR (b := 100) dX10_opens_21 xcl_10 (by decide) fl_RX10_76 (by decide) sh_87 rfl ?_
  refine x_aload_n dX10_opens_24 rfl ?_
  refine f_getI dX10_opens_25 xcl_10 (by decide) fl_RX10_214 (by decide) sh_87 rfl ?_
  refine x_iconst (v := 0) dX10_opens_28 (by decide) ?_
  have hg_3 := x_gd hf
  replace hf := hg_3.2
  refine f_iast dX10_opens_29 (by decide) sh_100 hg_3.1 ?_
  exact x_vret dX10_opens_30 rfl (by cases hf; exact hR)
theorem c_X10_opens {E : xE} {d : Nat} (hd : 1 ≤ d) (m : xMem) (out : Int32 × xMem) (h : F_X10_opens m = some out) : xCv E mX10_opens d [.ref (xB E + 87)] m out.2 :=
  x_enter (by decide +kernel) (Nat.le_of_ble_eq_true rfl) (pF_X10_opens hd (Q := _) out ⟨rfl, rfl⟩ m h)
-- X10_partWord
def L_X10_partWord_2 : Nat → Int32 → xMem → Option (Int32 × xMem)
  | 0, _, _ => none
  | fk + 1, x1, m =>
    if (6 : Int32) ≤ x1 then (
      some ((-1 : Int32), m))
    else (
      (F_X10_isWord ((3 : Int32) + x1) m).bind fun q_1 => (
      if q_1.1 = 0 then (
        L_X10_partWord_2 fk (x1 + 1) q_1.2)
      else (
        some (x1, q_1.2))))
def F_X10_partWord (m : xMem) : Option (Int32 × xMem) :=
  L_X10_partWord_2 xfuel ((0 : Int32)) m
set_option maxHeartbeats 4000000 in
set_option maxRecDepth 100000 in
theorem pL_X10_partWord_2 {E : xE} {d : Nat} {Q : Option Value → xS → Prop} (hd : 2 ≤ d) (out : Int32 × xMem) (hR : Q (some (.int out.1)) (xf E out.2)) : ∀ (fk : Nat) (x1 : Int32) (m : xMem), L_X10_partWord_2 fk x1 m = some out → xX E mX10_partWord d 0 0 0 0 Q 2 [(0, .ref (xB E + 87)), (1, .int (x1))] [] (xf E m) := by
  intro fk
  induction fk with
  | zero => intro x1 m hf; cases hf
  | succ fk ih =>
    intro x1 m hf
    rw [L_X10_partWord_2] at hf
    refine x_iload_n dX10_partWord_2 rfl ?_
    refine x_bipush (v := 6) dX10_partWord_3 (by decide) ?_
    refine x_icmp_ge 26 dX10_partWord_5 (by decide) (fun hc => ?_) (fun hc => ?_)
    · replace hf := x_ift hc hf
      refine x_iconst (v := (-1)) dX10_partWord_26 (by decide) ?_
      exact x_iret dX10_partWord_27 rfl (by cases hf; exact hR)
    · replace hf := x_iff hc hf
      refine x_aload_n dX10_partWord_8 rfl ?_
      refine x_iconst (v := 3) dX10_partWord_9 (by decide) ?_
      refine x_iload_n dX10_partWord_10 rfl ?_
      refine x_iadd dX10_partWord_11 ?_
      obtain ⟨q_1, hq_1, hf⟩ := Option.bind_eq_some_iff.mp hf
      refine f_cVi mX10_isWord [.int ((3 : Int32) + x1)] [] dX10_partWord_12 cs_RX10_188 ⟨w_1120, w_59⟩ (ci := 10) rfl (by decide) sh_87 rfl rfl (Nat.le_of_ble_eq_true rfl) (by omega) (c_X10_isWord (d := d - 1) (by omega) ((3 : Int32) + x1) m q_1 hq_1) ?_
      refine x_if_eq 20 dX10_partWord_15 (by decide) (fun hc => ?_) (fun hc => ?_)
      · replace hf := x_ift hc hf
        refine x_iinc (v := x1 + 1) (lv' := [(0, .ref (xB E + 87)), (1, .int (x1 + 1))]) dX10_partWord_20 1 [1, 0] rfl rfl (by decide) rfl ?_
        refine x_goto 2 dX10_partWord_23 (by decide) ?_
        exact ih _ _ hf
      · replace hf := x_iff hc hf
        refine x_iload_n dX10_partWord_18 rfl ?_
        exact x_iret dX10_partWord_19 rfl (by cases hf; exact hR)
set_option maxHeartbeats 4000000 in
set_option maxRecDepth 100000 in
theorem pF_X10_partWord {E : xE} {d : Nat} {Q : Option Value → xS → Prop} (hd : 2 ≤ d) (out : Int32 × xMem) (hR : Q (some (.int out.1)) (xf E out.2)) (m : xMem) (hf : F_X10_partWord m = some out) : xX E mX10_partWord d 0 0 0 0 Q 0 [(0, .ref (xB E + 87))] [] (xf E m) := by
  unfold F_X10_partWord at hf
  refine x_iconst (v := 0) dX10_partWord_0 (by decide) ?_
  refine x_istore_n (lv' := [(0, .ref (xB E + 87)), (1, .int ((0 : Int32)))]) dX10_partWord_1 [1, 0] (by decide) rfl ?_
  refine pL_X10_partWord_2 hd out hR xfuel _ _ hf
theorem c_X10_partWord {E : xE} {d : Nat} (hd : 2 ≤ d) (m : xMem) (out : Int32 × xMem) (h : F_X10_partWord m = some out) : xCi E mX10_partWord d [.ref (xB E + 87)] m out.1 out.2 :=
  x_enter (by decide +kernel) (Nat.le_of_ble_eq_true rfl) (pF_X10_partWord hd (Q := _) out ⟨rfl, rfl⟩ m h)
-- X10_isSign
def F_X10_isSign (x1 : Int32) (m : xMem) : Option (Int32 × xMem) :=
  if (m.1 am fGuideBookModel_fault) = 0 then (
    if xin (m.1 am fGuideBookModel_at) 602 = true then (
    if (m.1 am_sort (m.1 am fGuideBookModel_at).toNatClampNeg) = (3 : Int32) then (
      if xin (m.1 am fGuideBookModel_at) 602 = true then (
      if (lg_cmp (m.2 am_value (m.1 am fGuideBookModel_at).toNatClampNeg) x1.toInt64) = 0 then (
        some ((1 : Int32), m))
      else (
        some ((0 : Int32), m)))
      else none)
    else (
      some ((0 : Int32), m)))
    else none)
  else (
    some ((0 : Int32), m))
set_option maxHeartbeats 4000000 in
set_option maxRecDepth 100000 in
theorem pF_X10_isSign {E : xE} {d : Nat} {Q : Option Value → xS → Prop} (hd : 1 ≤ d) (out : Int32 × xMem) (hR : Q (some (.int out.1)) (xf E out.2)) (x1 : Int32) (m : xMem) (hf : F_X10_isSign x1 m = some out) : xX E mX10_isSign d 0 0 0 0 Q 0 [(0, .ref (xB E + 87)), (1, .int (x1))] [] (xf E m) := by
  unfold F_X10_isSign at hf
  refine x_aload_n dX10_isSign_0 rfl ?_
  refine f_getI dX10_isSign_1 xcl_10 (by decide) fl_RX10_178 (by decide) sh_87 rfl ?_
  refine x_if_ne 39 dX10_isSign_4 (by decide) (fun hc => ?_) (fun hc => ?_)
  · replace hf := x_iff hc hf
    refine x_iconst (v := 0) dX10_isSign_39 (by decide) ?_
    exact x_zret dX10_isSign_40 rfl (by decide) (by cases hf; exact hR)
  · replace hf := x_ift hc hf
    refine x_aload_n dX10_isSign_7 rfl ?_
    refine f_getR (b := 89) dX10_isSign_8 xcl_10 (by decide) fl_RX10_24 (by decide) sh_87 rfl ?_
    refine x_aload_n dX10_isSign_11 rfl ?_
    refine f_getI dX10_isSign_12 xcl_10 (by decide) fl_RX10_175 (by decide) sh_87 rfl ?_
    have hg_1 := x_gd hf
    replace hf := hg_1.2
    refine f_iald dX10_isSign_15 (by decide) sh_89 hg_1.1 ?_
    refine x_iconst (v := 3) dX10_isSign_16 (by decide) ?_
    refine x_icmp_ne 39 dX10_isSign_17 (by decide) (fun hc => ?_) (fun hc => ?_)
    · replace hf := x_iff hc hf
      refine x_iconst (v := 0) dX10_isSign_39 (by decide) ?_
      exact x_zret dX10_isSign_40 rfl (by decide) (by cases hf; exact hR)
    · replace hf := x_ift hc hf
      refine x_aload_n dX10_isSign_20 rfl ?_
      refine f_getR (b := 91) dX10_isSign_21 xcl_10 (by decide) fl_RX10_30 (by decide) sh_87 rfl ?_
      refine x_aload_n dX10_isSign_24 rfl ?_
      refine f_getI dX10_isSign_25 xcl_10 (by decide) fl_RX10_175 (by decide) sh_87 rfl ?_
      have hg_2 := x_gd hf
      replace hf := hg_2.2
      refine f_lald dX10_isSign_28 (by decide) sh_91 hg_2.1 ?_
      refine x_iload_n dX10_isSign_29 rfl ?_
      refine x_i2l dX10_isSign_30 ?_
      refine x_lcmp dX10_isSign_31 ?_
      refine x_if_ne 39 dX10_isSign_32 (by decide) (fun hc => ?_) (fun hc => ?_)
      · replace hf := x_iff hc hf
        refine x_iconst (v := 0) dX10_isSign_39 (by decide) ?_
        exact x_zret dX10_isSign_40 rfl (by decide) (by cases hf; exact hR)
      · replace hf := x_ift hc hf
        refine x_iconst (v := 1) dX10_isSign_35 (by decide) ?_
        refine x_goto 40 dX10_isSign_36 (by decide) ?_
        exact x_zret dX10_isSign_40 rfl (by decide) (by cases hf; exact hR)
theorem c_X10_isSign {E : xE} {d : Nat} (hd : 1 ≤ d) (x1 : Int32) (m : xMem) (out : Int32 × xMem) (h : F_X10_isSign x1 m = some out) : xCi E mX10_isSign d [.ref (xB E + 87), .int x1] m out.1 out.2 :=
  x_enter (by decide +kernel) (Nat.le_of_ble_eq_true rfl) (pF_X10_isSign hd (Q := _) out ⟨rfl, rfl⟩ x1 m h)
-- X10_hasSign
def F_X10_hasSign (x1 : Int32) (m : xMem) : Option (Int32 × xMem) :=
  (F_X10_isSign (x1) m).bind fun q_1 => (
  if q_1.1 = 0 then (
    if xbb q_1.1 = true then (
    some (q_1.1, (xst q_1.2.1 am fGuideBookModel_at ((q_1.2.1 am fGuideBookModel_at) + (0 : Int32)), q_1.2.2)))
    else none)
  else (
    if xbb q_1.1 = true then (
    some (q_1.1, (xst q_1.2.1 am fGuideBookModel_at ((q_1.2.1 am fGuideBookModel_at) + (1 : Int32)), q_1.2.2)))
    else none))
set_option maxHeartbeats 4000000 in
set_option maxRecDepth 100000 in
theorem pF_X10_hasSign {E : xE} {d : Nat} {Q : Option Value → xS → Prop} (hd : 2 ≤ d) (out : Int32 × xMem) (hR : Q (some (.int out.1)) (xf E out.2)) (x1 : Int32) (m : xMem) (hf : F_X10_hasSign x1 m = some out) : xX E mX10_hasSign d 0 0 0 0 Q 0 [(0, .ref (xB E + 87)), (1, .int (x1))] [] (xf E m) := by
  unfold F_X10_hasSign at hf
  refine x_aload_n dX10_hasSign_0 rfl ?_
  refine x_iload_n dX10_hasSign_1 rfl ?_
  obtain ⟨q_1, hq_1, hf⟩ := Option.bind_eq_some_iff.mp hf
  refine f_cVi mX10_isSign [.int (x1)] [] dX10_hasSign_2 cs_RX10_181 ⟨w_1149, w_66⟩ (ci := 10) rfl (by decide) sh_87 rfl rfl (Nat.le_of_ble_eq_true rfl) (by omega) (c_X10_isSign (d := d - 1) (by omega) (x1) m q_1 hq_1) ?_
  refine x_istore_n (lv' := [(0, .ref (xB E + 87)), (2, .int (q_1.1))]) dX10_hasSign_5 [1, 0] (by decide) rfl ?_
  refine x_aload_n dX10_hasSign_6 rfl ?_
  refine x_dup dX10_hasSign_7 rfl ?_
  refine f_getI dX10_hasSign_8 xcl_10 (by decide) fl_RX10_175 (by decide) sh_87 rfl ?_
  refine x_iload_n dX10_hasSign_11 rfl ?_
  refine x_if_eq 19 dX10_hasSign_12 (by decide) (fun hc => ?_) (fun hc => ?_)
  · replace hf := x_ift hc hf
    refine x_iconst (v := 0) dX10_hasSign_19 (by decide) ?_
    refine x_iadd dX10_hasSign_20 ?_
    refine f_putI dX10_hasSign_21 xcl_10 (by decide) fl_RX10_175 rfl rfl (by decide) sh_87 rfl ?_
    refine x_iload_n dX10_hasSign_24 rfl ?_
    have hg_2 := x_gd hf
    replace hf := hg_2.2
    exact x_zret dX10_hasSign_25 rfl (xbb_n hg_2.1) (by cases hf; exact hR)
  · replace hf := x_iff hc hf
    refine x_iconst (v := 1) dX10_hasSign_15 (by decide) ?_
    refine x_goto 20 dX10_hasSign_16 (by decide) ?_
    refine x_iadd dX10_hasSign_20 ?_
    refine f_putI dX10_hasSign_21 xcl_10 (by decide) fl_RX10_175 rfl rfl (by decide) sh_87 rfl ?_
    refine x_iload_n dX10_hasSign_24 rfl ?_
    have hg_3 := x_gd hf
    replace hf := hg_3.2
    exact x_zret dX10_hasSign_25 rfl (xbb_n hg_3.1) (by cases hf; exact hR)
theorem c_X10_hasSign {E : xE} {d : Nat} (hd : 2 ≤ d) (x1 : Int32) (m : xMem) (out : Int32 × xMem) (h : F_X10_hasSign x1 m = some out) : xCi E mX10_hasSign d [.ref (xB E + 87), .int x1] m out.1 out.2 :=
  x_enter (by decide +kernel) (Nat.le_of_ble_eq_true rfl) (pF_X10_hasSign hd (Q := _) out ⟨rfl, rfl⟩ x1 m h)
-- X10_emit
def F_X10_emit (x1 : Int32) (x2 : Int32) (m : xMem) : Option (Int32 × xMem) :=
  if xin (((660 : Int32) * (m.1 am fGuideBookModel_next)) + (m.1 am fGuideBookModel_codes)) 1320 = true then (
  if xin (((660 : Int32) * ((xst m.1 am_op (((660 : Int32) * (m.1 am fGuideBookModel_next)) + (m.1 am fGuideBookModel_codes)).toNatClampNeg x1) am fGuideBookModel_next)) + ((xst m.1 am_op (((660 : Int32) * (m.1 am fGuideBookModel_next)) + (m.1 am fGuideBookModel_codes)).toNatClampNeg x1) am fGuideBookModel_codes)) 1320 = true then (
  some (0, (xst (xst (xst m.1 am_op (((660 : Int32) * (m.1 am fGuideBookModel_next)) + (m.1 am fGuideBookModel_codes)).toNatClampNeg x1) am_one (((660 : Int32) * ((xst m.1 am_op (((660 : Int32) * (m.1 am fGuideBookModel_next)) + (m.1 am fGuideBookModel_codes)).toNatClampNeg x1) am fGuideBookModel_next)) + ((xst m.1 am_op (((660 : Int32) * (m.1 am fGuideBookModel_next)) + (m.1 am fGuideBookModel_codes)).toNatClampNeg x1) am fGuideBookModel_codes)).toNatClampNeg x2) am fGuideBookModel_codes (((xst (xst m.1 am_op (((660 : Int32) * (m.1 am fGuideBookModel_next)) + (m.1 am fGuideBookModel_codes)).toNatClampNeg x1) am_one (((660 : Int32) * ((xst m.1 am_op (((660 : Int32) * (m.1 am fGuideBookModel_next)) + (m.1 am fGuideBookModel_codes)).toNatClampNeg x1) am fGuideBookModel_next)) + ((xst m.1 am_op (((660 : Int32) * (m.1 am fGuideBookModel_next)) + (m.1 am fGuideBookModel_codes)).toNatClampNeg x1) am fGuideBookModel_codes)).toNatClampNeg x2) am fGuideBookModel_codes) + (1 : Int32)), m.2)))
  else none)
  else none
set_option maxHeartbeats 4000000 in
set_option maxRecDepth 100000 in
theorem pF_X10_emit {E : xE} {d : Nat} {Q : Option Value → xS → Prop} (hd : 1 ≤ d) (out : Int32 × xMem) (hR : Q none (xf E out.2)) (x1 : Int32) (x2 : Int32) (m : xMem) (hf : F_X10_emit x1 x2 m = some out) : xX E mX10_emit d 0 0 0 0 Q 0 [(0, .ref (xB E + 87)), (1, .int (x1)), (2, .int (x2))] [] (xf E m) := by
  unfold F_X10_emit at hf
  refine x_aload_n dX10_emit_0 rfl ?_
  refine f_getR (b := 96) dX10_emit_1 xcl_10 (by decide) fl_RX10_64 (by decide) sh_87 rfl ?_
  refine x_sipush (v := 660) dX10_emit_4 (by decide) ?_
  refine x_aload_n dX10_emit_7 rfl ?_
  refine f_getI dX10_emit_8 xcl_10 (by decide) fl_RX10_194 (by decide) sh_87 rfl ?_
  refine x_imul dX10_emit_11 ?_
  refine x_aload_n dX10_emit_12 rfl ?_
  refine f_getI dX10_emit_13 xcl_10 (by decide) fl_RX10_197 (by decide) sh_87 rfl ?_
  refine x_iadd dX10_emit_16 ?_
  refine x_iload_n dX10_emit_17 rfl ?_
  have hg_1 := x_gd hf
  replace hf := hg_1.2
  refine f_iast dX10_emit_18 (by decide) sh_96 hg_1.1 ?_
  refine x_aload_n dX10_emit_19 rfl ?_
  refine f_getR (b := 97) dX10_emit_20 xcl_10 (by decide) fl_RX10_67 (by decide) sh_87 rfl ?_
  refine x_sipush (v := 660) dX10_emit_23 (by decide) ?_
  refine x_aload_n dX10_emit_26 rfl ?_
  refine f_getI dX10_emit_27 xcl_10 (by decide) fl_RX10_194 (by decide) sh_87 rfl ?_
  refine x_imul dX10_emit_30 ?_
  refine x_aload_n dX10_emit_31 rfl ?_
  refine f_getI dX10_emit_32 xcl_10 (by decide) fl_RX10_197 (by decide) sh_87 rfl ?_
  refine x_iadd dX10_emit_35 ?_
  refine x_iload_n dX10_emit_36 rfl ?_
  have hg_2 := x_gd hf
  replace hf := hg_2.2
  refine f_iast dX10_emit_37 (by decide) sh_97 hg_2.1 ?_
  refine x_aload_n dX10_emit_38 rfl ?_
  refine x_dup dX10_emit_39 rfl ?_
  refine f_getI dX10_emit_40 xcl_10 (by decide) fl_RX10_197 (by decide) sh_87 rfl ?_
  refine x_iconst (v := 1) dX10_emit_43 (by decide) ?_
  refine x_iadd dX10_emit_44 ?_
  refine f_putI dX10_emit_45 xcl_10 (by decide) fl_RX10_197 rfl rfl (by decide) sh_87 rfl ?_
  exact x_vret dX10_emit_48 rfl (by cases hf; exact hR)
theorem c_X10_emit {E : xE} {d : Nat} (hd : 1 ≤ d) (x1 : Int32) (x2 : Int32) (m : xMem) (out : Int32 × xMem) (h : F_X10_emit x1 x2 m = some out) : xCv E mX10_emit d [.ref (xB E + 87), .int x1, .int x2] m out.2 :=
  x_enter (by decide +kernel) (Nat.le_of_ble_eq_true rfl) (pF_X10_emit hd (Q := _) out ⟨rfl, rfl⟩ x1 x2 m h)
-- X10_part
def J_X10_part_59 (x1 : Int32) (m : xMem) : Option (Int32 × xMem) :=
  if (m.1 am fGuideBookModel_fault) ≤ 0 then (
    (F_X10_hasSign ((40 : Int32)) m).bind fun q_2 => (
    if q_2.1 = 0 then (
      if 0 ≤ x1 then (
        if 0 ≤ x1 then (
          (F_X10_emit ((2 : Int32)) (x1) q_2.2).bind fun q_3 => (
          some ((0 : Int32), (xst q_3.2.1 am fGuideBookModel_at ((q_3.2.1 am fGuideBookModel_at) + (1 : Int32)), q_3.2.2))))
        else (
          if xin (q_2.2.1 am fGuideBookModel_at) 602 = true then (
          (F_X10_emit ((2 : Int32)) ((q_2.2.2 am_value (q_2.2.1 am fGuideBookModel_at).toNatClampNeg).toInt32) q_2.2).bind fun q_5 => (
          some ((0 : Int32), (xst q_5.2.1 am fGuideBookModel_at ((q_5.2.1 am fGuideBookModel_at) + (1 : Int32)), q_5.2.2))))
          else none))
      else (
        if 0 ≤ x1 then (
          (F_X10_emit ((1 : Int32)) (x1) q_2.2).bind fun q_6 => (
          some ((0 : Int32), (xst q_6.2.1 am fGuideBookModel_at ((q_6.2.1 am fGuideBookModel_at) + (1 : Int32)), q_6.2.2))))
        else (
          if xin (q_2.2.1 am fGuideBookModel_at) 602 = true then (
          (F_X10_emit ((1 : Int32)) ((q_2.2.2 am_value (q_2.2.1 am fGuideBookModel_at).toNatClampNeg).toInt32) q_2.2).bind fun q_8 => (
          some ((0 : Int32), (xst q_8.2.1 am fGuideBookModel_at ((q_8.2.1 am fGuideBookModel_at) + (1 : Int32)), q_8.2.2))))
          else none)))
    else (
      (F_X10_opens (xst q_2.2.1 am fGuideBookModel_deep ((q_2.2.1 am fGuideBookModel_deep) + (1 : Int32)), q_2.2.2)).bind fun q_9 => (
      some ((1 : Int32), q_9.2)))))
  else (
    some ((0 : Int32), m))
def J_X10_part_46 (x1 : Int32) (m : xMem) : Option (Int32 × xMem) :=
  if (m.1 am fGuideBookModel_deep) = (5 : Int32) then (
    (F_X10_wrong ((5 : Int32)) m).bind fun q_10 => (
    J_X10_part_59 (x1) q_10.2))
  else (
    J_X10_part_59 (x1) m)
def F_X10_part (m : xMem) : Option (Int32 × xMem) :=
  (F_X10_partWord m).bind fun q_1 => (
  if (q_1.2.1 am fGuideBookModel_fault) = 0 then (
    if xin (q_1.2.1 am fGuideBookModel_at) 602 = true then (
    if (q_1.2.1 am_sort (q_1.2.1 am fGuideBookModel_at).toNatClampNeg) = (2 : Int32) then (
      J_X10_part_46 (q_1.1) q_1.2)
    else (
      (F_X10_isSign ((40 : Int32)) q_1.2).bind fun q_12 => (
      if q_12.1 = 0 then (
        if 0 ≤ q_1.1 then (
          J_X10_part_46 (q_1.1) q_12.2)
        else (
          (F_X10_wrong ((1 : Int32)) q_12.2).bind fun q_13 => (
          J_X10_part_59 (q_1.1) q_13.2)))
      else (
        J_X10_part_46 (q_1.1) q_12.2))))
    else none)
  else (
    J_X10_part_46 (q_1.1) q_1.2))
set_option maxHeartbeats 4000000 in
set_option maxRecDepth 100000 in
theorem pJ_X10_part_59 {E : xE} {d : Nat} {Q : Option Value → xS → Prop} (hd : 3 ≤ d) (out : Int32 × xMem) (hR : Q (some (.int out.1)) (xf E out.2)) (x1 : Int32) (m : xMem) (hf : J_X10_part_59 x1 m = some out) : xX E mX10_part d 0 0 0 0 Q 59 [(0, .ref (xB E + 87)), (1, .int (x1))] [] (xf E m) := by
  unfold J_X10_part_59 at hf
  refine x_aload_n dX10_part_59 rfl ?_
  refine f_getI dX10_part_60 xcl_10 (by decide) fl_RX10_178 (by decide) sh_87 rfl ?_
  refine x_if_le 68 dX10_part_63 (by decide) (fun hc => ?_) (fun hc => ?_)
  · replace hf := x_ift hc hf
    refine x_aload_n dX10_part_68 rfl ?_
    refine x_bipush (v := 40) dX10_part_69 (by decide) ?_
    obtain ⟨q_2, hq_2, hf⟩ := Option.bind_eq_some_iff.mp hf
    refine f_cVi mX10_hasSign [.int ((40 : Int32))] [] dX10_part_71 cs_RX10_238 ⟨w_1153, w_67⟩ (ci := 10) rfl (by decide) sh_87 rfl rfl (Nat.le_of_ble_eq_true rfl) (by omega) (c_X10_hasSign (d := d - 1) (by omega) ((40 : Int32)) m q_2 hq_2) ?_
    refine x_if_eq 93 dX10_part_74 (by decide) (fun hc => ?_) (fun hc => ?_)
    · replace hf := x_ift hc hf
      refine x_aload_n dX10_part_93 rfl ?_
      refine x_iload_n dX10_part_94 rfl ?_
      refine x_if_ge 102 dX10_part_95 (by decide) (fun hc => ?_) (fun hc => ?_)
      · replace hf := x_ift hc hf
        refine x_iconst (v := 2) dX10_part_102 (by decide) ?_
        refine x_iload_n dX10_part_103 rfl ?_
        refine x_if_ge 120 dX10_part_104 (by decide) (fun hc => ?_) (fun hc => ?_)
        · replace hf := x_ift hc hf
          refine x_iload_n dX10_part_120 rfl ?_
          obtain ⟨q_3, hq_3, hf⟩ := Option.bind_eq_some_iff.mp hf
          refine f_cVv mX10_emit [.int ((2 : Int32)), .int (x1)] [] dX10_part_121 cs_RX10_227 ⟨w_1157, w_68⟩ (ci := 10) rfl (by decide) sh_87 rfl rfl (Nat.le_of_ble_eq_true rfl) (by omega) (c_X10_emit (d := d - 1) (by omega) ((2 : Int32)) (x1) q_2.2 q_3 hq_3) ?_
          refine x_aload_n dX10_part_124 rfl ?_
          refine x_dup dX10_part_125 rfl ?_
          refine f_getI dX10_part_126 xcl_10 (by decide) fl_RX10_175 (by decide) sh_87 rfl ?_
          refine x_iconst (v := 1) dX10_part_129 (by decide) ?_
          refine x_iadd dX10_part_130 ?_
          refine f_putI dX10_part_131 xcl_10 (by decide) fl_RX10_175 rfl rfl (by decide) sh_87 rfl ?_
          refine x_iconst (v := 0) dX10_part_134 (by decide) ?_
          exact x_zret dX10_part_135 rfl (by decide) (by cases hf; exact hR)
        · replace hf := x_iff hc hf
          refine x_aload_n dX10_part_107 rfl ?_
          refine f_getR (b := 91) dX10_part_108 xcl_10 (by decide) fl_RX10_30 (by decide) sh_87 rfl ?_
          refine x_aload_n dX10_part_111 rfl ?_
          refine f_getI dX10_part_112 xcl_10 (by decide) fl_RX10_175 (by decide) sh_87 rfl ?_
          have hg_4 := x_gd hf
          replace hf := hg_4.2
          refine f_lald dX10_part_115 (by decide) sh_91 hg_4.1 ?_
          refine x_l2i dX10_part_116 ?_
          refine x_goto 121 dX10_part_117 (by decide) ?_
          obtain ⟨q_5, hq_5, hf⟩ := Option.bind_eq_some_iff.mp hf
          refine f_cVv mX10_emit [.int ((2 : Int32)), .int ((q_2.2.2 am_value (q_2.2.1 am fGuideBookModel_at).toNatClampNeg).toInt32)] [] dX10_part_121 cs_RX10_227 ⟨w_1157, w_68⟩ (ci := 10) rfl (by decide) sh_87 rfl rfl (Nat.le_of_ble_eq_true rfl) (by omega) (c_X10_emit (d := d - 1) (by omega) ((2 : Int32)) ((q_2.2.2 am_value (q_2.2.1 am fGuideBookModel_at).toNatClampNeg).toInt32) q_2.2 q_5 hq_5) ?_
          refine x_aload_n dX10_part_124 rfl ?_
          refine x_dup dX10_part_125 rfl ?_
          refine f_getI dX10_part_126 xcl_10 (by decide) fl_RX10_175 (by decide) sh_87 rfl ?_
          refine x_iconst (v := 1) dX10_part_129 (by decide) ?_
          refine x_iadd dX10_part_130 ?_
          refine f_putI dX10_part_131 xcl_10 (by decide) fl_RX10_175 rfl rfl (by decide) sh_87 rfl ?_
          refine x_iconst (v := 0) dX10_part_134 (by decide) ?_
          exact x_zret dX10_part_135 rfl (by decide) (by cases hf; exact hR)
      · replace hf := x_iff hc hf
        refine x_iconst (v := 1) dX10_part_98 (by decide) ?_
        refine x_goto 103 dX10_part_99 (by decide) ?_
        refine x_iload_n dX10_part_103 rfl ?_
        refine x_if_ge 120 dX10_part_104 (by decide) (fun hc => ?_) (fun hc => ?_)
        · replace hf := x_ift hc hf
          refine x_iload_n dX10_part_120 rfl ?_
          obtain ⟨q_6, hq_6, hf⟩ := Option.bind_eq_some_iff.mp hf
          refine f_cVv mX10_emit [.int ((1 : Int32)), .int (x1)] [] dX10_part_121 cs_RX10_227 ⟨w_1157, w_68⟩ (ci := 10) rfl (by decide) sh_87 rfl rfl (Nat.le_of_ble_eq_true rfl) (by omega) (c_X10_emit (d := d - 1) (by omega) ((1 : Int32)) (x1) q_2.2 q_6 hq_6) ?_
          refine x_aload_n dX10_part_124 rfl ?_
          refine x_dup dX10_part_125 rfl ?_
          refine f_getI dX10_part_126 xcl_10 (by decide) fl_RX10_175 (by decide) sh_87 rfl ?_
          refine x_iconst (v := 1) dX10_part_129 (by decide) ?_
          refine x_iadd dX10_part_130 ?_
          refine f_putI dX10_part_131 xcl_10 (by decide) fl_RX10_175 rfl rfl (by decide) sh_87 rfl ?_
          refine x_iconst (v := 0) dX10_part_134 (by decide) ?_
          exact x_zret dX10_part_135 rfl (by decide) (by cases hf; exact hR)
        · replace hf := x_iff hc hf
          refine x_aload_n dX10_part_107 rfl ?_
          refine f_getR (b := 91) dX10_part_108 xcl_10 (by decide) fl_RX10_30 (by decide) sh_87 rfl ?_
          refine x_aload_n dX10_part_111 rfl ?_
          refine f_getI dX10_part_112 xcl_10 (by decide) fl_RX10_175 (by decide) sh_87 rfl ?_
          have hg_7 := x_gd hf
          replace hf := hg_7.2
          refine f_lald dX10_part_115 (by decide) sh_91 hg_7.1 ?_
          refine x_l2i dX10_part_116 ?_
          refine x_goto 121 dX10_part_117 (by decide) ?_
          obtain ⟨q_8, hq_8, hf⟩ := Option.bind_eq_some_iff.mp hf
          refine f_cVv mX10_emit [.int ((1 : Int32)), .int ((q_2.2.2 am_value (q_2.2.1 am fGuideBookModel_at).toNatClampNeg).toInt32)] [] dX10_part_121 cs_RX10_227 ⟨w_1157, w_68⟩ (ci := 10) rfl (by decide) sh_87 rfl rfl (Nat.le_of_ble_eq_true rfl) (by omega) (c_X10_emit (d := d - 1) (by omega) ((1 : Int32)) ((q_2.2.2 am_value (q_2.2.1 am fGuideBookModel_at).toNatClampNeg).toInt32) q_2.2 q_8 hq_8) ?_
          refine x_aload_n dX10_part_124 rfl ?_
          refine x_dup dX10_part_125 rfl ?_
          refine f_getI dX10_part_126 xcl_10 (by decide) fl_RX10_175 (by decide) sh_87 rfl ?_
          refine x_iconst (v := 1) dX10_part_129 (by decide) ?_
          refine x_iadd dX10_part_130 ?_
          refine f_putI dX10_part_131 xcl_10 (by decide) fl_RX10_175 rfl rfl (by decide) sh_87 rfl ?_
          refine x_iconst (v := 0) dX10_part_134 (by decide) ?_
          exact x_zret dX10_part_135 rfl (by decide) (by cases hf; exact hR)
    · replace hf := x_iff hc hf
      refine x_aload_n dX10_part_77 rfl ?_
      refine x_dup dX10_part_78 rfl ?_
      refine f_getI dX10_part_79 xcl_10 (by decide) fl_RX10_214 (by decide) sh_87 rfl ?_
      refine x_iconst (v := 1) dX10_part_82 (by decide) ?_
      refine x_iadd dX10_part_83 ?_
      refine f_putI dX10_part_84 xcl_10 (by decide) fl_RX10_214 rfl rfl (by decide) sh_87 rfl ?_
      refine x_aload_n dX10_part_87 rfl ?_
      obtain ⟨q_9, hq_9, hf⟩ := Option.bind_eq_some_iff.mp hf
      refine f_cVv mX10_opens [] [] dX10_part_88 cs_RX10_217 ⟨w_1137, w_63⟩ (ci := 10) rfl (by decide) sh_87 rfl rfl (Nat.le_of_ble_eq_true rfl) (by omega) (c_X10_opens (d := d - 1) (by omega) (xst q_2.2.1 am fGuideBookModel_deep ((q_2.2.1 am fGuideBookModel_deep) + (1 : Int32)), q_2.2.2) q_9 hq_9) ?_
      refine x_iconst (v := 1) dX10_part_91 (by decide) ?_
      exact x_zret dX10_part_92 rfl (by decide) (by cases hf; exact hR)
  · replace hf := x_iff hc hf
    refine x_iconst (v := 0) dX10_part_66 (by decide) ?_
    exact x_zret dX10_part_67 rfl (by decide) (by cases hf; exact hR)
set_option maxHeartbeats 4000000 in
set_option maxRecDepth 100000 in
theorem pJ_X10_part_46 {E : xE} {d : Nat} {Q : Option Value → xS → Prop} (hd : 3 ≤ d) (out : Int32 × xMem) (hR : Q (some (.int out.1)) (xf E out.2)) (x1 : Int32) (m : xMem) (hf : J_X10_part_46 x1 m = some out) : xX E mX10_part d 0 0 0 0 Q 46 [(0, .ref (xB E + 87)), (1, .int (x1))] [] (xf E m) := by
  unfold J_X10_part_46 at hf
  refine x_aload_n dX10_part_46 rfl ?_
  refine f_getI dX10_part_47 xcl_10 (by decide) fl_RX10_214 (by decide) sh_87 rfl ?_
  refine x_iconst (v := 5) dX10_part_50 (by decide) ?_
  refine x_icmp_ne 59 dX10_part_51 (by decide) (fun hc => ?_) (fun hc => ?_)
  · replace hf := x_iff hc hf
    exact pJ_X10_part_59 hd out hR _ _ hf
  · replace hf := x_ift hc hf
    refine x_aload_n dX10_part_54 rfl ?_
    refine x_iconst (v := 5) dX10_part_55 (by decide) ?_
    obtain ⟨q_10, hq_10, hf⟩ := Option.bind_eq_some_iff.mp hf
    refine f_cVv mX10_wrong [.int ((5 : Int32))] [] dX10_part_56 cs_RX10_184 ⟨w_1124, w_60⟩ (ci := 10) rfl (by decide) sh_87 rfl rfl (Nat.le_of_ble_eq_true rfl) (by omega) (c_X10_wrong (d := d - 1) (by omega) ((5 : Int32)) m q_10 hq_10) ?_
    exact pJ_X10_part_59 hd out hR _ _ hf
set_option maxHeartbeats 4000000 in
set_option maxRecDepth 100000 in
theorem pF_X10_part {E : xE} {d : Nat} {Q : Option Value → xS → Prop} (hd : 3 ≤ d) (out : Int32 × xMem) (hR : Q (some (.int out.1)) (xf E out.2)) (m : xMem) (hf : F_X10_part m = some out) : xX E mX10_part d 0 0 0 0 Q 0 [(0, .ref (xB E + 87))] [] (xf E m) := by
  unfold F_X10_part at hf
  refine x_aload_n dX10_part_0 rfl ?_
  obtain ⟨q_1, hq_1, hf⟩ := Option.bind_eq_some_iff.mp hf
  refine f_cVi mX10_partWord [] [] dX10_part_1 cs_RX10_234 ⟨w_1145, w_65⟩ (ci := 10) rfl (by decide) sh_87 rfl rfl (Nat.le_of_ble_eq_true rfl) (by omega) (c_X10_partWord (d := d - 1) (by omega) m q_1 hq_1) ?_
  refine x_istore_n (lv' := [(0, .ref (xB E + 87)), (1, .int (q_1.1))]) dX10_part_4 [1, 0] (by decide) rfl ?_
  refine x_aload_n dX10_part_5 rfl ?_
  refine f_getI dX10_part_6 xcl_10 (by decide) fl_RX10_178 (by decide) sh_87 rfl ?_
  refine x_if_ne 46 dX10_part_9 (by decide) (fun hc => ?_) (fun hc => ?_)
  · replace hf := x_iff hc hf
    exact pJ_X10_part_46 hd out hR _ _ hf
  · replace hf := x_ift hc hf
    refine x_aload_n dX10_part_12 rfl ?_
    refine f_getR (b := 89) dX10_part_13 xcl_10 (by decide) fl_RX10_24 (by decide) sh_87 rfl ?_
    refine x_aload_n dX10_part_16 rfl ?_
    refine f_getI dX10_part_17 xcl_10 (by decide) fl_RX10_175 (by decide) sh_87 rfl ?_
    have hg_11 := x_gd hf
    replace hf := hg_11.2
    refine f_iald dX10_part_20 (by decide) sh_89 hg_11.1 ?_
    refine x_iconst (v := 2) dX10_part_21 (by decide) ?_
    refine x_icmp_eq 46 dX10_part_22 (by decide) (fun hc => ?_) (fun hc => ?_)
    · replace hf := x_ift hc hf
      exact pJ_X10_part_46 hd out hR _ _ hf
    · replace hf := x_iff hc hf
      refine x_aload_n dX10_part_25 rfl ?_
      refine x_bipush (v := 40) dX10_part_26 (by decide) ?_
      obtain ⟨q_12, hq_12, hf⟩ := Option.bind_eq_some_iff.mp hf
      refine f_cVi mX10_isSign [.int ((40 : Int32))] [] dX10_part_28 cs_RX10_181 ⟨w_1149, w_66⟩ (ci := 10) rfl (by decide) sh_87 rfl rfl (Nat.le_of_ble_eq_true rfl) (by omega) (c_X10_isSign (d := d - 1) (by omega) ((40 : Int32)) q_1.2 q_12 hq_12) ?_
      refine x_if_ne 46 dX10_part_31 (by decide) (fun hc => ?_) (fun hc => ?_)
      · replace hf := x_iff hc hf
        exact pJ_X10_part_46 hd out hR _ _ hf
      · replace hf := x_ift hc hf
        refine x_iload_n dX10_part_34 rfl ?_
        refine x_if_ge 46 dX10_part_35 (by decide) (fun hc => ?_) (fun hc => ?_)
        · replace hf := x_ift hc hf
          exact pJ_X10_part_46 hd out hR _ _ hf
        · replace hf := x_iff hc hf
          refine x_aload_n dX10_part_38 rfl ?_
          refine x_iconst (v := 1) dX10_part_39 (by decide) ?_
          obtain ⟨q_13, hq_13, hf⟩ := Option.bind_eq_some_iff.mp hf
          refine f_cVv mX10_wrong [.int ((1 : Int32))] [] dX10_part_40 cs_RX10_184 ⟨w_1124, w_60⟩ (ci := 10) rfl (by decide) sh_87 rfl rfl (Nat.le_of_ble_eq_true rfl) (by omega) (c_X10_wrong (d := d - 1) (by omega) ((1 : Int32)) q_12.2 q_13 hq_13) ?_
          refine x_goto 59 dX10_part_43 (by decide) ?_
          exact pJ_X10_part_59 hd out hR _ _ hf
theorem c_X10_part {E : xE} {d : Nat} (hd : 3 ≤ d) (m : xMem) (out : Int32 × xMem) (h : F_X10_part m = some out) : xCi E mX10_part d [.ref (xB E + 87)] m out.1 out.2 :=
  x_enter (by decide +kernel) (Nat.le_of_ble_eq_true rfl) (pF_X10_part hd (Q := _) out ⟨rfl, rfl⟩ m h)
-- X10_takeSign
def F_X10_takeSign (x1 : Int32) (m : xMem) : Option (Int32 × xMem) :=
  (F_X10_isSign (x1) m).bind fun q_1 => (
  if q_1.1 = 0 then (
    (F_X10_wrong ((1 : Int32)) q_1.2).bind fun q_2 => (
    some (0, q_2.2)))
  else (
    some (0, (xst q_1.2.1 am fGuideBookModel_at ((q_1.2.1 am fGuideBookModel_at) + (1 : Int32)), q_1.2.2))))
set_option maxHeartbeats 4000000 in
set_option maxRecDepth 100000 in
theorem pF_X10_takeSign {E : xE} {d : Nat} {Q : Option Value → xS → Prop} (hd : 2 ≤ d) (out : Int32 × xMem) (hR : Q none (xf E out.2)) (x1 : Int32) (m : xMem) (hf : F_X10_takeSign x1 m = some out) : xX E mX10_takeSign d 0 0 0 0 Q 0 [(0, .ref (xB E + 87)), (1, .int (x1))] [] (xf E m) := by
  unfold F_X10_takeSign at hf
  refine x_aload_n dX10_takeSign_0 rfl ?_
  refine x_iload_n dX10_takeSign_1 rfl ?_
  obtain ⟨q_1, hq_1, hf⟩ := Option.bind_eq_some_iff.mp hf
  refine f_cVi mX10_isSign [.int (x1)] [] dX10_takeSign_2 cs_RX10_181 ⟨w_1149, w_66⟩ (ci := 10) rfl (by decide) sh_87 rfl rfl (Nat.le_of_ble_eq_true rfl) (by omega) (c_X10_isSign (d := d - 1) (by omega) (x1) m q_1 hq_1) ?_
  refine x_if_eq 21 dX10_takeSign_5 (by decide) (fun hc => ?_) (fun hc => ?_)
  · replace hf := x_ift hc hf
    refine x_aload_n dX10_takeSign_21 rfl ?_
    refine x_iconst (v := 1) dX10_takeSign_22 (by decide) ?_
    obtain ⟨q_2, hq_2, hf⟩ := Option.bind_eq_some_iff.mp hf
    refine f_cVv mX10_wrong [.int ((1 : Int32))] [] dX10_takeSign_23 cs_RX10_184 ⟨w_1124, w_60⟩ (ci := 10) rfl (by decide) sh_87 rfl rfl (Nat.le_of_ble_eq_true rfl) (by omega) (c_X10_wrong (d := d - 1) (by omega) ((1 : Int32)) q_1.2 q_2 hq_2) ?_
    exact x_vret dX10_takeSign_26 rfl (by cases hf; exact hR)
  · replace hf := x_iff hc hf
    refine x_aload_n dX10_takeSign_8 rfl ?_
    refine x_dup dX10_takeSign_9 rfl ?_
    refine f_getI dX10_takeSign_10 xcl_10 (by decide) fl_RX10_175 (by decide) sh_87 rfl ?_
    refine x_iconst (v := 1) dX10_takeSign_13 (by decide) ?_
    refine x_iadd dX10_takeSign_14 ?_
    refine f_putI dX10_takeSign_15 xcl_10 (by decide) fl_RX10_175 rfl rfl (by decide) sh_87 rfl ?_
    refine x_goto 26 dX10_takeSign_18 (by decide) ?_
    exact x_vret dX10_takeSign_26 rfl (by cases hf; exact hR)
theorem c_X10_takeSign {E : xE} {d : Nat} (hd : 2 ≤ d) (x1 : Int32) (m : xMem) (out : Int32 × xMem) (h : F_X10_takeSign x1 m = some out) : xCv E mX10_takeSign d [.ref (xB E + 87), .int x1] m out.2 :=
  x_enter (by decide +kernel) (Nat.le_of_ble_eq_true rfl) (pF_X10_takeSign hd (Q := _) out ⟨rfl, rfl⟩ x1 m h)
-- X10_goesOnBehind
def J_X10_goesOnBehind_218 (rec : xMem → Option (Int32 × xMem)) (c61 : xMem → Option (Int32 × xMem)) (c153 : xMem → Option (Int32 × xMem)) (c226 : xMem → Option (Int32 × xMem)) (m : xMem) : Option (Int32 × xMem) :=
  (F_X10_isWord ((2 : Int32)) m).bind fun q_8 => (
  if q_8.1 = 0 then (
    if (q_8.2.1 am fGuideBookModel_deep) = 0 then (
      some ((0 : Int32), q_8.2))
    else (
      (F_X10_takeSign ((41 : Int32)) q_8.2).bind fun q_9 => (
      rec (xst q_9.2.1 am fGuideBookModel_deep ((q_9.2.1 am fGuideBookModel_deep) - (1 : Int32)), q_9.2.2))))
  else (
    c226 q_8.2))
def J_X10_goesOnBehind_189 (rec : xMem → Option (Int32 × xMem)) (c61 : xMem → Option (Int32 × xMem)) (c153 : xMem → Option (Int32 × xMem)) (c226 : xMem → Option (Int32 × xMem)) (m : xMem) : Option (Int32 × xMem) :=
  if xin (m.1 am fGuideBookModel_deep) 7 = true then (
  if (m.1 am_andWaits (m.1 am fGuideBookModel_deep).toNatClampNeg) = 0 then (
    J_X10_goesOnBehind_218 rec c61 c153 c226 m)
  else (
    (F_X10_emit ((7 : Int32)) ((0 : Int32)) m).bind fun q_10 => (
    if xin (q_10.2.1 am fGuideBookModel_deep) 7 = true then (
    J_X10_goesOnBehind_218 rec c61 c153 c226 (xst q_10.2.1 am_andWaits (q_10.2.1 am fGuideBookModel_deep).toNatClampNeg (0 : Int32), q_10.2.2))
    else none)))
  else none
def J_X10_goesOnBehind_43 (rec : xMem → Option (Int32 × xMem)) (c61 : xMem → Option (Int32 × xMem)) (c153 : xMem → Option (Int32 × xMem)) (c226 : xMem → Option (Int32 × xMem)) (m : xMem) : Option (Int32 × xMem) :=
  (F_X10_isSign ((43 : Int32)) m).bind fun q_2 => (
  if q_2.1 = 0 then (
    (F_X10_isSign ((45 : Int32)) q_2.2).bind fun q_3 => (
    if q_3.1 = 0 then (
      if xin (q_3.2.1 am fGuideBookModel_deep) 7 = true then (
      if (q_3.2.1 am_signWaits (q_3.2.1 am fGuideBookModel_deep).toNatClampNeg) = 0 then (
        (F_X10_isSign ((60 : Int32)) q_3.2).bind fun q_5 => (
        if q_5.1 = 0 then (
          (F_X10_isSign ((61 : Int32)) q_5.2).bind fun q_6 => (
          if q_6.1 = 0 then (
            J_X10_goesOnBehind_189 rec c61 c153 c226 q_6.2)
          else (
            c153 q_6.2)))
        else (
          c153 q_5.2)))
      else (
        if xin (q_3.2.1 am fGuideBookModel_deep) 7 = true then (
        (F_X10_emit (q_3.2.1 am_signWaits (q_3.2.1 am fGuideBookModel_deep).toNatClampNeg) ((0 : Int32)) q_3.2).bind fun q_15 => (
        if xin (q_15.2.1 am fGuideBookModel_deep) 7 = true then (
        J_X10_goesOnBehind_189 rec c61 c153 c226 (xst q_15.2.1 am_signWaits (q_15.2.1 am fGuideBookModel_deep).toNatClampNeg (0 : Int32), q_15.2.2))
        else none))
        else none))
      else none)
    else (
      c61 q_3.2)))
  else (
    c61 q_2.2))
def L_X10_goesOnBehind_0 (c61 : xMem → Option (Int32 × xMem)) (c153 : xMem → Option (Int32 × xMem)) (c226 : xMem → Option (Int32 × xMem)) : Nat → xMem → Option (Int32 × xMem)
  | 0, _ => none
  | fk + 1, m =>
    if (m.1 am fGuideBookModel_fault) = 0 then (
      if xin (m.1 am fGuideBookModel_deep) 7 = true then (
      if (m.1 am_sumWaits (m.1 am fGuideBookModel_deep).toNatClampNeg) = 0 then (
        J_X10_goesOnBehind_43 (fun m_22 => L_X10_goesOnBehind_0 c61 c153 c226 fk m_22) c61 c153 c226 m)
      else (
        if xin (m.1 am fGuideBookModel_deep) 7 = true then (
        (F_X10_emit (m.1 am_sumWaits (m.1 am fGuideBookModel_deep).toNatClampNeg) ((0 : Int32)) m).bind fun q_20 => (
        if xin (q_20.2.1 am fGuideBookModel_deep) 7 = true then (
        J_X10_goesOnBehind_43 (fun m_23 => L_X10_goesOnBehind_0 c61 c153 c226 fk m_23) c61 c153 c226 (xst q_20.2.1 am_sumWaits (q_20.2.1 am fGuideBookModel_deep).toNatClampNeg (0 : Int32), q_20.2.2))
        else none))
        else none))
      else none)
    else (
      some ((0 : Int32), m))
def F_X10_goesOnBehind (m : xMem) : Option (Int32 × xMem) :=
  L_X10_goesOnBehind_0 (fun m_24 => (
    (F_X10_isSign ((43 : Int32)) m_24).bind fun q_25 => (
    if q_25.1 = 0 then (
      if xin (m_24.1 am fGuideBookModel_deep) 7 = true then (
      some ((1 : Int32), (xst (xst q_25.2.1 am_sumWaits (m_24.1 am fGuideBookModel_deep).toNatClampNeg (4 : Int32)) am fGuideBookModel_at (((xst q_25.2.1 am_sumWaits (m_24.1 am fGuideBookModel_deep).toNatClampNeg (4 : Int32)) am fGuideBookModel_at) + (1 : Int32)), q_25.2.2)))
      else none)
    else (
      if xin (m_24.1 am fGuideBookModel_deep) 7 = true then (
      some ((1 : Int32), (xst (xst q_25.2.1 am_sumWaits (m_24.1 am fGuideBookModel_deep).toNatClampNeg (3 : Int32)) am fGuideBookModel_at (((xst q_25.2.1 am_sumWaits (m_24.1 am fGuideBookModel_deep).toNatClampNeg (3 : Int32)) am fGuideBookModel_at) + (1 : Int32)), q_25.2.2)))
      else none)))) (fun m_28 => (
    (F_X10_isSign ((60 : Int32)) m_28).bind fun q_29 => (
    if q_29.1 = 0 then (
      if xin (m_28.1 am fGuideBookModel_deep) 7 = true then (
      some ((1 : Int32), (xst (xst q_29.2.1 am_signWaits (m_28.1 am fGuideBookModel_deep).toNatClampNeg (6 : Int32)) am fGuideBookModel_at (((xst q_29.2.1 am_signWaits (m_28.1 am fGuideBookModel_deep).toNatClampNeg (6 : Int32)) am fGuideBookModel_at) + (1 : Int32)), q_29.2.2)))
      else none)
    else (
      if xin (m_28.1 am fGuideBookModel_deep) 7 = true then (
      some ((1 : Int32), (xst (xst q_29.2.1 am_signWaits (m_28.1 am fGuideBookModel_deep).toNatClampNeg (5 : Int32)) am fGuideBookModel_at (((xst q_29.2.1 am_signWaits (m_28.1 am fGuideBookModel_deep).toNatClampNeg (5 : Int32)) am fGuideBookModel_at) + (1 : Int32)), q_29.2.2)))
      else none)))) (fun m_32 => (
    if xin (m_32.1 am fGuideBookModel_deep) 7 = true then (
    some ((1 : Int32), (xst (xst m_32.1 am_andWaits (m_32.1 am fGuideBookModel_deep).toNatClampNeg (7 : Int32)) am fGuideBookModel_at (((xst m_32.1 am_andWaits (m_32.1 am fGuideBookModel_deep).toNatClampNeg (7 : Int32)) am fGuideBookModel_at) + (1 : Int32)), m_32.2)))
    else none)) xfuel m
set_option maxHeartbeats 4000000 in
set_option maxRecDepth 100000 in
theorem pJ_X10_goesOnBehind_218 {E : xE} {d : Nat} {Q : Option Value → xS → Prop} (hd : 3 ≤ d) (out : Int32 × xMem) (hR : Q (some (.int out.1)) (xf E out.2)) (rec : xMem → Option (Int32 × xMem)) (c61 : xMem → Option (Int32 × xMem)) (c153 : xMem → Option (Int32 × xMem)) (c226 : xMem → Option (Int32 × xMem)) (hrec : ∀ (m : xMem), rec m = some out → xX E mX10_goesOnBehind d 0 0 0 0 Q 0 [(0, .ref (xB E + 87))] [] (xf E m)) (hc61 : ∀ (m : xMem), c61 m = some out → xX E mX10_goesOnBehind d 0 0 0 0 Q 61 [(0, .ref (xB E + 87))] [] (xf E m)) (hc153 : ∀ (m : xMem), c153 m = some out → xX E mX10_goesOnBehind d 0 0 0 0 Q 153 [(0, .ref (xB E + 87))] [] (xf E m)) (hc226 : ∀ (m : xMem), c226 m = some out → xX E mX10_goesOnBehind d 0 0 0 0 Q 226 [(0, .ref (xB E + 87))] [] (xf E m)) (m : xMem) (hf : J_X10_goesOnBehind_218 rec c61 c153 c226 m = some out) : xX E mX10_goesOnBehind d 0 0 0 0 Q 218 [(0, .ref (xB E + 87))] [] (xf E m) := by
  unfold J_X10_goesOnBehind_218 at hf
  refine x_aload_n dX10_goesOnBehind_218 rfl ?_
  refine x_iconst (v := 2) dX10_goesOnBehind_219 (by decide) ?_
  obtain ⟨q_8, hq_8, hf⟩ := Option.bind_eq_some_iff.mp hf
  refine f_cVi mX10_isWord [.int ((2 : Int32))] [] dX10_goesOnBehind_220 cs_RX10_188 ⟨w_1120, w_59⟩ (ci := 10) rfl (by decide) sh_87 rfl rfl (Nat.le_of_ble_eq_true rfl) (by omega) (c_X10_isWord (d := d - 1) (by omega) ((2 : Int32)) m q_8 hq_8) ?_
  refine x_if_eq 249 dX10_goesOnBehind_223 (by decide) (fun hc => ?_) (fun hc => ?_)
  · replace hf := x_ift hc hf
    refine x_aload_n dX10_goesOnBehind_249 rfl ?_
    refine f_getI dX10_goesOnBehind_250 xcl_10 (by decide) fl_RX10_214 (by decide) sh_87 rfl ?_
    refine x_if_ne 258 dX10_goesOnBehind_253 (by decide) (fun hc => ?_) (fun hc => ?_)
    · replace hf := x_iff hc hf
      refine x_aload_n dX10_goesOnBehind_258 rfl ?_
      refine x_bipush (v := 41) dX10_goesOnBehind_259 (by decide) ?_
      obtain ⟨q_9, hq_9, hf⟩ := Option.bind_eq_some_iff.mp hf
      refine f_cVv mX10_takeSign [.int ((41 : Int32))] [] dX10_goesOnBehind_261 cs_RX10_231 ⟨w_1165, w_70⟩ (ci := 10) rfl (by decide) sh_87 rfl rfl (Nat.le_of_ble_eq_true rfl) (by omega) (c_X10_takeSign (d := d - 1) (by omega) ((41 : Int32)) q_8.2 q_9 hq_9) ?_
      refine x_aload_n dX10_goesOnBehind_264 rfl ?_
      refine x_dup dX10_goesOnBehind_265 rfl ?_
      refine f_getI dX10_goesOnBehind_266 xcl_10 (by decide) fl_RX10_214 (by decide) sh_87 rfl ?_
      refine x_iconst (v := 1) dX10_goesOnBehind_269 (by decide) ?_
      refine x_isub dX10_goesOnBehind_270 ?_
      refine f_putI dX10_goesOnBehind_271 xcl_10 (by decide) fl_RX10_214 rfl rfl (by decide) sh_87 rfl ?_
      refine x_goto 0 dX10_goesOnBehind_274 (by decide) ?_
      exact hrec _ hf
    · replace hf := x_ift hc hf
      refine x_iconst (v := 0) dX10_goesOnBehind_256 (by decide) ?_
      exact x_zret dX10_goesOnBehind_257 rfl (by decide) (by cases hf; exact hR)
  · replace hf := x_iff hc hf
    exact hc226 _ hf
set_option maxHeartbeats 4000000 in
set_option maxRecDepth 100000 in
theorem pJ_X10_goesOnBehind_189 {E : xE} {d : Nat} {Q : Option Value → xS → Prop} (hd : 3 ≤ d) (out : Int32 × xMem) (hR : Q (some (.int out.1)) (xf E out.2)) (rec : xMem → Option (Int32 × xMem)) (c61 : xMem → Option (Int32 × xMem)) (c153 : xMem → Option (Int32 × xMem)) (c226 : xMem → Option (Int32 × xMem)) (hrec : ∀ (m : xMem), rec m = some out → xX E mX10_goesOnBehind d 0 0 0 0 Q 0 [(0, .ref (xB E + 87))] [] (xf E m)) (hc61 : ∀ (m : xMem), c61 m = some out → xX E mX10_goesOnBehind d 0 0 0 0 Q 61 [(0, .ref (xB E + 87))] [] (xf E m)) (hc153 : ∀ (m : xMem), c153 m = some out → xX E mX10_goesOnBehind d 0 0 0 0 Q 153 [(0, .ref (xB E + 87))] [] (xf E m)) (hc226 : ∀ (m : xMem), c226 m = some out → xX E mX10_goesOnBehind d 0 0 0 0 Q 226 [(0, .ref (xB E + 87))] [] (xf E m)) (m : xMem) (hf : J_X10_goesOnBehind_189 rec c61 c153 c226 m = some out) : xX E mX10_goesOnBehind d 0 0 0 0 Q 189 [(0, .ref (xB E + 87))] [] (xf E m) := by
  unfold J_X10_goesOnBehind_189 at hf
  refine x_aload_n dX10_goesOnBehind_189 rfl ?_
  refine f_getR (b := 100) dX10_goesOnBehind_190 xcl_10 (by decide) fl_RX10_76 (by decide) sh_87 rfl ?_
  refine x_aload_n dX10_goesOnBehind_193 rfl ?_
  refine f_getI dX10_goesOnBehind_194 xcl_10 (by decide) fl_RX10_214 (by decide) sh_87 rfl ?_
  have hg_7 := x_gd hf
  replace hf := hg_7.2
  refine f_iald dX10_goesOnBehind_197 (by decide) sh_100 hg_7.1 ?_
  refine x_if_eq 218 dX10_goesOnBehind_198 (by decide) (fun hc => ?_) (fun hc => ?_)
  · replace hf := x_ift hc hf
    exact pJ_X10_goesOnBehind_218 hd out hR _ _ _ _ hrec hc61 hc153 hc226 _ hf
  · replace hf := x_iff hc hf
    refine x_aload_n dX10_goesOnBehind_201 rfl ?_
    refine x_bipush (v := 7) dX10_goesOnBehind_202 (by decide) ?_
    refine x_iconst (v := 0) dX10_goesOnBehind_204 (by decide) ?_
    obtain ⟨q_10, hq_10, hf⟩ := Option.bind_eq_some_iff.mp hf
    refine f_cVv mX10_emit [.int ((7 : Int32)), .int ((0 : Int32))] [] dX10_goesOnBehind_205 cs_RX10_227 ⟨w_1157, w_68⟩ (ci := 10) rfl (by decide) sh_87 rfl rfl (Nat.le_of_ble_eq_true rfl) (by omega) (c_X10_emit (d := d - 1) (by omega) ((7 : Int32)) ((0 : Int32)) m q_10 hq_10) ?_
    refine x_aload_n dX10_goesOnBehind_208 rfl ?_
    refine f_getR (b := 100) dX10_goesOnBehind_209 xcl_10 (by decide) fl_RX10_76 (by decide) sh_87 rfl ?_
    refine x_aload_n dX10_goesOnBehind_212 rfl ?_
    refine f_getI dX10_goesOnBehind_213 xcl_10 (by decide) fl_RX10_214 (by decide) sh_87 rfl ?_
    refine x_iconst (v := 0) dX10_goesOnBehind_216 (by decide) ?_
    have hg_11 := x_gd hf
    replace hf := hg_11.2
    refine f_iast dX10_goesOnBehind_217 (by decide) sh_100 hg_11.1 ?_
    exact pJ_X10_goesOnBehind_218 hd out hR _ _ _ _ hrec hc61 hc153 hc226 _ hf
set_option maxHeartbeats 4000000 in
set_option maxRecDepth 100000 in
theorem pJ_X10_goesOnBehind_43 {E : xE} {d : Nat} {Q : Option Value → xS → Prop} (hd : 3 ≤ d) (out : Int32 × xMem) (hR : Q (some (.int out.1)) (xf E out.2)) (rec : xMem → Option (Int32 × xMem)) (c61 : xMem → Option (Int32 × xMem)) (c153 : xMem → Option (Int32 × xMem)) (c226 : xMem → Option (Int32 × xMem)) (hrec : ∀ (m : xMem), rec m = some out → xX E mX10_goesOnBehind d 0 0 0 0 Q 0 [(0, .ref (xB E + 87))] [] (xf E m)) (hc61 : ∀ (m : xMem), c61 m = some out → xX E mX10_goesOnBehind d 0 0 0 0 Q 61 [(0, .ref (xB E + 87))] [] (xf E m)) (hc153 : ∀ (m : xMem), c153 m = some out → xX E mX10_goesOnBehind d 0 0 0 0 Q 153 [(0, .ref (xB E + 87))] [] (xf E m)) (hc226 : ∀ (m : xMem), c226 m = some out → xX E mX10_goesOnBehind d 0 0 0 0 Q 226 [(0, .ref (xB E + 87))] [] (xf E m)) (m : xMem) (hf : J_X10_goesOnBehind_43 rec c61 c153 c226 m = some out) : xX E mX10_goesOnBehind d 0 0 0 0 Q 43 [(0, .ref (xB E + 87))] [] (xf E m) := by
  unfold J_X10_goesOnBehind_43 at hf
  refine x_aload_n dX10_goesOnBehind_43 rfl ?_
  refine x_bipush (v := 43) dX10_goesOnBehind_44 (by decide) ?_
  obtain ⟨q_2, hq_2, hf⟩ := Option.bind_eq_some_iff.mp hf
  refine f_cVi mX10_isSign [.int ((43 : Int32))] [] dX10_goesOnBehind_46 cs_RX10_181 ⟨w_1149, w_66⟩ (ci := 10) rfl (by decide) sh_87 rfl rfl (Nat.le_of_ble_eq_true rfl) (by omega) (c_X10_isSign (d := d - 1) (by omega) ((43 : Int32)) m q_2 hq_2) ?_
  refine x_if_ne 61 dX10_goesOnBehind_49 (by decide) (fun hc => ?_) (fun hc => ?_)
  · replace hf := x_iff hc hf
    exact hc61 _ hf
  · replace hf := x_ift hc hf
    refine x_aload_n dX10_goesOnBehind_52 rfl ?_
    refine x_bipush (v := 45) dX10_goesOnBehind_53 (by decide) ?_
    obtain ⟨q_3, hq_3, hf⟩ := Option.bind_eq_some_iff.mp hf
    refine f_cVi mX10_isSign [.int ((45 : Int32))] [] dX10_goesOnBehind_55 cs_RX10_181 ⟨w_1149, w_66⟩ (ci := 10) rfl (by decide) sh_87 rfl rfl (Nat.le_of_ble_eq_true rfl) (by omega) (c_X10_isSign (d := d - 1) (by omega) ((45 : Int32)) q_2.2 q_3 hq_3) ?_
    refine x_if_eq 96 dX10_goesOnBehind_58 (by decide) (fun hc => ?_) (fun hc => ?_)
    · replace hf := x_ift hc hf
      refine x_aload_n dX10_goesOnBehind_96 rfl ?_
      refine f_getR (b := 99) dX10_goesOnBehind_97 xcl_10 (by decide) fl_RX10_73 (by decide) sh_87 rfl ?_
      refine x_aload_n dX10_goesOnBehind_100 rfl ?_
      refine f_getI dX10_goesOnBehind_101 xcl_10 (by decide) fl_RX10_214 (by decide) sh_87 rfl ?_
      have hg_4 := x_gd hf
      replace hf := hg_4.2
      refine f_iald dX10_goesOnBehind_104 (by decide) sh_99 hg_4.1 ?_
      refine x_if_eq 135 dX10_goesOnBehind_105 (by decide) (fun hc => ?_) (fun hc => ?_)
      · replace hf := x_ift hc hf
        refine x_aload_n dX10_goesOnBehind_135 rfl ?_
        refine x_bipush (v := 60) dX10_goesOnBehind_136 (by decide) ?_
        obtain ⟨q_5, hq_5, hf⟩ := Option.bind_eq_some_iff.mp hf
        refine f_cVi mX10_isSign [.int ((60 : Int32))] [] dX10_goesOnBehind_138 cs_RX10_181 ⟨w_1149, w_66⟩ (ci := 10) rfl (by decide) sh_87 rfl rfl (Nat.le_of_ble_eq_true rfl) (by omega) (c_X10_isSign (d := d - 1) (by omega) ((60 : Int32)) q_3.2 q_5 hq_5) ?_
        refine x_if_ne 153 dX10_goesOnBehind_141 (by decide) (fun hc => ?_) (fun hc => ?_)
        · replace hf := x_iff hc hf
          exact hc153 _ hf
        · replace hf := x_ift hc hf
          refine x_aload_n dX10_goesOnBehind_144 rfl ?_
          refine x_bipush (v := 61) dX10_goesOnBehind_145 (by decide) ?_
          obtain ⟨q_6, hq_6, hf⟩ := Option.bind_eq_some_iff.mp hf
          refine f_cVi mX10_isSign [.int ((61 : Int32))] [] dX10_goesOnBehind_147 cs_RX10_181 ⟨w_1149, w_66⟩ (ci := 10) rfl (by decide) sh_87 rfl rfl (Nat.le_of_ble_eq_true rfl) (by omega) (c_X10_isSign (d := d - 1) (by omega) ((61 : Int32)) q_5.2 q_6 hq_6) ?_
          refine x_if_eq 189 dX10_goesOnBehind_150 (by decide) (fun hc => ?_) (fun hc => ?_)
          · replace hf := x_ift hc hf
            exact pJ_X10_goesOnBehind_189 hd out hR _ _ _ _ hrec hc61 hc153 hc226 _ hf
          · replace hf := x_iff hc hf
            exact hc153 _ hf
      · replace hf := x_iff hc hf
        refine x_aload_n dX10_goesOnBehind_108 rfl ?_
        refine x_aload_n dX10_goesOnBehind_109 rfl ?_
        refine f_getR (b := 99) dX10_goesOnBehind_110 xcl_10 (by decide) fl_RX10_73 (by decide) sh_87 rfl ?_
        refine x_aload_n dX10_goesOnBehind_113 rfl ?_
        refine f_getI dX10_goesOnBehind_114 xcl_10 (by decide) fl_RX10_214 (by decide) sh_87 rfl ?_
        have hg_14 := x_gd hf
        replace hf := hg_14.2
        refine f_iald dX10_goesOnBehind_117 (by decide) sh_99 hg_14.1 ?_
        refine x_iconst (v := 0) dX10_goesOnBehind_118 (by decide) ?_
        obtain ⟨q_15, hq_15, hf⟩ := Option.bind_eq_some_iff.mp hf
        refine f_cVv mX10_emit [.int (q_3.2.1 am_signWaits (q_3.2.1 am fGuideBookModel_deep).toNatClampNeg), .int ((0 : Int32))] [] dX10_goesOnBehind_119 cs_RX10_227 ⟨w_1157, w_68⟩ (ci := 10) rfl (by decide) sh_87 rfl rfl (Nat.le_of_ble_eq_true rfl) (by omega) (c_X10_emit (d := d - 1) (by omega) (q_3.2.1 am_signWaits (q_3.2.1 am fGuideBookModel_deep).toNatClampNeg) ((0 : Int32)) q_3.2 q_15 hq_15) ?_
        refine x_aload_n dX10_goesOnBehind_122 rfl ?_
        refine f_getR (b := 99) dX10_goesOnBehind_123 xcl_10 (by decide) fl_RX10_73 (by decide) sh_87 rfl ?_
        refine x_aload_n dX10_goesOnBehind_126 rfl ?_
        refine f_getI dX10_goesOnBehind_127 xcl_10 (by decide) fl_RX10_214 (by decide) sh_87 rfl ?_
        refine x_iconst (v := 0) dX10_goesOnBehind_130 (by decide) ?_
        have hg_16 := x_gd hf
        replace hf := hg_16.2
        refine f_iast dX10_goesOnBehind_131 (by decide) sh_99 hg_16.1 ?_
        refine x_goto 189 dX10_goesOnBehind_132 (by decide) ?_
        exact pJ_X10_goesOnBehind_189 hd out hR _ _ _ _ hrec hc61 hc153 hc226 _ hf
    · replace hf := x_iff hc hf
      exact hc61 _ hf
set_option maxHeartbeats 4000000 in
set_option maxRecDepth 100000 in
theorem pL_X10_goesOnBehind_0 {E : xE} {d : Nat} {Q : Option Value → xS → Prop} (hd : 3 ≤ d) (out : Int32 × xMem) (hR : Q (some (.int out.1)) (xf E out.2)) (c61 : xMem → Option (Int32 × xMem)) (c153 : xMem → Option (Int32 × xMem)) (c226 : xMem → Option (Int32 × xMem)) (hc61 : ∀ (m : xMem), c61 m = some out → xX E mX10_goesOnBehind d 0 0 0 0 Q 61 [(0, .ref (xB E + 87))] [] (xf E m)) (hc153 : ∀ (m : xMem), c153 m = some out → xX E mX10_goesOnBehind d 0 0 0 0 Q 153 [(0, .ref (xB E + 87))] [] (xf E m)) (hc226 : ∀ (m : xMem), c226 m = some out → xX E mX10_goesOnBehind d 0 0 0 0 Q 226 [(0, .ref (xB E + 87))] [] (xf E m)) : ∀ (fk : Nat) (m : xMem), L_X10_goesOnBehind_0 c61 c153 c226 fk m = some out → xX E mX10_goesOnBehind d 0 0 0 0 Q 0 [(0, .ref (xB E + 87))] [] (xf E m) := by
  intro fk
  induction fk with
  | zero => intro m hf; cases hf
  | succ fk ih =>
    intro m hf
    rw [L_X10_goesOnBehind_0] at hf
    refine x_aload_n dX10_goesOnBehind_0 rfl ?_
    refine f_getI dX10_goesOnBehind_1 xcl_10 (by decide) fl_RX10_178 (by decide) sh_87 rfl ?_
    refine x_if_ne 277 dX10_goesOnBehind_4 (by decide) (fun hc => ?_) (fun hc => ?_)
    · replace hf := x_iff hc hf
      refine x_iconst (v := 0) dX10_goesOnBehind_277 (by decide) ?_
      exact x_zret dX10_goesOnBehind_278 rfl (by decide) (by cases hf; exact hR)
    · replace hf := x_ift hc hf
      refine x_aload_n dX10_goesOnBehind_7 rfl ?_
      refine f_getR (b := 98) dX10_goesOnBehind_8 xcl_10 (by decide) fl_RX10_70 (by decide) sh_87 rfl ?_
      refine x_aload_n dX10_goesOnBehind_11 rfl ?_
      refine f_getI dX10_goesOnBehind_12 xcl_10 (by decide) fl_RX10_214 (by decide) sh_87 rfl ?_
      have hg_1 := x_gd hf
      replace hf := hg_1.2
      refine f_iald dX10_goesOnBehind_15 (by decide) sh_98 hg_1.1 ?_
      refine x_if_eq 43 dX10_goesOnBehind_16 (by decide) (fun hc => ?_) (fun hc => ?_)
      · replace hf := x_ift hc hf
        exact pJ_X10_goesOnBehind_43 hd out hR _ _ _ _ (fun m9 h9 => ih m9 h9) hc61 hc153 hc226 _ hf
      · replace hf := x_iff hc hf
        refine x_aload_n dX10_goesOnBehind_19 rfl ?_
        refine x_aload_n dX10_goesOnBehind_20 rfl ?_
        refine f_getR (b := 98) dX10_goesOnBehind_21 xcl_10 (by decide) fl_RX10_70 (by decide) sh_87 rfl ?_
        refine x_aload_n dX10_goesOnBehind_24 rfl ?_
        refine f_getI dX10_goesOnBehind_25 xcl_10 (by decide) fl_RX10_214 (by decide) sh_87 rfl ?_
        have hg_19 := x_gd hf
        replace hf := hg_19.2
        refine f_iald dX10_goesOnBehind_28 (by decide) sh_98 hg_19.1 ?_
        refine x_iconst (v := 0) dX10_goesOnBehind_29 (by decide) ?_
        obtain ⟨q_20, hq_20, hf⟩ := Option.bind_eq_some_iff.mp hf
        refine f_cVv mX10_emit [.int (m.1 am_sumWaits (m.1 am fGuideBookModel_deep).toNatClampNeg), .int ((0 : Int32))] [] dX10_goesOnBehind_30 cs_RX10_227 ⟨w_1157, w_68⟩ (ci := 10) rfl (by decide) sh_87 rfl rfl (Nat.le_of_ble_eq_true rfl) (by omega) (c_X10_emit (d := d - 1) (by omega) (m.1 am_sumWaits (m.1 am fGuideBookModel_deep).toNatClampNeg) ((0 : Int32)) m q_20 hq_20) ?_
        refine x_aload_n dX10_goesOnBehind_33 rfl ?_
        refine f_getR (b := 98) dX10_goesOnBehind_34 xcl_10 (by decide) fl_RX10_70 (by decide) sh_87 rfl ?_
        refine x_aload_n dX10_goesOnBehind_37 rfl ?_
        refine f_getI dX10_goesOnBehind_38 xcl_10 (by decide) fl_RX10_214 (by decide) sh_87 rfl ?_
        refine x_iconst (v := 0) dX10_goesOnBehind_41 (by decide) ?_
        have hg_21 := x_gd hf
        replace hf := hg_21.2
        refine f_iast dX10_goesOnBehind_42 (by decide) sh_98 hg_21.1 ?_
        exact pJ_X10_goesOnBehind_43 hd out hR _ _ _ _ (fun m9 h9 => ih m9 h9) hc61 hc153 hc226 _ hf
set_option maxHeartbeats 4000000 in
set_option maxRecDepth 100000 in
theorem pF_X10_goesOnBehind {E : xE} {d : Nat} {Q : Option Value → xS → Prop} (hd : 3 ≤ d) (out : Int32 × xMem) (hR : Q (some (.int out.1)) (xf E out.2)) (m : xMem) (hf : F_X10_goesOnBehind m = some out) : xX E mX10_goesOnBehind d 0 0 0 0 Q 0 [(0, .ref (xB E + 87))] [] (xf E m) := by
  unfold F_X10_goesOnBehind at hf
  refine pL_X10_goesOnBehind_0 hd out hR _ _ _ (fun m_24 hf => ?_) (fun m_28 hf => ?_) (fun m_32 hf => ?_) xfuel _ hf
  ·
    refine x_aload_n dX10_goesOnBehind_61 rfl ?_
    refine f_getR (b := 98) dX10_goesOnBehind_62 xcl_10 (by decide) fl_RX10_70 (by decide) sh_87 rfl ?_
    refine x_aload_n dX10_goesOnBehind_65 rfl ?_
    refine f_getI dX10_goesOnBehind_66 xcl_10 (by decide) fl_RX10_214 (by decide) sh_87 rfl ?_
    refine x_aload_n dX10_goesOnBehind_69 rfl ?_
    refine x_bipush (v := 43) dX10_goesOnBehind_70 (by decide) ?_
    obtain ⟨q_25, hq_25, hf⟩ := Option.bind_eq_some_iff.mp hf
    refine f_cVi mX10_isSign [.int ((43 : Int32))] [.int (m_24.1 am fGuideBookModel_deep), .ref (xB E + 98)] dX10_goesOnBehind_72 cs_RX10_181 ⟨w_1149, w_66⟩ (ci := 10) rfl (by decide) sh_87 rfl rfl (Nat.le_of_ble_eq_true rfl) (by omega) (c_X10_isSign (d := d - 1) (by omega) ((43 : Int32)) m_24 q_25 hq_25) ?_
    refine x_if_eq 82 dX10_goesOnBehind_75 (by decide) (fun hc => ?_) (fun hc => ?_)
    · replace hf := x_ift hc hf
      refine x_iconst (v := 4) dX10_goesOnBehind_82 (by decide) ?_
      have hg_26 := x_gd hf
      replace hf := hg_26.2
      refine f_iast dX10_goesOnBehind_83 (by decide) sh_98 hg_26.1 ?_
      refine x_aload_n dX10_goesOnBehind_84 rfl ?_
      refine x_dup dX10_goesOnBehind_85 rfl ?_
      refine f_getI dX10_goesOnBehind_86 xcl_10 (by decide) fl_RX10_175 (by decide) sh_87 rfl ?_
      refine x_iconst (v := 1) dX10_goesOnBehind_89 (by decide) ?_
      refine x_iadd dX10_goesOnBehind_90 ?_
      refine f_putI dX10_goesOnBehind_91 xcl_10 (by decide) fl_RX10_175 rfl rfl (by decide) sh_87 rfl ?_
      refine x_iconst (v := 1) dX10_goesOnBehind_94 (by decide) ?_
      exact x_zret dX10_goesOnBehind_95 rfl (by decide) (by cases hf; exact hR)
    · replace hf := x_iff hc hf
      refine x_iconst (v := 3) dX10_goesOnBehind_78 (by decide) ?_
      refine x_goto 83 dX10_goesOnBehind_79 (by decide) ?_
      have hg_27 := x_gd hf
      replace hf := hg_27.2
      refine f_iast dX10_goesOnBehind_83 (by decide) sh_98 hg_27.1 ?_
      refine x_aload_n dX10_goesOnBehind_84 rfl ?_
      refine x_dup dX10_goesOnBehind_85 rfl ?_
      refine f_getI dX10_goesOnBehind_86 xcl_10 (by decide) fl_RX10_175 (by decide) sh_87 rfl ?_
      refine x_iconst (v := 1) dX10_goesOnBehind_89 (by decide) ?_
      refine x_iadd dX10_goesOnBehind_90 ?_
      refine f_putI dX10_goesOnBehind_91 xcl_10 (by decide) fl_RX10_175 rfl rfl (by decide) sh_87 rfl ?_
      refine x_iconst (v := 1) dX10_goesOnBehind_94 (by decide) ?_
      exact x_zret dX10_goesOnBehind_95 rfl (by decide) (by cases hf; exact hR)
  ·
    refine x_aload_n dX10_goesOnBehind_153 rfl ?_
    refine f_getR (b := 99) dX10_goesOnBehind_154 xcl_10 (by decide) fl_RX10_73 (by decide) sh_87 rfl ?_
    refine x_aload_n dX10_goesOnBehind_157 rfl ?_
    refine f_getI dX10_goesOnBehind_158 xcl_10 (by decide) fl_RX10_214 (by decide) sh_87 rfl ?_
    refine x_aload_n dX10_goesOnBehind_161 rfl ?_
    refine x_bipush (v := 60) dX10_goesOnBehind_162 (by decide) ?_
    obtain ⟨q_29, hq_29, hf⟩ := Option.bind_eq_some_iff.mp hf
    refine f_cVi mX10_isSign [.int ((60 : Int32))] [.int (m_28.1 am fGuideBookModel_deep), .ref (xB E + 99)] dX10_goesOnBehind_164 cs_RX10_181 ⟨w_1149, w_66⟩ (ci := 10) rfl (by decide) sh_87 rfl rfl (Nat.le_of_ble_eq_true rfl) (by omega) (c_X10_isSign (d := d - 1) (by omega) ((60 : Int32)) m_28 q_29 hq_29) ?_
    refine x_if_eq 174 dX10_goesOnBehind_167 (by decide) (fun hc => ?_) (fun hc => ?_)
    · replace hf := x_ift hc hf
      refine x_bipush (v := 6) dX10_goesOnBehind_174 (by decide) ?_
      have hg_30 := x_gd hf
      replace hf := hg_30.2
      refine f_iast dX10_goesOnBehind_176 (by decide) sh_99 hg_30.1 ?_
      refine x_aload_n dX10_goesOnBehind_177 rfl ?_
      refine x_dup dX10_goesOnBehind_178 rfl ?_
      refine f_getI dX10_goesOnBehind_179 xcl_10 (by decide) fl_RX10_175 (by decide) sh_87 rfl ?_
      refine x_iconst (v := 1) dX10_goesOnBehind_182 (by decide) ?_
      refine x_iadd dX10_goesOnBehind_183 ?_
      refine f_putI dX10_goesOnBehind_184 xcl_10 (by decide) fl_RX10_175 rfl rfl (by decide) sh_87 rfl ?_
      refine x_iconst (v := 1) dX10_goesOnBehind_187 (by decide) ?_
      exact x_zret dX10_goesOnBehind_188 rfl (by decide) (by cases hf; exact hR)
    · replace hf := x_iff hc hf
      refine x_iconst (v := 5) dX10_goesOnBehind_170 (by decide) ?_
      refine x_goto 176 dX10_goesOnBehind_171 (by decide) ?_
      have hg_31 := x_gd hf
      replace hf := hg_31.2
      refine f_iast dX10_goesOnBehind_176 (by decide) sh_99 hg_31.1 ?_
      refine x_aload_n dX10_goesOnBehind_177 rfl ?_
      refine x_dup dX10_goesOnBehind_178 rfl ?_
      refine f_getI dX10_goesOnBehind_179 xcl_10 (by decide) fl_RX10_175 (by decide) sh_87 rfl ?_
      refine x_iconst (v := 1) dX10_goesOnBehind_182 (by decide) ?_
      refine x_iadd dX10_goesOnBehind_183 ?_
      refine f_putI dX10_goesOnBehind_184 xcl_10 (by decide) fl_RX10_175 rfl rfl (by decide) sh_87 rfl ?_
      refine x_iconst (v := 1) dX10_goesOnBehind_187 (by decide) ?_
      exact x_zret dX10_goesOnBehind_188 rfl (by decide) (by cases hf; exact hR)
  ·
    refine x_aload_n dX10_goesOnBehind_226 rfl ?_
    refine f_getR (b := 100) dX10_goesOnBehind_227 xcl_10 (by decide) fl_RX10_76 (by decide) sh_87 rfl ?_
    refine x_aload_n dX10_goesOnBehind_230 rfl ?_
    refine f_getI dX10_goesOnBehind_231 xcl_10 (by decide) fl_RX10_214 (by decide) sh_87 rfl ?_
    refine x_bipush (v := 7) dX10_goesOnBehind_234 (by decide) ?_
    have hg_33 := x_gd hf
    replace hf := hg_33.2
    refine f_iast dX10_goesOnBehind_236 (by decide) sh_100 hg_33.1 ?_
    refine x_aload_n dX10_goesOnBehind_237 rfl ?_
    refine x_dup dX10_goesOnBehind_238 rfl ?_
    refine f_getI dX10_goesOnBehind_239 xcl_10 (by decide) fl_RX10_175 (by decide) sh_87 rfl ?_
    refine x_iconst (v := 1) dX10_goesOnBehind_242 (by decide) ?_
    refine x_iadd dX10_goesOnBehind_243 ?_
    refine f_putI dX10_goesOnBehind_244 xcl_10 (by decide) fl_RX10_175 rfl rfl (by decide) sh_87 rfl ?_
    refine x_iconst (v := 1) dX10_goesOnBehind_247 (by decide) ?_
    exact x_zret dX10_goesOnBehind_248 rfl (by decide) (by cases hf; exact hR)
theorem c_X10_goesOnBehind {E : xE} {d : Nat} (hd : 3 ≤ d) (m : xMem) (out : Int32 × xMem) (h : F_X10_goesOnBehind m = some out) : xCi E mX10_goesOnBehind d [.ref (xB E + 87)] m out.1 out.2 :=
  x_enter (by decide +kernel) (Nat.le_of_ble_eq_true rfl) (pF_X10_goesOnBehind hd (Q := _) out ⟨rfl, rfl⟩ m h)
-- X10_line
def J_X10_line_215 (rec : Int32 → xMem → Option (Int32 × xMem)) (c219 : xMem → Option (Int32 × xMem)) (s0 : Int32) (m : xMem) : Option (Int32 × xMem) :=
  rec (s0) m
def J_X10_line_210 (rec : Int32 → xMem → Option (Int32 × xMem)) (c219 : xMem → Option (Int32 × xMem)) (m : xMem) : Option (Int32 × xMem) :=
  J_X10_line_215 rec c219 ((1 : Int32)) m
def L_X10_line_185 (c219 : xMem → Option (Int32 × xMem)) : Nat → Int32 → xMem → Option (Int32 × xMem)
  | 0, _, _ => none
  | fk + 1, x2, m =>
    if x2 = 0 then (
      c219 m)
    else (
      if (m.1 am fGuideBookModel_fault) = 0 then (
        (F_X10_part m).bind fun q_11 => (
        if q_11.1 = 0 then (
          (F_X10_goesOnBehind q_11.2).bind fun q_14 => (
          if q_14.1 = 0 then (
            J_X10_line_215 (fun y_15 m_16 => L_X10_line_185 c219 fk y_15 m_16) c219 ((0 : Int32)) q_14.2)
          else (
            J_X10_line_210 (fun y_17 m_18 => L_X10_line_185 c219 fk y_17 m_18) c219 q_14.2)))
        else (
          J_X10_line_210 (fun y_19 m_20 => L_X10_line_185 c219 fk y_19 m_20) c219 q_11.2)))
      else (
        c219 m))
def J_X10_line_113 (x1 : Int32) (m : xMem) : Option (Int32 × xMem) :=
  if (m.1 am fGuideBookModel_fault) ≤ 0 then (
    if xin (m.1 am fGuideBookModel_at) 602 = true then (
    if xin x1 32 = true then (
    (F_X10_takeWord ((1 : Int32)) (xst (xst m.1 am_lineN x1.toNatClampNeg ((m.2 am_value (m.1 am fGuideBookModel_at).toNatClampNeg).toInt32)) am fGuideBookModel_at (((xst m.1 am_lineN x1.toNatClampNeg ((m.2 am_value (m.1 am fGuideBookModel_at).toNatClampNeg).toInt32)) am fGuideBookModel_at) + (1 : Int32)), m.2)).bind fun q_8 => (
    if xin x1 32 = true then (
    (F_X10_opens (xst (xst q_8.2.1 am_lineAt x1.toNatClampNeg (((660 : Int32) * (q_8.2.1 am fGuideBookModel_next)) + (q_8.2.1 am fGuideBookModel_codes))) am fGuideBookModel_deep (0 : Int32), q_8.2.2)).bind fun q_10 => (
    L_X10_line_185 (fun m_21 => (
      (F_X10_emit ((0 : Int32)) ((0 : Int32)) m_21).bind fun q_22 => (
      (F_X10_takeSign ((59 : Int32)) q_22.2).bind fun q_23 => (
      if xin (q_23.2.1 am fGuideBookModel_next) 2 = true then (
      if xin (q_23.2.1 am fGuideBookModel_next) 2 = true then (
      some (0, (xst q_23.2.1 am_lines (q_23.2.1 am fGuideBookModel_next).toNatClampNeg ((q_23.2.1 am_lines (q_23.2.1 am fGuideBookModel_next).toNatClampNeg) + (1 : Int32)), q_23.2.2)))
      else none)
      else none)))) xfuel ((1 : Int32)) q_10.2))
    else none))
    else none)
    else none)
  else (
    if xin x1 32 = true then (
    (F_X10_takeWord ((1 : Int32)) (xst (xst m.1 am_lineN x1.toNatClampNeg (0 : Int32)) am fGuideBookModel_at (((xst m.1 am_lineN x1.toNatClampNeg (0 : Int32)) am fGuideBookModel_at) + (1 : Int32)), m.2)).bind fun q_27 => (
    if xin x1 32 = true then (
    (F_X10_opens (xst (xst q_27.2.1 am_lineAt x1.toNatClampNeg (((660 : Int32) * (q_27.2.1 am fGuideBookModel_next)) + (q_27.2.1 am fGuideBookModel_codes))) am fGuideBookModel_deep (0 : Int32), q_27.2.2)).bind fun q_29 => (
    L_X10_line_185 (fun m_30 => (
      (F_X10_emit ((0 : Int32)) ((0 : Int32)) m_30).bind fun q_31 => (
      (F_X10_takeSign ((59 : Int32)) q_31.2).bind fun q_32 => (
      if xin (q_32.2.1 am fGuideBookModel_next) 2 = true then (
      if xin (q_32.2.1 am fGuideBookModel_next) 2 = true then (
      some (0, (xst q_32.2.1 am_lines (q_32.2.1 am fGuideBookModel_next).toNatClampNeg ((q_32.2.1 am_lines (q_32.2.1 am fGuideBookModel_next).toNatClampNeg) + (1 : Int32)), q_32.2.2)))
      else none)
      else none)))) xfuel ((1 : Int32)) q_29.2))
    else none))
    else none)
def J_X10_line_35 (m : xMem) : Option (Int32 × xMem) :=
  if (m.1 am fGuideBookModel_fault) ≤ 0 then (
    if xin ((xst m.1 am fGuideBookModel_at ((m.1 am fGuideBookModel_at) + (1 : Int32))) am fGuideBookModel_next) 2 = true then (
    if xin ((xst m.1 am fGuideBookModel_at ((m.1 am fGuideBookModel_at) + (1 : Int32))) am fGuideBookModel_at) 602 = true then (
    if ((xst m.1 am fGuideBookModel_at ((m.1 am fGuideBookModel_at) + (1 : Int32))) am_sort ((xst m.1 am fGuideBookModel_at ((m.1 am fGuideBookModel_at) + (1 : Int32))) am fGuideBookModel_at).toNatClampNeg) = (2 : Int32) then (
      if xin ((xst m.1 am fGuideBookModel_at ((m.1 am fGuideBookModel_at) + (1 : Int32))) am fGuideBookModel_at) 602 = true then (
      if (lg_cmp (m.2 am_value ((xst m.1 am fGuideBookModel_at ((m.1 am fGuideBookModel_at) + (1 : Int32))) am fGuideBookModel_at).toNatClampNeg) (5 : Int64)) ≤ 0 then (
        J_X10_line_113 (((16 : Int32) * ((xst m.1 am fGuideBookModel_at ((m.1 am fGuideBookModel_at) + (1 : Int32))) am fGuideBookModel_next)) + ((xst m.1 am fGuideBookModel_at ((m.1 am fGuideBookModel_at) + (1 : Int32))) am_lines ((xst m.1 am fGuideBookModel_at ((m.1 am fGuideBookModel_at) + (1 : Int32))) am fGuideBookModel_next).toNatClampNeg)) (xst m.1 am fGuideBookModel_at ((m.1 am fGuideBookModel_at) + (1 : Int32)), m.2))
      else (
        (F_X10_wrong ((4 : Int32)) (xst m.1 am fGuideBookModel_at ((m.1 am fGuideBookModel_at) + (1 : Int32)), m.2)).bind fun q_35 => (
        J_X10_line_113 (((16 : Int32) * ((xst m.1 am fGuideBookModel_at ((m.1 am fGuideBookModel_at) + (1 : Int32))) am fGuideBookModel_next)) + ((xst m.1 am fGuideBookModel_at ((m.1 am fGuideBookModel_at) + (1 : Int32))) am_lines ((xst m.1 am fGuideBookModel_at ((m.1 am fGuideBookModel_at) + (1 : Int32))) am fGuideBookModel_next).toNatClampNeg)) q_35.2)))
      else none)
    else (
      (F_X10_wrong ((1 : Int32)) (xst m.1 am fGuideBookModel_at ((m.1 am fGuideBookModel_at) + (1 : Int32)), m.2)).bind fun q_36 => (
      J_X10_line_113 (((16 : Int32) * ((xst m.1 am fGuideBookModel_at ((m.1 am fGuideBookModel_at) + (1 : Int32))) am fGuideBookModel_next)) + ((xst m.1 am fGuideBookModel_at ((m.1 am fGuideBookModel_at) + (1 : Int32))) am_lines ((xst m.1 am fGuideBookModel_at ((m.1 am fGuideBookModel_at) + (1 : Int32))) am fGuideBookModel_next).toNatClampNeg)) q_36.2)))
    else none)
    else none)
  else (
    some (0, m))
def F_X10_line (m : xMem) : Option (Int32 × xMem) :=
  (F_X10_isWord ((0 : Int32)) m).bind fun q_1 => (
  if q_1.1 = 0 then (
    (F_X10_wrong ((1 : Int32)) q_1.2).bind fun q_38 => (
    J_X10_line_35 q_38.2))
  else (
    if xin (q_1.2.1 am fGuideBookModel_next) 2 = true then (
    if (q_1.2.1 am_lines (q_1.2.1 am fGuideBookModel_next).toNatClampNeg) = (16 : Int32) then (
      (F_X10_wrong ((5 : Int32)) q_1.2).bind fun q_37 => (
      J_X10_line_35 q_37.2))
    else (
      J_X10_line_35 q_1.2))
    else none))
set_option maxHeartbeats 4000000 in
set_option maxRecDepth 100000 in
theorem pJ_X10_line_215 {E : xE} {d : Nat} {Q : Option Value → xS → Prop} (hd : 4 ≤ d) (out : Int32 × xMem) (hR : Q none (xf E out.2)) (rec : Int32 → xMem → Option (Int32 × xMem)) (c219 : xMem → Option (Int32 × xMem)) (s0 : Int32) (hrec : ∀ (x2 : Int32) (m : xMem), rec x2 m = some out → xX E mX10_line d 0 0 0 0 Q 185 [(0, .ref (xB E + 87)), (2, .int (x2))] [] (xf E m)) (hc219 : ∀ (m : xMem), c219 m = some out → xX E mX10_line d 0 0 0 0 Q 219 [(0, .ref (xB E + 87))] [] (xf E m)) (m : xMem) (hf : J_X10_line_215 rec c219 s0 m = some out) : xX E mX10_line d 0 0 0 0 Q 215 [(0, .ref (xB E + 87))] [.int (s0)] (xf E m) := by
  unfold J_X10_line_215 at hf
  refine x_istore_n (lv' := [(0, .ref (xB E + 87)), (2, .int (s0))]) dX10_line_215 [1, 0] (by decide) rfl ?_
  refine x_goto 185 dX10_line_216 (by decide) ?_
  exact hrec _ _ hf
set_option maxHeartbeats 4000000 in
set_option maxRecDepth 100000 in
theorem pJ_X10_line_210 {E : xE} {d : Nat} {Q : Option Value → xS → Prop} (hd : 4 ≤ d) (out : Int32 × xMem) (hR : Q none (xf E out.2)) (rec : Int32 → xMem → Option (Int32 × xMem)) (c219 : xMem → Option (Int32 × xMem)) (hrec : ∀ (x2 : Int32) (m : xMem), rec x2 m = some out → xX E mX10_line d 0 0 0 0 Q 185 [(0, .ref (xB E + 87)), (2, .int (x2))] [] (xf E m)) (hc219 : ∀ (m : xMem), c219 m = some out → xX E mX10_line d 0 0 0 0 Q 219 [(0, .ref (xB E + 87))] [] (xf E m)) (m : xMem) (hf : J_X10_line_210 rec c219 m = some out) : xX E mX10_line d 0 0 0 0 Q 210 [(0, .ref (xB E + 87))] [] (xf E m) := by
  unfold J_X10_line_210 at hf
  refine x_iconst (v := 1) dX10_line_210 (by decide) ?_
  refine x_goto 215 dX10_line_211 (by decide) ?_
  exact pJ_X10_line_215 hd out hR _ _ _ hrec hc219 _ hf
set_option maxHeartbeats 4000000 in
set_option maxRecDepth 100000 in
theorem pL_X10_line_185 {E : xE} {d : Nat} {Q : Option Value → xS → Prop} (hd : 4 ≤ d) (out : Int32 × xMem) (hR : Q none (xf E out.2)) (c219 : xMem → Option (Int32 × xMem)) (hc219 : ∀ (m : xMem), c219 m = some out → xX E mX10_line d 0 0 0 0 Q 219 [(0, .ref (xB E + 87))] [] (xf E m)) : ∀ (fk : Nat) (x2 : Int32) (m : xMem), L_X10_line_185 c219 fk x2 m = some out → xX E mX10_line d 0 0 0 0 Q 185 [(0, .ref (xB E + 87)), (2, .int (x2))] [] (xf E m) := by
  intro fk
  induction fk with
  | zero => intro x2 m hf; cases hf
  | succ fk ih =>
    intro x2 m hf
    rw [L_X10_line_185] at hf
    refine x_iload_n dX10_line_185 rfl ?_
    refine x_if_eq 219 dX10_line_186 (by decide) (fun hc => ?_) (fun hc => ?_)
    · replace hf := x_ift hc hf
      refine x_lv (lv' := [(0, .ref (xB E + 87))]) [0] rfl ?_
      exact hc219 _ hf
    · replace hf := x_iff hc hf
      refine x_aload_n dX10_line_189 rfl ?_
      refine f_getI dX10_line_190 xcl_10 (by decide) fl_RX10_178 (by decide) sh_87 rfl ?_
      refine x_if_ne 219 dX10_line_193 (by decide) (fun hc => ?_) (fun hc => ?_)
      · replace hf := x_iff hc hf
        refine x_lv (lv' := [(0, .ref (xB E + 87))]) [0] rfl ?_
        exact hc219 _ hf
      · replace hf := x_ift hc hf
        refine x_aload_n dX10_line_196 rfl ?_
        obtain ⟨q_11, hq_11, hf⟩ := Option.bind_eq_some_iff.mp hf
        refine f_cVi mX10_part [] [] dX10_line_197 cs_RX10_220 ⟨w_1141, w_64⟩ (ci := 10) rfl (by decide) sh_87 rfl rfl (Nat.le_of_ble_eq_true rfl) (by omega) (c_X10_part (d := d - 1) (by omega) m q_11 hq_11) ?_
        refine x_if_ne 210 dX10_line_200 (by decide) (fun hc => ?_) (fun hc => ?_)
        · replace hf := x_iff hc hf
          refine x_lv (lv' := [(0, .ref (xB E + 87))]) [0] rfl ?_
          exact pJ_X10_line_210 hd out hR _ _ (fun y0 m9 h9 => ih y0 m9 h9) hc219 _ hf
        · replace hf := x_ift hc hf
          refine x_aload_n dX10_line_203 rfl ?_
          obtain ⟨q_14, hq_14, hf⟩ := Option.bind_eq_some_iff.mp hf
          refine f_cVi mX10_goesOnBehind [] [] dX10_line_204 cs_RX10_224 ⟨w_1161, w_69⟩ (ci := 10) rfl (by decide) sh_87 rfl rfl (Nat.le_of_ble_eq_true rfl) (by omega) (c_X10_goesOnBehind (d := d - 1) (by omega) q_11.2 q_14 hq_14) ?_
          refine x_if_eq 214 dX10_line_207 (by decide) (fun hc => ?_) (fun hc => ?_)
          · replace hf := x_ift hc hf
            refine x_iconst (v := 0) dX10_line_214 (by decide) ?_
            refine x_lv (lv' := [(0, .ref (xB E + 87))]) [0] rfl ?_
            exact pJ_X10_line_215 hd out hR _ _ _ (fun y0 m9 h9 => ih y0 m9 h9) hc219 _ hf
          · replace hf := x_iff hc hf
            refine x_lv (lv' := [(0, .ref (xB E + 87))]) [0] rfl ?_
            exact pJ_X10_line_210 hd out hR _ _ (fun y0 m9 h9 => ih y0 m9 h9) hc219 _ hf
set_option maxHeartbeats 4000000 in
set_option maxRecDepth 100000 in
theorem pJ_X10_line_113 {E : xE} {d : Nat} {Q : Option Value → xS → Prop} (hd : 4 ≤ d) (out : Int32 × xMem) (hR : Q none (xf E out.2)) (x1 : Int32) (m : xMem) (hf : J_X10_line_113 x1 m = some out) : xX E mX10_line d 0 0 0 0 Q 113 [(0, .ref (xB E + 87)), (1, .int (x1))] [] (xf E m) := by
  unfold J_X10_line_113 at hf
  refine x_aload_n dX10_line_113 rfl ?_
  refine f_getR (b := 94) dX10_line_114 xcl_10 (by decide) fl_RX10_58 (by decide) sh_87 rfl ?_
  refine x_iload_n dX10_line_117 rfl ?_
  refine x_aload_n dX10_line_118 rfl ?_
  refine f_getI dX10_line_119 xcl_10 (by decide) fl_RX10_178 (by decide) sh_87 rfl ?_
  refine x_if_le 129 dX10_line_122 (by decide) (fun hc => ?_) (fun hc => ?_)
  · replace hf := x_ift hc hf
    refine x_aload_n dX10_line_129 rfl ?_
    refine f_getR (b := 91) dX10_line_130 xcl_10 (by decide) fl_RX10_30 (by decide) sh_87 rfl ?_
    refine x_aload_n dX10_line_133 rfl ?_
    refine f_getI dX10_line_134 xcl_10 (by decide) fl_RX10_175 (by decide) sh_87 rfl ?_
    have hg_6 := x_gd hf
    replace hf := hg_6.2
    refine f_lald dX10_line_137 (by decide) sh_91 hg_6.1 ?_
    refine x_l2i dX10_line_138 ?_
    have hg_7 := x_gd hf
    replace hf := hg_7.2
    refine f_iast dX10_line_139 (by decide) sh_94 hg_7.1 ?_
    refine x_aload_n dX10_line_140 rfl ?_
    refine x_dup dX10_line_141 rfl ?_
    refine f_getI dX10_line_142 xcl_10 (by decide) fl_RX10_175 (by decide) sh_87 rfl ?_
    refine x_iconst (v := 1) dX10_line_145 (by decide) ?_
    refine x_iadd dX10_line_146 ?_
    refine f_putI dX10_line_147 xcl_10 (by decide) fl_RX10_175 rfl rfl (by decide) sh_87 rfl ?_
    refine x_aload_n dX10_line_150 rfl ?_
    refine x_iconst (v := 1) dX10_line_151 (by decide) ?_
    obtain ⟨q_8, hq_8, hf⟩ := Option.bind_eq_some_iff.mp hf
    refine f_cVv mX10_takeWord [.int ((1 : Int32))] [] dX10_line_152 cs_RX10_211 ⟨w_1129, w_61⟩ (ci := 10) rfl (by decide) sh_87 rfl rfl (Nat.le_of_ble_eq_true rfl) (by omega) (c_X10_takeWord (d := d - 1) (by omega) ((1 : Int32)) (xst (xst m.1 am_lineN x1.toNatClampNeg ((m.2 am_value (m.1 am fGuideBookModel_at).toNatClampNeg).toInt32)) am fGuideBookModel_at (((xst m.1 am_lineN x1.toNatClampNeg ((m.2 am_value (m.1 am fGuideBookModel_at).toNatClampNeg).toInt32)) am fGuideBookModel_at) + (1 : Int32)), m.2) q_8 hq_8) ?_
    refine x_aload_n dX10_line_155 rfl ?_
    refine f_getR (b := 95) dX10_line_156 xcl_10 (by decide) fl_RX10_61 (by decide) sh_87 rfl ?_
    refine x_iload_n dX10_line_159 rfl ?_
    refine x_sipush (v := 660) dX10_line_160 (by decide) ?_
    refine x_aload_n dX10_line_163 rfl ?_
    refine f_getI dX10_line_164 xcl_10 (by decide) fl_RX10_194 (by decide) sh_87 rfl ?_
    refine x_imul dX10_line_167 ?_
    refine x_aload_n dX10_line_168 rfl ?_
    refine f_getI dX10_line_169 xcl_10 (by decide) fl_RX10_197 (by decide) sh_87 rfl ?_
    refine x_iadd dX10_line_172 ?_
    have hg_9 := x_gd hf
    replace hf := hg_9.2
    refine f_iast dX10_line_173 (by decide) sh_95 hg_9.1 ?_
    refine x_aload_n dX10_line_174 rfl ?_
    refine x_iconst (v := 0) dX10_line_175 (by decide) ?_
    refine f_putI dX10_line_176 xcl_10 (by decide) fl_RX10_214 rfl rfl (by decide) sh_87 rfl ?_
    refine x_aload_n dX10_line_179 rfl ?_
    obtain ⟨q_10, hq_10, hf⟩ := Option.bind_eq_some_iff.mp hf
    refine f_cVv mX10_opens [] [] dX10_line_180 cs_RX10_217 ⟨w_1137, w_63⟩ (ci := 10) rfl (by decide) sh_87 rfl rfl (Nat.le_of_ble_eq_true rfl) (by omega) (c_X10_opens (d := d - 1) (by omega) (xst (xst q_8.2.1 am_lineAt x1.toNatClampNeg (((660 : Int32) * (q_8.2.1 am fGuideBookModel_next)) + (q_8.2.1 am fGuideBookModel_codes))) am fGuideBookModel_deep (0 : Int32), q_8.2.2) q_10 hq_10) ?_
    refine x_iconst (v := 1) dX10_line_183 (by decide) ?_
    refine x_istore_n (lv' := [(0, .ref (xB E + 87)), (2, .int ((1 : Int32)))]) dX10_line_184 [1, 0] (by decide) rfl ?_
    refine pL_X10_line_185 hd out hR _ (fun m_21 hf => ?_) xfuel _ _ hf
    refine x_aload_n dX10_line_219 rfl ?_
    refine x_iconst (v := 0) dX10_line_220 (by decide) ?_
    refine x_iconst (v := 0) dX10_line_221 (by decide) ?_
    obtain ⟨q_22, hq_22, hf⟩ := Option.bind_eq_some_iff.mp hf
    refine f_cVv mX10_emit [.int ((0 : Int32)), .int ((0 : Int32))] [] dX10_line_222 cs_RX10_227 ⟨w_1157, w_68⟩ (ci := 10) rfl (by decide) sh_87 rfl rfl (Nat.le_of_ble_eq_true rfl) (by omega) (c_X10_emit (d := d - 1) (by omega) ((0 : Int32)) ((0 : Int32)) m_21 q_22 hq_22) ?_
    refine x_aload_n dX10_line_225 rfl ?_
    refine x_bipush (v := 59) dX10_line_226 (by decide) ?_
    obtain ⟨q_23, hq_23, hf⟩ := Option.bind_eq_some_iff.mp hf
    refine f_cVv mX10_takeSign [.int ((59 : Int32))] [] dX10_line_228 cs_RX10_231 ⟨w_1165, w_70⟩ (ci := 10) rfl (by decide) sh_87 rfl rfl (Nat.le_of_ble_eq_true rfl) (by omega) (c_X10_takeSign (d := d - 1) (by omega) ((59 : Int32)) q_22.2 q_23 hq_23) ?_
    refine x_aload_n dX10_line_231 rfl ?_
    refine f_getR (b := 93) dX10_line_232 xcl_10 (by decide) fl_RX10_55 (by decide) sh_87 rfl ?_
    refine x_aload_n dX10_line_235 rfl ?_
    refine f_getI dX10_line_236 xcl_10 (by decide) fl_RX10_194 (by decide) sh_87 rfl ?_
    refine x_dup2 dX10_line_239 rfl rfl ?_
    have hg_24 := x_gd hf
    replace hf := hg_24.2
    refine f_iald dX10_line_240 (by decide) sh_93 hg_24.1 ?_
    refine x_iconst (v := 1) dX10_line_241 (by decide) ?_
    refine x_iadd dX10_line_242 ?_
    have hg_25 := x_gd hf
    replace hf := hg_25.2
    refine f_iast dX10_line_243 (by decide) sh_93 hg_25.1 ?_
    exact x_vret dX10_line_244 rfl (by cases hf; exact hR)
  · replace hf := x_iff hc hf
    refine x_iconst (v := 0) dX10_line_125 (by decide) ?_
    refine x_goto 139 dX10_line_126 (by decide) ?_
    have hg_26 := x_gd hf
    replace hf := hg_26.2
    refine f_iast dX10_line_139 (by decide) sh_94 hg_26.1 ?_
    refine x_aload_n dX10_line_140 rfl ?_
    refine x_dup dX10_line_141 rfl ?_
    refine f_getI dX10_line_142 xcl_10 (by decide) fl_RX10_175 (by decide) sh_87 rfl ?_
    refine x_iconst (v := 1) dX10_line_145 (by decide) ?_
    refine x_iadd dX10_line_146 ?_
    refine f_putI dX10_line_147 xcl_10 (by decide) fl_RX10_175 rfl rfl (by decide) sh_87 rfl ?_
    refine x_aload_n dX10_line_150 rfl ?_
    refine x_iconst (v := 1) dX10_line_151 (by decide) ?_
    obtain ⟨q_27, hq_27, hf⟩ := Option.bind_eq_some_iff.mp hf
    refine f_cVv mX10_takeWord [.int ((1 : Int32))] [] dX10_line_152 cs_RX10_211 ⟨w_1129, w_61⟩ (ci := 10) rfl (by decide) sh_87 rfl rfl (Nat.le_of_ble_eq_true rfl) (by omega) (c_X10_takeWord (d := d - 1) (by omega) ((1 : Int32)) (xst (xst m.1 am_lineN x1.toNatClampNeg (0 : Int32)) am fGuideBookModel_at (((xst m.1 am_lineN x1.toNatClampNeg (0 : Int32)) am fGuideBookModel_at) + (1 : Int32)), m.2) q_27 hq_27) ?_
    refine x_aload_n dX10_line_155 rfl ?_
    refine f_getR (b := 95) dX10_line_156 xcl_10 (by decide) fl_RX10_61 (by decide) sh_87 rfl ?_
    refine x_iload_n dX10_line_159 rfl ?_
    refine x_sipush (v := 660) dX10_line_160 (by decide) ?_
    refine x_aload_n dX10_line_163 rfl ?_
    refine f_getI dX10_line_164 xcl_10 (by decide) fl_RX10_194 (by decide) sh_87 rfl ?_
    refine x_imul dX10_line_167 ?_
    refine x_aload_n dX10_line_168 rfl ?_
    refine f_getI dX10_line_169 xcl_10 (by decide) fl_RX10_197 (by decide) sh_87 rfl ?_
    refine x_iadd dX10_line_172 ?_
    have hg_28 := x_gd hf
    replace hf := hg_28.2
    refine f_iast dX10_line_173 (by decide) sh_95 hg_28.1 ?_
    refine x_aload_n dX10_line_174 rfl ?_
    refine x_iconst (v := 0) dX10_line_175 (by decide) ?_
    refine f_putI dX10_line_176 xcl_10 (by decide) fl_RX10_214 rfl rfl (by decide) sh_87 rfl ?_
    refine x_aload_n dX10_line_179 rfl ?_
    obtain ⟨q_29, hq_29, hf⟩ := Option.bind_eq_some_iff.mp hf
    refine f_cVv mX10_opens [] [] dX10_line_180 cs_RX10_217 ⟨w_1137, w_63⟩ (ci := 10) rfl (by decide) sh_87 rfl rfl (Nat.le_of_ble_eq_true rfl) (by omega) (c_X10_opens (d := d - 1) (by omega) (xst (xst q_27.2.1 am_lineAt x1.toNatClampNeg (((660 : Int32) * (q_27.2.1 am fGuideBookModel_next)) + (q_27.2.1 am fGuideBookModel_codes))) am fGuideBookModel_deep (0 : Int32), q_27.2.2) q_29 hq_29) ?_
    refine x_iconst (v := 1) dX10_line_183 (by decide) ?_
    refine x_istore_n (lv' := [(0, .ref (xB E + 87)), (2, .int ((1 : Int32)))]) dX10_line_184 [1, 0] (by decide) rfl ?_
    refine pL_X10_line_185 hd out hR _ (fun m_30 hf => ?_) xfuel _ _ hf
    refine x_aload_n dX10_line_219 rfl ?_
    refine x_iconst (v := 0) dX10_line_220 (by decide) ?_
    refine x_iconst (v := 0) dX10_line_221 (by decide) ?_
    obtain ⟨q_31, hq_31, hf⟩ := Option.bind_eq_some_iff.mp hf
    refine f_cVv mX10_emit [.int ((0 : Int32)), .int ((0 : Int32))] [] dX10_line_222 cs_RX10_227 ⟨w_1157, w_68⟩ (ci := 10) rfl (by decide) sh_87 rfl rfl (Nat.le_of_ble_eq_true rfl) (by omega) (c_X10_emit (d := d - 1) (by omega) ((0 : Int32)) ((0 : Int32)) m_30 q_31 hq_31) ?_
    refine x_aload_n dX10_line_225 rfl ?_
    refine x_bipush (v := 59) dX10_line_226 (by decide) ?_
    obtain ⟨q_32, hq_32, hf⟩ := Option.bind_eq_some_iff.mp hf
    refine f_cVv mX10_takeSign [.int ((59 : Int32))] [] dX10_line_228 cs_RX10_231 ⟨w_1165, w_70⟩ (ci := 10) rfl (by decide) sh_87 rfl rfl (Nat.le_of_ble_eq_true rfl) (by omega) (c_X10_takeSign (d := d - 1) (by omega) ((59 : Int32)) q_31.2 q_32 hq_32) ?_
    refine x_aload_n dX10_line_231 rfl ?_
    refine f_getR (b := 93) dX10_line_232 xcl_10 (by decide) fl_RX10_55 (by decide) sh_87 rfl ?_
    refine x_aload_n dX10_line_235 rfl ?_
    refine f_getI dX10_line_236 xcl_10 (by decide) fl_RX10_194 (by decide) sh_87 rfl ?_
    refine x_dup2 dX10_line_239 rfl rfl ?_
    have hg_33 := x_gd hf
    replace hf := hg_33.2
    refine f_iald dX10_line_240 (by decide) sh_93 hg_33.1 ?_
    refine x_iconst (v := 1) dX10_line_241 (by decide) ?_
    refine x_iadd dX10_line_242 ?_
    have hg_34 := x_gd hf
    replace hf := hg_34.2
    refine f_iast dX10_line_243 (by decide) sh_93 hg_34.1 ?_
    exact x_vret dX10_line_244 rfl (by cases hf; exact hR)
set_option maxHeartbeats 4000000 in
set_option maxRecDepth 100000 in
theorem pJ_X10_line_35 {E : xE} {d : Nat} {Q : Option Value → xS → Prop} (hd : 4 ≤ d) (out : Int32 × xMem) (hR : Q none (xf E out.2)) (m : xMem) (hf : J_X10_line_35 m = some out) : xX E mX10_line d 0 0 0 0 Q 35 [(0, .ref (xB E + 87))] [] (xf E m) := by
  unfold J_X10_line_35 at hf
  refine x_aload_n dX10_line_35 rfl ?_
  refine f_getI dX10_line_36 xcl_10 (by decide) fl_RX10_178 (by decide) sh_87 rfl ?_
  refine x_if_le 43 dX10_line_39 (by decide) (fun hc => ?_) (fun hc => ?_)
  · replace hf := x_ift hc hf
    refine x_aload_n dX10_line_43 rfl ?_
    refine x_dup dX10_line_44 rfl ?_
    refine f_getI dX10_line_45 xcl_10 (by decide) fl_RX10_175 (by decide) sh_87 rfl ?_
    refine x_iconst (v := 1) dX10_line_48 (by decide) ?_
    refine x_iadd dX10_line_49 ?_
    refine f_putI dX10_line_50 xcl_10 (by decide) fl_RX10_175 rfl rfl (by decide) sh_87 rfl ?_
    refine x_bipush (v := 16) dX10_line_53 (by decide) ?_
    refine x_aload_n dX10_line_55 rfl ?_
    refine f_getI dX10_line_56 xcl_10 (by decide) fl_RX10_194 (by decide) sh_87 rfl ?_
    refine x_imul dX10_line_59 ?_
    refine x_aload_n dX10_line_60 rfl ?_
    refine f_getR (b := 93) dX10_line_61 xcl_10 (by decide) fl_RX10_55 (by decide) sh_87 rfl ?_
    refine x_aload_n dX10_line_64 rfl ?_
    refine f_getI dX10_line_65 xcl_10 (by decide) fl_RX10_194 (by decide) sh_87 rfl ?_
    have hg_3 := x_gd hf
    replace hf := hg_3.2
    refine f_iald dX10_line_68 (by decide) sh_93 hg_3.1 ?_
    refine x_iadd dX10_line_69 ?_
    refine x_istore_n (lv' := [(0, .ref (xB E + 87)), (1, .int (((16 : Int32) * ((xst m.1 am fGuideBookModel_at ((m.1 am fGuideBookModel_at) + (1 : Int32))) am fGuideBookModel_next)) + ((xst m.1 am fGuideBookModel_at ((m.1 am fGuideBookModel_at) + (1 : Int32))) am_lines ((xst m.1 am fGuideBookModel_at ((m.1 am fGuideBookModel_at) + (1 : Int32))) am fGuideBookModel_next).toNatClampNeg)))]) dX10_line_70 [1, 0] (by decide) rfl ?_
    refine x_aload_n dX10_line_71 rfl ?_
    refine f_getR (b := 89) dX10_line_72 xcl_10 (by decide) fl_RX10_24 (by decide) sh_87 rfl ?_
    refine x_aload_n dX10_line_75 rfl ?_
    refine f_getI dX10_line_76 xcl_10 (by decide) fl_RX10_175 (by decide) sh_87 rfl ?_
    have hg_4 := x_gd hf
    replace hf := hg_4.2
    refine f_iald dX10_line_79 (by decide) sh_89 hg_4.1 ?_
    refine x_iconst (v := 2) dX10_line_80 (by decide) ?_
    refine x_icmp_eq 92 dX10_line_81 (by decide) (fun hc => ?_) (fun hc => ?_)
    · replace hf := x_ift hc hf
      refine x_aload_n dX10_line_92 rfl ?_
      refine f_getR (b := 91) dX10_line_93 xcl_10 (by decide) fl_RX10_30 (by decide) sh_87 rfl ?_
      refine x_aload_n dX10_line_96 rfl ?_
      refine f_getI dX10_line_97 xcl_10 (by decide) fl_RX10_175 (by decide) sh_87 rfl ?_
      have hg_5 := x_gd hf
      replace hf := hg_5.2
      refine f_lald dX10_line_100 (by decide) sh_91 hg_5.1 ?_
      refine x_ldc2 (v := 5) dX10_line_101 w_1126 ?_
      refine x_lcmp dX10_line_104 ?_
      refine x_if_le 113 dX10_line_105 (by decide) (fun hc => ?_) (fun hc => ?_)
      · replace hf := x_ift hc hf
        exact pJ_X10_line_113 hd out hR _ _ hf
      · replace hf := x_iff hc hf
        refine x_aload_n dX10_line_108 rfl ?_
        refine x_iconst (v := 4) dX10_line_109 (by decide) ?_
        obtain ⟨q_35, hq_35, hf⟩ := Option.bind_eq_some_iff.mp hf
        refine f_cVv mX10_wrong [.int ((4 : Int32))] [] dX10_line_110 cs_RX10_184 ⟨w_1124, w_60⟩ (ci := 10) rfl (by decide) sh_87 rfl rfl (Nat.le_of_ble_eq_true rfl) (by omega) (c_X10_wrong (d := d - 1) (by omega) ((4 : Int32)) (xst m.1 am fGuideBookModel_at ((m.1 am fGuideBookModel_at) + (1 : Int32)), m.2) q_35 hq_35) ?_
        exact pJ_X10_line_113 hd out hR _ _ hf
    · replace hf := x_iff hc hf
      refine x_aload_n dX10_line_84 rfl ?_
      refine x_iconst (v := 1) dX10_line_85 (by decide) ?_
      obtain ⟨q_36, hq_36, hf⟩ := Option.bind_eq_some_iff.mp hf
      refine f_cVv mX10_wrong [.int ((1 : Int32))] [] dX10_line_86 cs_RX10_184 ⟨w_1124, w_60⟩ (ci := 10) rfl (by decide) sh_87 rfl rfl (Nat.le_of_ble_eq_true rfl) (by omega) (c_X10_wrong (d := d - 1) (by omega) ((1 : Int32)) (xst m.1 am fGuideBookModel_at ((m.1 am fGuideBookModel_at) + (1 : Int32)), m.2) q_36 hq_36) ?_
      refine x_goto 113 dX10_line_89 (by decide) ?_
      exact pJ_X10_line_113 hd out hR _ _ hf
  · replace hf := x_iff hc hf
    exact x_vret dX10_line_42 rfl (by cases hf; exact hR)
set_option maxHeartbeats 4000000 in
set_option maxRecDepth 100000 in
theorem pF_X10_line {E : xE} {d : Nat} {Q : Option Value → xS → Prop} (hd : 4 ≤ d) (out : Int32 × xMem) (hR : Q none (xf E out.2)) (m : xMem) (hf : F_X10_line m = some out) : xX E mX10_line d 0 0 0 0 Q 0 [(0, .ref (xB E + 87))] [] (xf E m) := by
  unfold F_X10_line at hf
  refine x_aload_n dX10_line_0 rfl ?_
  refine x_iconst (v := 0) dX10_line_1 (by decide) ?_
  obtain ⟨q_1, hq_1, hf⟩ := Option.bind_eq_some_iff.mp hf
  refine f_cVi mX10_isWord [.int ((0 : Int32))] [] dX10_line_2 cs_RX10_188 ⟨w_1120, w_59⟩ (ci := 10) rfl (by decide) sh_87 rfl rfl (Nat.le_of_ble_eq_true rfl) (by omega) (c_X10_isWord (d := d - 1) (by omega) ((0 : Int32)) m q_1 hq_1) ?_
  refine x_if_ne 16 dX10_line_5 (by decide) (fun hc => ?_) (fun hc => ?_)
  · replace hf := x_iff hc hf
    refine x_aload_n dX10_line_16 rfl ?_
    refine f_getR (b := 93) dX10_line_17 xcl_10 (by decide) fl_RX10_55 (by decide) sh_87 rfl ?_
    refine x_aload_n dX10_line_20 rfl ?_
    refine f_getI dX10_line_21 xcl_10 (by decide) fl_RX10_194 (by decide) sh_87 rfl ?_
    have hg_2 := x_gd hf
    replace hf := hg_2.2
    refine f_iald dX10_line_24 (by decide) sh_93 hg_2.1 ?_
    refine x_bipush (v := 16) dX10_line_25 (by decide) ?_
    refine x_icmp_ne 35 dX10_line_27 (by decide) (fun hc => ?_) (fun hc => ?_)
    · replace hf := x_iff hc hf
      exact pJ_X10_line_35 hd out hR _ hf
    · replace hf := x_ift hc hf
      refine x_aload_n dX10_line_30 rfl ?_
      refine x_iconst (v := 5) dX10_line_31 (by decide) ?_
      obtain ⟨q_37, hq_37, hf⟩ := Option.bind_eq_some_iff.mp hf
      refine f_cVv mX10_wrong [.int ((5 : Int32))] [] dX10_line_32 cs_RX10_184 ⟨w_1124, w_60⟩ (ci := 10) rfl (by decide) sh_87 rfl rfl (Nat.le_of_ble_eq_true rfl) (by omega) (c_X10_wrong (d := d - 1) (by omega) ((5 : Int32)) q_1.2 q_37 hq_37) ?_
      exact pJ_X10_line_35 hd out hR _ hf
  · replace hf := x_ift hc hf
    refine x_aload_n dX10_line_8 rfl ?_
    refine x_iconst (v := 1) dX10_line_9 (by decide) ?_
    obtain ⟨q_38, hq_38, hf⟩ := Option.bind_eq_some_iff.mp hf
    refine f_cVv mX10_wrong [.int ((1 : Int32))] [] dX10_line_10 cs_RX10_184 ⟨w_1124, w_60⟩ (ci := 10) rfl (by decide) sh_87 rfl rfl (Nat.le_of_ble_eq_true rfl) (by omega) (c_X10_wrong (d := d - 1) (by omega) ((1 : Int32)) q_1.2 q_38 hq_38) ?_
    refine x_goto 35 dX10_line_13 (by decide) ?_
    exact pJ_X10_line_35 hd out hR _ hf
theorem c_X10_line {E : xE} {d : Nat} (hd : 4 ≤ d) (m : xMem) (out : Int32 × xMem) (h : F_X10_line m = some out) : xCv E mX10_line d [.ref (xB E + 87)] m out.2 :=
  x_enter (by decide +kernel) (Nat.le_of_ble_eq_true rfl) (pF_X10_line hd (Q := _) out ⟨rfl, rfl⟩ m h)
-- X10_text
def L_X10_text_34 (c60 : xMem → Option (Int32 × xMem)) : Nat → xMem → Option (Int32 × xMem)
  | 0, _ => none
  | fk + 1, m =>
    if (m.1 am fGuideBookModel_fault) = 0 then (
      if xin (m.1 am fGuideBookModel_at) 602 = true then (
      if (m.1 am_sort (m.1 am fGuideBookModel_at).toNatClampNeg) = 0 then (
        c60 m)
      else (
        (F_X10_line m).bind fun q_4 => (
        L_X10_text_34 c60 fk q_4.2)))
      else none)
    else (
      c60 m)
def F_X10_text (m : xMem) : Option (Int32 × xMem) :=
  (F_X10_cutAll (xst m.1 am fGuideBookModel_thrown (0 : Int32), m.2)).bind fun q_1 => (
  if xin ((xst q_1.2.1 am fGuideBookModel_next ((1 : Int32) - (q_1.2.1 am fGuideBookModel_holds))) am fGuideBookModel_next) 2 = true then (
  L_X10_text_34 (fun m_5 => (
    if (m_5.1 am fGuideBookModel_fault) = 0 then (
      some ((xst m_5.1 am fGuideBookModel_holds (m_5.1 am fGuideBookModel_next)) am fGuideBookModel_fault, (xst m_5.1 am fGuideBookModel_holds (m_5.1 am fGuideBookModel_next), m_5.2)))
    else (
      some (m_5.1 am fGuideBookModel_fault, m_5)))) xfuel (xst (xst (xst q_1.2.1 am fGuideBookModel_next ((1 : Int32) - (q_1.2.1 am fGuideBookModel_holds))) am_lines ((xst q_1.2.1 am fGuideBookModel_next ((1 : Int32) - (q_1.2.1 am fGuideBookModel_holds))) am fGuideBookModel_next).toNatClampNeg (0 : Int32)) am fGuideBookModel_codes (0 : Int32), q_1.2.2))
  else none)
set_option maxHeartbeats 4000000 in
set_option maxRecDepth 100000 in
theorem pL_X10_text_34 {E : xE} {d : Nat} {Q : Option Value → xS → Prop} (hd : 5 ≤ d) (out : Int32 × xMem) (hR : Q (some (.int out.1)) (xf E out.2)) (c60 : xMem → Option (Int32 × xMem)) (hc60 : ∀ (m : xMem), c60 m = some out → xX E mX10_text d 0 0 0 0 Q 60 [(0, .ref (xB E + 87))] [] (xf E m)) : ∀ (fk : Nat) (m : xMem), L_X10_text_34 c60 fk m = some out → xX E mX10_text d 0 0 0 0 Q 34 [(0, .ref (xB E + 87))] [] (xf E m) := by
  intro fk
  induction fk with
  | zero => intro m hf; cases hf
  | succ fk ih =>
    intro m hf
    rw [L_X10_text_34] at hf
    refine x_aload_n dX10_text_34 rfl ?_
    refine f_getI dX10_text_35 xcl_10 (by decide) fl_RX10_178 (by decide) sh_87 rfl ?_
    refine x_if_ne 60 dX10_text_38 (by decide) (fun hc => ?_) (fun hc => ?_)
    · replace hf := x_iff hc hf
      exact hc60 _ hf
    · replace hf := x_ift hc hf
      refine x_aload_n dX10_text_41 rfl ?_
      refine f_getR (b := 89) dX10_text_42 xcl_10 (by decide) fl_RX10_24 (by decide) sh_87 rfl ?_
      refine x_aload_n dX10_text_45 rfl ?_
      refine f_getI dX10_text_46 xcl_10 (by decide) fl_RX10_175 (by decide) sh_87 rfl ?_
      have hg_3 := x_gd hf
      replace hf := hg_3.2
      refine f_iald dX10_text_49 (by decide) sh_89 hg_3.1 ?_
      refine x_if_eq 60 dX10_text_50 (by decide) (fun hc => ?_) (fun hc => ?_)
      · replace hf := x_ift hc hf
        exact hc60 _ hf
      · replace hf := x_iff hc hf
        refine x_aload_n dX10_text_53 rfl ?_
        obtain ⟨q_4, hq_4, hf⟩ := Option.bind_eq_some_iff.mp hf
        refine f_cVv mX10_line [] [] dX10_text_54 cs_RX10_206 ⟨w_1116, w_58⟩ (ci := 10) rfl (by decide) sh_87 rfl rfl (Nat.le_of_ble_eq_true rfl) (by omega) (c_X10_line (d := d - 1) (by omega) m q_4 hq_4) ?_
        refine x_goto 34 dX10_text_57 (by decide) ?_
        exact ih _ hf
set_option maxHeartbeats 4000000 in
set_option maxRecDepth 100000 in
theorem pF_X10_text {E : xE} {d : Nat} {Q : Option Value → xS → Prop} (hd : 5 ≤ d) (out : Int32 × xMem) (hR : Q (some (.int out.1)) (xf E out.2)) (m : xMem) (hf : F_X10_text m = some out) : xX E mX10_text d 0 0 0 0 Q 0 [(0, .ref (xB E + 87))] [] (xf E m) := by
  unfold F_X10_text at hf
  refine x_aload_n dX10_text_0 rfl ?_
  refine x_iconst (v := 0) dX10_text_1 (by decide) ?_
  refine f_putI dX10_text_2 xcl_10 (by decide) fl_RX10_1 rfl rfl (by decide) sh_87 rfl ?_
  refine x_aload_n dX10_text_5 rfl ?_
  obtain ⟨q_1, hq_1, hf⟩ := Option.bind_eq_some_iff.mp hf
  refine f_cVv mX10_cutAll [] [] dX10_text_6 cs_RX10_200 ⟨w_1097, w_57⟩ (ci := 10) rfl (by decide) sh_87 rfl rfl (Nat.le_of_ble_eq_true rfl) (by omega) (c_X10_cutAll (d := d - 1) (by omega) (xst m.1 am fGuideBookModel_thrown (0 : Int32), m.2) q_1 hq_1) ?_
  refine x_aload_n dX10_text_9 rfl ?_
  refine x_iconst (v := 1) dX10_text_10 (by decide) ?_
  refine x_aload_n dX10_text_11 rfl ?_
  refine f_getI dX10_text_12 xcl_10 (by decide) fl_RX10_203 (by decide) sh_87 rfl ?_
  refine x_isub dX10_text_15 ?_
  refine f_putI dX10_text_16 xcl_10 (by decide) fl_RX10_194 rfl rfl (by decide) sh_87 rfl ?_
  refine x_aload_n dX10_text_19 rfl ?_
  refine f_getR (b := 93) dX10_text_20 xcl_10 (by decide) fl_RX10_55 (by decide) sh_87 rfl ?_
  refine x_aload_n dX10_text_23 rfl ?_
  refine f_getI dX10_text_24 xcl_10 (by decide) fl_RX10_194 (by decide) sh_87 rfl ?_
  refine x_iconst (v := 0) dX10_text_27 (by decide) ?_
  have hg_2 := x_gd hf
  replace hf := hg_2.2
  refine f_iast dX10_text_28 (by decide) sh_93 hg_2.1 ?_
  refine x_aload_n dX10_text_29 rfl ?_
  refine x_iconst (v := 0) dX10_text_30 (by decide) ?_
  refine f_putI dX10_text_31 xcl_10 (by decide) fl_RX10_197 rfl rfl (by decide) sh_87 rfl ?_
  refine pL_X10_text_34 hd out hR _ (fun m_5 hf => ?_) xfuel _ hf
  refine x_aload_n dX10_text_60 rfl ?_
  refine f_getI dX10_text_61 xcl_10 (by decide) fl_RX10_178 (by decide) sh_87 rfl ?_
  refine x_if_ne 75 dX10_text_64 (by decide) (fun hc => ?_) (fun hc => ?_)
  · replace hf := x_iff hc hf
    refine x_aload_n dX10_text_75 rfl ?_
    refine f_getI dX10_text_76 xcl_10 (by decide) fl_RX10_178 (by decide) sh_87 rfl ?_
    exact x_iret dX10_text_79 rfl (by cases hf; exact hR)
  · replace hf := x_ift hc hf
    refine x_aload_n dX10_text_67 rfl ?_
    refine x_aload_n dX10_text_68 rfl ?_
    refine f_getI dX10_text_69 xcl_10 (by decide) fl_RX10_194 (by decide) sh_87 rfl ?_
    refine f_putI dX10_text_72 xcl_10 (by decide) fl_RX10_203 rfl rfl (by decide) sh_87 rfl ?_
    refine x_aload_n dX10_text_75 rfl ?_
    refine f_getI dX10_text_76 xcl_10 (by decide) fl_RX10_178 (by decide) sh_87 rfl ?_
    exact x_iret dX10_text_79 rfl (by cases hf; exact hR)
theorem c_X10_text {E : xE} {d : Nat} (hd : 5 ≤ d) (m : xMem) (out : Int32 × xMem) (h : F_X10_text m = some out) : xCi E mX10_text d [.ref (xB E + 87)] m out.1 out.2 :=
  x_enter (by decide +kernel) (Nat.le_of_ble_eq_true rfl) (pF_X10_text hd (Q := _) out ⟨rfl, rfl⟩ m h)
