-- X7_isBlank
def J_X7_isBlank_35 (m : xMem) : Option (Int32 × xMem) :=
  some ((1 : Int32), m)
def F_X7_isBlank (x1 : Int32) (m : xMem) : Option (Int32 × xMem) :=
  (F_X9_within (x1) ((m.1 ag_tape fTape_length) - (1 : Int32)) m).bind fun q_1 => (
  if q_1.1 = 0 then (
    some ((0 : Int32), q_1.2))
  else (
    if xin x1 600 = true then (
    if (q_1.2.1 ag_tape_signs x1.toNatClampNeg) = (10 : Int32) then (
      J_X7_isBlank_35 q_1.2)
    else (
      if xin x1 600 = true then (
      if (q_1.2.1 ag_tape_signs x1.toNatClampNeg) = (32 : Int32) then (
        J_X7_isBlank_35 q_1.2)
      else (
        some ((0 : Int32), q_1.2)))
      else none))
    else none))
set_option maxHeartbeats 4000000 in
set_option maxRecDepth 100000 in
theorem pJ_X7_isBlank_35 {E : xE} {d : Nat} {Q : Option Value → xS → Prop} (hd : 2 ≤ d) (out : Int32 × xMem) (hR : Q (some (.int out.1)) (xf E out.2)) (m : xMem) (hf : J_X7_isBlank_35 m = some out) : xX E mX7_isBlank d 0 0 0 0 Q 35 [] [] (xf E m) := by
  unfold J_X7_isBlank_35 at hf
  refine x_iconst (v := 1) dX7_isBlank_35 (by decide) ?_
  refine x_goto 40 dX7_isBlank_36 (by decide) ?_
  exact x_zret dX7_isBlank_40 rfl (by decide) (by cases hf; exact hR)
set_option maxHeartbeats 4000000 in
set_option maxRecDepth 100000 in
theorem pF_X7_isBlank {E : xE} {d : Nat} {Q : Option Value → xS → Prop} (hd : 2 ≤ d) (out : Int32 × xMem) (hR : Q (some (.int out.1)) (xf E out.2)) (x1 : Int32) (m : xMem) (hf : F_X7_isBlank x1 m = some out) : xX E mX7_isBlank d 0 0 0 0 Q 0 [(0, .ref (xB E + 29)), (1, .int (x1))] [] (xf E m) := by
  unfold F_X7_isBlank at hf
  refine x_iload_n dX7_isBlank_0 rfl ?_
  refine x_aload_n dX7_isBlank_1 rfl ?_
  refine f_getI dX7_isBlank_2 xcl_7 (by decide) fl_RX7_21 (by decide) sh_29 rfl ?_
  refine x_iconst (v := 1) dX7_isBlank_5 (by decide) ?_
  refine x_isub dX7_isBlank_6 ?_
  obtain ⟨q_1, hq_1, hf⟩ := Option.bind_eq_some_iff.mp hf
  refine f_cSi mX9_within [.int (x1), .int ((m.1 ag_tape fTape_length) - (1 : Int32))] [] dX7_isBlank_7 cs_RX7_25 w_389 rfl rfl (Nat.le_of_ble_eq_true rfl) (by omega) (c_X9_within (d := d - 1) (by omega) (x1) ((m.1 ag_tape fTape_length) - (1 : Int32)) m q_1 hq_1) ?_
  refine x_if_eq 39 dX7_isBlank_10 (by decide) (fun hc => ?_) (fun hc => ?_)
  · replace hf := x_ift hc hf
    refine x_iconst (v := 0) dX7_isBlank_39 (by decide) ?_
    exact x_zret dX7_isBlank_40 rfl (by decide) (by cases hf; exact hR)
  · replace hf := x_iff hc hf
    refine x_aload_n dX7_isBlank_13 rfl ?_
    refine f_getR (b := 30) dX7_isBlank_14 xcl_7 (by decide) fl_RX7_9 (by decide) sh_29 rfl ?_
    refine x_iload_n dX7_isBlank_17 rfl ?_
    have hg_2 := x_gd hf
    replace hf := hg_2.2
    refine f_bald dX7_isBlank_18 (by decide) sh_30 hg_2.1 ?_
    refine x_bipush (v := 10) dX7_isBlank_19 (by decide) ?_
    refine x_icmp_eq 35 dX7_isBlank_21 (by decide) (fun hc => ?_) (fun hc => ?_)
    · replace hf := x_ift hc hf
      refine x_lv (lv' := []) [] rfl ?_
      exact pJ_X7_isBlank_35 hd out hR _ hf
    · replace hf := x_iff hc hf
      refine x_aload_n dX7_isBlank_24 rfl ?_
      refine f_getR (b := 30) dX7_isBlank_25 xcl_7 (by decide) fl_RX7_9 (by decide) sh_29 rfl ?_
      refine x_iload_n dX7_isBlank_28 rfl ?_
      have hg_3 := x_gd hf
      replace hf := hg_3.2
      refine f_bald dX7_isBlank_29 (by decide) sh_30 hg_3.1 ?_
      refine x_bipush (v := 32) dX7_isBlank_30 (by decide) ?_
      refine x_icmp_ne 39 dX7_isBlank_32 (by decide) (fun hc => ?_) (fun hc => ?_)
      · replace hf := x_iff hc hf
        refine x_iconst (v := 0) dX7_isBlank_39 (by decide) ?_
        exact x_zret dX7_isBlank_40 rfl (by decide) (by cases hf; exact hR)
      · replace hf := x_ift hc hf
        refine x_lv (lv' := []) [] rfl ?_
        exact pJ_X7_isBlank_35 hd out hR _ hf
theorem c_X7_isBlank {E : xE} {d : Nat} (hd : 2 ≤ d) (x1 : Int32) (m : xMem) (out : Int32 × xMem) (h : F_X7_isBlank x1 m = some out) : xCi E mX7_isBlank d [.ref (xB E + 29), .int x1] m out.1 out.2 :=
  x_enter (by decide +kernel) (Nat.le_of_ble_eq_true rfl) (pF_X7_isBlank hd (Q := _) out ⟨rfl, rfl⟩ x1 m h)
-- X8_startsToken
def J_X8_startsToken_41 (x1 : Int32) (s0 : Int32) (m : xMem) : Option (Int32 × xMem) :=
  if s0 = 0 then (
    (F_X7_isBlank (x1) m).bind fun q_3 => (
    if q_3.1 = 0 then (
      some ((1 : Int32), q_3.2))
    else (
      some ((0 : Int32), q_3.2))))
  else (
    some ((0 : Int32), m))
def J_X8_startsToken_40 (x1 : Int32) (m : xMem) : Option (Int32 × xMem) :=
  J_X8_startsToken_41 (x1) ((0 : Int32)) m
def J_X8_startsToken_36 (x1 : Int32) (m : xMem) : Option (Int32 × xMem) :=
  J_X8_startsToken_41 (x1) ((1 : Int32)) m
def J_X8_startsToken_18 (x1 : Int32) (m : xMem) : Option (Int32 × xMem) :=
  (F_X7_isDigit (x1) m).bind fun q_2 => (
  if q_2.1 = 0 then (
    J_X8_startsToken_40 (x1) q_2.2)
  else (
    (F_X7_isDigit (x1 - (1 : Int32)) q_2.2).bind fun q_4 => (
    if q_4.1 = 0 then (
      J_X8_startsToken_40 (x1) q_4.2)
    else (
      J_X8_startsToken_36 (x1) q_4.2))))
def F_X8_startsToken (x1 : Int32) (m : xMem) : Option (Int32 × xMem) :=
  (F_X7_isLetter (x1) m).bind fun q_1 => (
  if q_1.1 = 0 then (
    J_X8_startsToken_18 (x1) q_1.2)
  else (
    (F_X7_isLetter (x1 - (1 : Int32)) q_1.2).bind fun q_5 => (
    if q_5.1 = 0 then (
      J_X8_startsToken_18 (x1) q_5.2)
    else (
      J_X8_startsToken_36 (x1) q_5.2))))
set_option maxHeartbeats 4000000 in
set_option maxRecDepth 100000 in
theorem pJ_X8_startsToken_41 {E : xE} {d : Nat} {Q : Option Value → xS → Prop} (hd : 3 ≤ d) (out : Int32 × xMem) (hR : Q (some (.int out.1)) (xf E out.2)) (x1 : Int32) (s0 : Int32) (m : xMem) (hf : J_X8_startsToken_41 x1 s0 m = some out) : xX E mX8_startsToken d 0 0 0 0 Q 41 [(0, .ref (xB E + 29)), (1, .int (x1))] [.int (s0)] (xf E m) := by
  unfold J_X8_startsToken_41 at hf
  refine x_istore_n (lv' := [(0, .ref (xB E + 29)), (1, .int (x1)), (2, .int (s0))]) dX8_startsToken_41 [1, 2, 0] (by decide) rfl ?_
  refine x_iload_n dX8_startsToken_42 rfl ?_
  refine x_if_ne 58 dX8_startsToken_43 (by decide) (fun hc => ?_) (fun hc => ?_)
  · replace hf := x_iff hc hf
    refine x_iconst (v := 0) dX8_startsToken_58 (by decide) ?_
    exact x_zret dX8_startsToken_59 rfl (by decide) (by cases hf; exact hR)
  · replace hf := x_ift hc hf
    refine x_aload_n dX8_startsToken_46 rfl ?_
    refine x_iload_n dX8_startsToken_47 rfl ?_
    obtain ⟨q_3, hq_3, hf⟩ := Option.bind_eq_some_iff.mp hf
    refine f_cVi mX7_isBlank [.int (x1)] [] dX8_startsToken_48 cs_RX8_49 ⟨w_606, w_28⟩ (ci := 7) rfl (by decide) sh_29 rfl rfl (Nat.le_of_ble_eq_true rfl) (by omega) (c_X7_isBlank (d := d - 1) (by omega) (x1) m q_3 hq_3) ?_
    refine x_if_ne 58 dX8_startsToken_51 (by decide) (fun hc => ?_) (fun hc => ?_)
    · replace hf := x_iff hc hf
      refine x_iconst (v := 0) dX8_startsToken_58 (by decide) ?_
      exact x_zret dX8_startsToken_59 rfl (by decide) (by cases hf; exact hR)
    · replace hf := x_ift hc hf
      refine x_iconst (v := 1) dX8_startsToken_54 (by decide) ?_
      refine x_goto 59 dX8_startsToken_55 (by decide) ?_
      exact x_zret dX8_startsToken_59 rfl (by decide) (by cases hf; exact hR)
set_option maxHeartbeats 4000000 in
set_option maxRecDepth 100000 in
theorem pJ_X8_startsToken_40 {E : xE} {d : Nat} {Q : Option Value → xS → Prop} (hd : 3 ≤ d) (out : Int32 × xMem) (hR : Q (some (.int out.1)) (xf E out.2)) (x1 : Int32) (m : xMem) (hf : J_X8_startsToken_40 x1 m = some out) : xX E mX8_startsToken d 0 0 0 0 Q 40 [(0, .ref (xB E + 29)), (1, .int (x1))] [] (xf E m) := by
  unfold J_X8_startsToken_40 at hf
  refine x_iconst (v := 0) dX8_startsToken_40 (by decide) ?_
  exact pJ_X8_startsToken_41 hd out hR _ _ _ hf
set_option maxHeartbeats 4000000 in
set_option maxRecDepth 100000 in
theorem pJ_X8_startsToken_36 {E : xE} {d : Nat} {Q : Option Value → xS → Prop} (hd : 3 ≤ d) (out : Int32 × xMem) (hR : Q (some (.int out.1)) (xf E out.2)) (x1 : Int32) (m : xMem) (hf : J_X8_startsToken_36 x1 m = some out) : xX E mX8_startsToken d 0 0 0 0 Q 36 [(0, .ref (xB E + 29)), (1, .int (x1))] [] (xf E m) := by
  unfold J_X8_startsToken_36 at hf
  refine x_iconst (v := 1) dX8_startsToken_36 (by decide) ?_
  refine x_goto 41 dX8_startsToken_37 (by decide) ?_
  exact pJ_X8_startsToken_41 hd out hR _ _ _ hf
set_option maxHeartbeats 4000000 in
set_option maxRecDepth 100000 in
theorem pJ_X8_startsToken_18 {E : xE} {d : Nat} {Q : Option Value → xS → Prop} (hd : 3 ≤ d) (out : Int32 × xMem) (hR : Q (some (.int out.1)) (xf E out.2)) (x1 : Int32) (m : xMem) (hf : J_X8_startsToken_18 x1 m = some out) : xX E mX8_startsToken d 0 0 0 0 Q 18 [(0, .ref (xB E + 29)), (1, .int (x1))] [] (xf E m) := by
  unfold J_X8_startsToken_18 at hf
  refine x_aload_n dX8_startsToken_18 rfl ?_
  refine x_iload_n dX8_startsToken_19 rfl ?_
  obtain ⟨q_2, hq_2, hf⟩ := Option.bind_eq_some_iff.mp hf
  refine f_cVi mX7_isDigit [.int (x1)] [] dX8_startsToken_20 cs_RX8_46 ⟨w_602, w_27⟩ (ci := 7) rfl (by decide) sh_29 rfl rfl (Nat.le_of_ble_eq_true rfl) (by omega) (c_X7_isDigit (d := d - 1) (by omega) (x1) m q_2 hq_2) ?_
  refine x_if_eq 40 dX8_startsToken_23 (by decide) (fun hc => ?_) (fun hc => ?_)
  · replace hf := x_ift hc hf
    exact pJ_X8_startsToken_40 hd out hR _ _ hf
  · replace hf := x_iff hc hf
    refine x_aload_n dX8_startsToken_26 rfl ?_
    refine x_iload_n dX8_startsToken_27 rfl ?_
    refine x_iconst (v := 1) dX8_startsToken_28 (by decide) ?_
    refine x_isub dX8_startsToken_29 ?_
    obtain ⟨q_4, hq_4, hf⟩ := Option.bind_eq_some_iff.mp hf
    refine f_cVi mX7_isDigit [.int (x1 - (1 : Int32))] [] dX8_startsToken_30 cs_RX8_46 ⟨w_602, w_27⟩ (ci := 7) rfl (by decide) sh_29 rfl rfl (Nat.le_of_ble_eq_true rfl) (by omega) (c_X7_isDigit (d := d - 1) (by omega) (x1 - (1 : Int32)) q_2.2 q_4 hq_4) ?_
    refine x_if_eq 40 dX8_startsToken_33 (by decide) (fun hc => ?_) (fun hc => ?_)
    · replace hf := x_ift hc hf
      exact pJ_X8_startsToken_40 hd out hR _ _ hf
    · replace hf := x_iff hc hf
      exact pJ_X8_startsToken_36 hd out hR _ _ hf
set_option maxHeartbeats 4000000 in
set_option maxRecDepth 100000 in
theorem pF_X8_startsToken {E : xE} {d : Nat} {Q : Option Value → xS → Prop} (hd : 3 ≤ d) (out : Int32 × xMem) (hR : Q (some (.int out.1)) (xf E out.2)) (x1 : Int32) (m : xMem) (hf : F_X8_startsToken x1 m = some out) : xX E mX8_startsToken d 0 0 0 0 Q 0 [(0, .ref (xB E + 29)), (1, .int (x1))] [] (xf E m) := by
  unfold F_X8_startsToken at hf
  refine x_aload_n dX8_startsToken_0 rfl ?_
  refine x_iload_n dX8_startsToken_1 rfl ?_
  obtain ⟨q_1, hq_1, hf⟩ := Option.bind_eq_some_iff.mp hf
  refine f_cVi mX7_isLetter [.int (x1)] [] dX8_startsToken_2 cs_RX8_42 ⟨w_597, w_26⟩ (ci := 7) rfl (by decide) sh_29 rfl rfl (Nat.le_of_ble_eq_true rfl) (by omega) (c_X7_isLetter (d := d - 1) (by omega) (x1) m q_1 hq_1) ?_
  refine x_if_eq 18 dX8_startsToken_5 (by decide) (fun hc => ?_) (fun hc => ?_)
  · replace hf := x_ift hc hf
    exact pJ_X8_startsToken_18 hd out hR _ _ hf
  · replace hf := x_iff hc hf
    refine x_aload_n dX8_startsToken_8 rfl ?_
    refine x_iload_n dX8_startsToken_9 rfl ?_
    refine x_iconst (v := 1) dX8_startsToken_10 (by decide) ?_
    refine x_isub dX8_startsToken_11 ?_
    obtain ⟨q_5, hq_5, hf⟩ := Option.bind_eq_some_iff.mp hf
    refine f_cVi mX7_isLetter [.int (x1 - (1 : Int32))] [] dX8_startsToken_12 cs_RX8_42 ⟨w_597, w_26⟩ (ci := 7) rfl (by decide) sh_29 rfl rfl (Nat.le_of_ble_eq_true rfl) (by omega) (c_X7_isLetter (d := d - 1) (by omega) (x1 - (1 : Int32)) q_1.2 q_5 hq_5) ?_
    refine x_if_ne 36 dX8_startsToken_15 (by decide) (fun hc => ?_) (fun hc => ?_)
    · replace hf := x_iff hc hf
      exact pJ_X8_startsToken_36 hd out hR _ _ hf
    · replace hf := x_ift hc hf
      exact pJ_X8_startsToken_18 hd out hR _ _ hf
theorem c_X8_startsToken {E : xE} {d : Nat} (hd : 3 ≤ d) (x1 : Int32) (m : xMem) (out : Int32 × xMem) (h : F_X8_startsToken x1 m = some out) : xCi E mX8_startsToken d [.ref (xB E + 29), .int x1] m out.1 out.2 :=
  x_enter (by decide +kernel) (Nat.le_of_ble_eq_true rfl) (pF_X8_startsToken hd (Q := _) out ⟨rfl, rfl⟩ x1 m h)
-- X8_signToken
def F_X8_signToken (x0 : Int32) (m : xMem) : Option (Int32 × xMem) :=
  if x0 = 40 then (
    some (x0, m))
  else (
  if x0 = 41 then (
    some (x0, m))
  else (
  if x0 = 43 then (
    some (x0, m))
  else (
  if x0 = 45 then (
    some (x0, m))
  else (
  if x0 = 59 then (
    some (x0, m))
  else (
  if x0 = 60 then (
    some (x0, m))
  else (
  if x0 = 61 then (
    some (x0, m))
  else (
    some ((1 : Int32), m))))))))
set_option maxHeartbeats 4000000 in
set_option maxRecDepth 100000 in
theorem pF_X8_signToken {E : xE} {d : Nat} {Q : Option Value → xS → Prop} (hd : 1 ≤ d) (out : Int32 × xMem) (hR : Q (some (.int out.1)) (xf E out.2)) (x0 : Int32) (m : xMem) (hf : F_X8_signToken x0 m = some out) : xX E mX8_signToken d 0 0 0 0 Q 0 [(0, .int (x0))] [] (xf E m) := by
  unfold F_X8_signToken at hf
  refine x_iload_n dX8_signToken_0 rfl ?_
  by_cases hc : x0 = 40
  · replace hf := x_ift hc hf
    refine x_tableIn 104 dX8_signToken_1 (by rw [hc]; decide) (by rw [hc]; decide) (by rw [hc]; rfl) (by decide) ?_
    refine x_iload_n dX8_signToken_104 rfl ?_
    exact x_iret dX8_signToken_105 rfl (by cases hf; exact hR)
  replace hf := x_iff hc hf
  have hn40 := hc
  by_cases hc : x0 = 41
  · replace hf := x_ift hc hf
    refine x_tableIn 104 dX8_signToken_1 (by rw [hc]; decide) (by rw [hc]; decide) (by rw [hc]; rfl) (by decide) ?_
    refine x_iload_n dX8_signToken_104 rfl ?_
    exact x_iret dX8_signToken_105 rfl (by cases hf; exact hR)
  replace hf := x_iff hc hf
  have hn41 := hc
  by_cases hc : x0 = 43
  · replace hf := x_ift hc hf
    refine x_tableIn 104 dX8_signToken_1 (by rw [hc]; decide) (by rw [hc]; decide) (by rw [hc]; rfl) (by decide) ?_
    refine x_iload_n dX8_signToken_104 rfl ?_
    exact x_iret dX8_signToken_105 rfl (by cases hf; exact hR)
  replace hf := x_iff hc hf
  have hn43 := hc
  by_cases hc : x0 = 45
  · replace hf := x_ift hc hf
    refine x_tableIn 104 dX8_signToken_1 (by rw [hc]; decide) (by rw [hc]; decide) (by rw [hc]; rfl) (by decide) ?_
    refine x_iload_n dX8_signToken_104 rfl ?_
    exact x_iret dX8_signToken_105 rfl (by cases hf; exact hR)
  replace hf := x_iff hc hf
  have hn45 := hc
  by_cases hc : x0 = 59
  · replace hf := x_ift hc hf
    refine x_tableIn 104 dX8_signToken_1 (by rw [hc]; decide) (by rw [hc]; decide) (by rw [hc]; rfl) (by decide) ?_
    refine x_iload_n dX8_signToken_104 rfl ?_
    exact x_iret dX8_signToken_105 rfl (by cases hf; exact hR)
  replace hf := x_iff hc hf
  have hn59 := hc
  by_cases hc : x0 = 60
  · replace hf := x_ift hc hf
    refine x_tableIn 104 dX8_signToken_1 (by rw [hc]; decide) (by rw [hc]; decide) (by rw [hc]; rfl) (by decide) ?_
    refine x_iload_n dX8_signToken_104 rfl ?_
    exact x_iret dX8_signToken_105 rfl (by cases hf; exact hR)
  replace hf := x_iff hc hf
  have hn60 := hc
  by_cases hc : x0 = 61
  · replace hf := x_ift hc hf
    refine x_tableIn 104 dX8_signToken_1 (by rw [hc]; decide) (by rw [hc]; decide) (by rw [hc]; rfl) (by decide) ?_
    refine x_iload_n dX8_signToken_104 rfl ?_
    exact x_iret dX8_signToken_105 rfl (by cases hf; exact hR)
  replace hf := x_iff hc hf
  have hn61 := hc
  by_cases hc : x0 = 42
  · refine x_tableIn 106 dX8_signToken_1 (by rw [hc]; decide) (by rw [hc]; decide) (by rw [hc]; rfl) (by decide) ?_
    refine x_iconst (v := 1) dX8_signToken_106 (by decide) ?_
    exact x_iret dX8_signToken_107 rfl (by cases hf; exact hR)
  have hn42 := hc
  by_cases hc : x0 = 44
  · refine x_tableIn 106 dX8_signToken_1 (by rw [hc]; decide) (by rw [hc]; decide) (by rw [hc]; rfl) (by decide) ?_
    refine x_iconst (v := 1) dX8_signToken_106 (by decide) ?_
    exact x_iret dX8_signToken_107 rfl (by cases hf; exact hR)
  have hn44 := hc
  by_cases hc : x0 = 46
  · refine x_tableIn 106 dX8_signToken_1 (by rw [hc]; decide) (by rw [hc]; decide) (by rw [hc]; rfl) (by decide) ?_
    refine x_iconst (v := 1) dX8_signToken_106 (by decide) ?_
    exact x_iret dX8_signToken_107 rfl (by cases hf; exact hR)
  have hn46 := hc
  by_cases hc : x0 = 47
  · refine x_tableIn 106 dX8_signToken_1 (by rw [hc]; decide) (by rw [hc]; decide) (by rw [hc]; rfl) (by decide) ?_
    refine x_iconst (v := 1) dX8_signToken_106 (by decide) ?_
    exact x_iret dX8_signToken_107 rfl (by cases hf; exact hR)
  have hn47 := hc
  by_cases hc : x0 = 48
  · refine x_tableIn 106 dX8_signToken_1 (by rw [hc]; decide) (by rw [hc]; decide) (by rw [hc]; rfl) (by decide) ?_
    refine x_iconst (v := 1) dX8_signToken_106 (by decide) ?_
    exact x_iret dX8_signToken_107 rfl (by cases hf; exact hR)
  have hn48 := hc
  by_cases hc : x0 = 49
  · refine x_tableIn 106 dX8_signToken_1 (by rw [hc]; decide) (by rw [hc]; decide) (by rw [hc]; rfl) (by decide) ?_
    refine x_iconst (v := 1) dX8_signToken_106 (by decide) ?_
    exact x_iret dX8_signToken_107 rfl (by cases hf; exact hR)
  have hn49 := hc
  by_cases hc : x0 = 50
  · refine x_tableIn 106 dX8_signToken_1 (by rw [hc]; decide) (by rw [hc]; decide) (by rw [hc]; rfl) (by decide) ?_
    refine x_iconst (v := 1) dX8_signToken_106 (by decide) ?_
    exact x_iret dX8_signToken_107 rfl (by cases hf; exact hR)
  have hn50 := hc
  by_cases hc : x0 = 51
  · refine x_tableIn 106 dX8_signToken_1 (by rw [hc]; decide) (by rw [hc]; decide) (by rw [hc]; rfl) (by decide) ?_
    refine x_iconst (v := 1) dX8_signToken_106 (by decide) ?_
    exact x_iret dX8_signToken_107 rfl (by cases hf; exact hR)
  have hn51 := hc
  by_cases hc : x0 = 52
  · refine x_tableIn 106 dX8_signToken_1 (by rw [hc]; decide) (by rw [hc]; decide) (by rw [hc]; rfl) (by decide) ?_
    refine x_iconst (v := 1) dX8_signToken_106 (by decide) ?_
    exact x_iret dX8_signToken_107 rfl (by cases hf; exact hR)
  have hn52 := hc
  by_cases hc : x0 = 53
  · refine x_tableIn 106 dX8_signToken_1 (by rw [hc]; decide) (by rw [hc]; decide) (by rw [hc]; rfl) (by decide) ?_
    refine x_iconst (v := 1) dX8_signToken_106 (by decide) ?_
    exact x_iret dX8_signToken_107 rfl (by cases hf; exact hR)
  have hn53 := hc
  by_cases hc : x0 = 54
  · refine x_tableIn 106 dX8_signToken_1 (by rw [hc]; decide) (by rw [hc]; decide) (by rw [hc]; rfl) (by decide) ?_
    refine x_iconst (v := 1) dX8_signToken_106 (by decide) ?_
    exact x_iret dX8_signToken_107 rfl (by cases hf; exact hR)
  have hn54 := hc
  by_cases hc : x0 = 55
  · refine x_tableIn 106 dX8_signToken_1 (by rw [hc]; decide) (by rw [hc]; decide) (by rw [hc]; rfl) (by decide) ?_
    refine x_iconst (v := 1) dX8_signToken_106 (by decide) ?_
    exact x_iret dX8_signToken_107 rfl (by cases hf; exact hR)
  have hn55 := hc
  by_cases hc : x0 = 56
  · refine x_tableIn 106 dX8_signToken_1 (by rw [hc]; decide) (by rw [hc]; decide) (by rw [hc]; rfl) (by decide) ?_
    refine x_iconst (v := 1) dX8_signToken_106 (by decide) ?_
    exact x_iret dX8_signToken_107 rfl (by cases hf; exact hR)
  have hn56 := hc
  by_cases hc : x0 = 57
  · refine x_tableIn 106 dX8_signToken_1 (by rw [hc]; decide) (by rw [hc]; decide) (by rw [hc]; rfl) (by decide) ?_
    refine x_iconst (v := 1) dX8_signToken_106 (by decide) ?_
    exact x_iret dX8_signToken_107 rfl (by cases hf; exact hR)
  have hn57 := hc
  by_cases hc : x0 = 58
  · refine x_tableIn 106 dX8_signToken_1 (by rw [hc]; decide) (by rw [hc]; decide) (by rw [hc]; rfl) (by decide) ?_
    refine x_iconst (v := 1) dX8_signToken_106 (by decide) ?_
    exact x_iret dX8_signToken_107 rfl (by cases hf; exact hR)
  have hn58 := hc
  refine x_tableOut 106 dX8_signToken_1 (xtab_out 40 61 [40, 41, 42, 43, 44, 45, 46, 47, 48, 49, 50, 51, 52, 53, 54, 55, 56, 57, 58, 59, 60, 61] (by decide) (by simp only [List.forall_mem_cons, List.not_mem_nil, false_implies, implies_true, and_true]; exact ⟨hn40, hn41, hn42, hn43, hn44, hn45, hn46, hn47, hn48, hn49, hn50, hn51, hn52, hn53, hn54, hn55, hn56, hn57, hn58, hn59, hn60, hn61⟩)) (by decide) ?_
  refine x_iconst (v := 1) dX8_signToken_106 (by decide) ?_
  exact x_iret dX8_signToken_107 rfl (by cases hf; exact hR)
theorem c_X8_signToken {E : xE} {d : Nat} (hd : 1 ≤ d) (x0 : Int32) (m : xMem) (out : Int32 × xMem) (h : F_X8_signToken x0 m = some out) : xCi E mX8_signToken d [.int x0] m out.1 out.2 :=
  x_enter (by decide +kernel) (Nat.le_of_ble_eq_true rfl) (pF_X8_signToken hd (Q := _) out ⟨rfl, rfl⟩ x0 m h)
-- X8_add
def F_X8_add (x1 : Int32) (x2 : Int32) (x3 : Int32) (m : xMem) : Option (Int32 × xMem) :=
  if (600 : Int32) < (m.1 ag_parser_tokens fTokens_size) then (
    some (0, m))
  else (
    if xin (m.1 ag_parser_tokens fTokens_size) 601 = true then (
    if xin ((xst m.1 ag_parser_tokens_what (m.1 ag_parser_tokens fTokens_size).toNatClampNeg x1) ag_parser_tokens fTokens_size) 601 = true then (
    if xin ((xst (xst m.1 ag_parser_tokens_what (m.1 ag_parser_tokens fTokens_size).toNatClampNeg x1) ag_parser_tokens_where ((xst m.1 ag_parser_tokens_what (m.1 ag_parser_tokens fTokens_size).toNatClampNeg x1) ag_parser_tokens fTokens_size).toNatClampNeg x2) ag_parser_tokens fTokens_size) 601 = true then (
    some (0, (xst (xst (xst (xst m.1 ag_parser_tokens_what (m.1 ag_parser_tokens fTokens_size).toNatClampNeg x1) ag_parser_tokens_where ((xst m.1 ag_parser_tokens_what (m.1 ag_parser_tokens fTokens_size).toNatClampNeg x1) ag_parser_tokens fTokens_size).toNatClampNeg x2) ag_parser_tokens_value ((xst (xst m.1 ag_parser_tokens_what (m.1 ag_parser_tokens fTokens_size).toNatClampNeg x1) ag_parser_tokens_where ((xst m.1 ag_parser_tokens_what (m.1 ag_parser_tokens fTokens_size).toNatClampNeg x1) ag_parser_tokens fTokens_size).toNatClampNeg x2) ag_parser_tokens fTokens_size).toNatClampNeg x3) ag_parser_tokens fTokens_size (((xst (xst (xst m.1 ag_parser_tokens_what (m.1 ag_parser_tokens fTokens_size).toNatClampNeg x1) ag_parser_tokens_where ((xst m.1 ag_parser_tokens_what (m.1 ag_parser_tokens fTokens_size).toNatClampNeg x1) ag_parser_tokens fTokens_size).toNatClampNeg x2) ag_parser_tokens_value ((xst (xst m.1 ag_parser_tokens_what (m.1 ag_parser_tokens fTokens_size).toNatClampNeg x1) ag_parser_tokens_where ((xst m.1 ag_parser_tokens_what (m.1 ag_parser_tokens fTokens_size).toNatClampNeg x1) ag_parser_tokens fTokens_size).toNatClampNeg x2) ag_parser_tokens fTokens_size).toNatClampNeg x3) ag_parser_tokens fTokens_size) + (1 : Int32)), m.2)))
    else none)
    else none)
    else none)
set_option maxHeartbeats 4000000 in
set_option maxRecDepth 100000 in
theorem pF_X8_add {E : xE} {d : Nat} {Q : Option Value → xS → Prop} (hd : 1 ≤ d) (out : Int32 × xMem) (hR : Q none (xf E out.2)) (x1 : Int32) (x2 : Int32) (x3 : Int32) (m : xMem) (hf : F_X8_add x1 x2 x3 m = some out) : xX E mX8_add d 0 0 0 0 Q 0 [(0, .ref (xB E + 32)), (1, .int (x1)), (2, .int (x2)), (3, .int (x3))] [] (xf E m) := by
  unfold F_X8_add at hf
  refine x_aload_n dX8_add_0 rfl ?_
  refine f_getI dX8_add_1 xcl_8 (by decide) fl_RX8_21 (by decide) sh_32 rfl ?_
  refine x_sipush (v := 600) dX8_add_4 (by decide) ?_
  refine x_icmp_gt 50 dX8_add_7 (by decide) (fun hc => ?_) (fun hc => ?_)
  · replace hf := x_ift hc hf
    exact x_vret dX8_add_50 rfl (by cases hf; exact hR)
  · replace hf := x_iff hc hf
    refine x_aload_n dX8_add_10 rfl ?_
    refine f_getR (b := 33) dX8_add_11 xcl_8 (by decide) fl_RX8_9 (by decide) sh_32 rfl ?_
    refine x_aload_n dX8_add_14 rfl ?_
    refine f_getI dX8_add_15 xcl_8 (by decide) fl_RX8_21 (by decide) sh_32 rfl ?_
    refine x_iload_n dX8_add_18 rfl ?_
    have hg_1 := x_gd hf
    replace hf := hg_1.2
    refine f_iast dX8_add_19 (by decide) sh_33 hg_1.1 ?_
    refine x_aload_n dX8_add_20 rfl ?_
    refine f_getR (b := 34) dX8_add_21 xcl_8 (by decide) fl_RX8_15 (by decide) sh_32 rfl ?_
    refine x_aload_n dX8_add_24 rfl ?_
    refine f_getI dX8_add_25 xcl_8 (by decide) fl_RX8_21 (by decide) sh_32 rfl ?_
    refine x_iload_n dX8_add_28 rfl ?_
    have hg_2 := x_gd hf
    replace hf := hg_2.2
    refine f_iast dX8_add_29 (by decide) sh_34 hg_2.1 ?_
    refine x_aload_n dX8_add_30 rfl ?_
    refine f_getR (b := 35) dX8_add_31 xcl_8 (by decide) fl_RX8_18 (by decide) sh_32 rfl ?_
    refine x_aload_n dX8_add_34 rfl ?_
    refine f_getI dX8_add_35 xcl_8 (by decide) fl_RX8_21 (by decide) sh_32 rfl ?_
    refine x_iload_n dX8_add_38 rfl ?_
    have hg_3 := x_gd hf
    replace hf := hg_3.2
    refine f_iast dX8_add_39 (by decide) sh_35 hg_3.1 ?_
    refine x_aload_n dX8_add_40 rfl ?_
    refine x_dup dX8_add_41 rfl ?_
    refine f_getI dX8_add_42 xcl_8 (by decide) fl_RX8_21 (by decide) sh_32 rfl ?_
    refine x_iconst (v := 1) dX8_add_45 (by decide) ?_
    refine x_iadd dX8_add_46 ?_
    refine f_putI dX8_add_47 xcl_8 (by decide) fl_RX8_21 rfl rfl (by decide) sh_32 rfl ?_
    exact x_vret dX8_add_50 rfl (by cases hf; exact hR)
theorem c_X8_add {E : xE} {d : Nat} (hd : 1 ≤ d) (x1 : Int32) (x2 : Int32) (x3 : Int32) (m : xMem) (out : Int32 × xMem) (h : F_X8_add x1 x2 x3 m = some out) : xCv E mX8_add d [.ref (xB E + 32), .int x1, .int x2, .int x3] m out.2 :=
  x_enter (by decide +kernel) (Nat.le_of_ble_eq_true rfl) (pF_X8_add hd (Q := _) out ⟨rfl, rfl⟩ x1 x2 x3 m h)
-- X7_endOfDigits
def L_X7_endOfDigits_2 : Nat → Int32 → xMem → Option (Int32 × xMem)
  | 0, _, _ => none
  | fk + 1, x2, m =>
    if (m.1 ag_tape fTape_length) ≤ x2 then (
      some (x2, m))
    else (
      (F_X7_isDigit (x2) m).bind fun q_1 => (
      if q_1.1 = 0 then (
        some (x2, q_1.2))
      else (
        L_X7_endOfDigits_2 fk (x2 + 1) q_1.2)))
def F_X7_endOfDigits (x1 : Int32) (m : xMem) : Option (Int32 × xMem) :=
  L_X7_endOfDigits_2 xfuel (x1) m
set_option maxHeartbeats 4000000 in
set_option maxRecDepth 100000 in
theorem pL_X7_endOfDigits_2 {E : xE} {d : Nat} {Q : Option Value → xS → Prop} (hd : 3 ≤ d) (out : Int32 × xMem) (hR : Q (some (.int out.1)) (xf E out.2)) : ∀ (fk : Nat) (x2 : Int32) (m : xMem), L_X7_endOfDigits_2 fk x2 m = some out → xX E mX7_endOfDigits d 0 0 0 0 Q 2 [(0, .ref (xB E + 29)), (2, .int (x2))] [] (xf E m) := by
  intro fk
  induction fk with
  | zero => intro x2 m hf; cases hf
  | succ fk ih =>
    intro x2 m hf
    rw [L_X7_endOfDigits_2] at hf
    refine x_iload_n dX7_endOfDigits_2 rfl ?_
    refine x_aload_n dX7_endOfDigits_3 rfl ?_
    refine f_getI dX7_endOfDigits_4 xcl_7 (by decide) fl_RX7_21 (by decide) sh_29 rfl ?_
    refine x_icmp_ge 24 dX7_endOfDigits_7 (by decide) (fun hc => ?_) (fun hc => ?_)
    · replace hf := x_ift hc hf
      refine x_iload_n dX7_endOfDigits_24 rfl ?_
      exact x_iret dX7_endOfDigits_25 rfl (by cases hf; exact hR)
    · replace hf := x_iff hc hf
      refine x_aload_n dX7_endOfDigits_10 rfl ?_
      refine x_iload_n dX7_endOfDigits_11 rfl ?_
      obtain ⟨q_1, hq_1, hf⟩ := Option.bind_eq_some_iff.mp hf
      refine f_cVi mX7_isDigit [.int (x2)] [] dX7_endOfDigits_12 cs_RX7_33 ⟨w_602, w_27⟩ (ci := 7) rfl (by decide) sh_29 rfl rfl (Nat.le_of_ble_eq_true rfl) (by omega) (c_X7_isDigit (d := d - 1) (by omega) (x2) m q_1 hq_1) ?_
      refine x_if_eq 24 dX7_endOfDigits_15 (by decide) (fun hc => ?_) (fun hc => ?_)
      · replace hf := x_ift hc hf
        refine x_iload_n dX7_endOfDigits_24 rfl ?_
        exact x_iret dX7_endOfDigits_25 rfl (by cases hf; exact hR)
      · replace hf := x_iff hc hf
        refine x_iinc (v := x2 + 1) (lv' := [(0, .ref (xB E + 29)), (2, .int (x2 + 1))]) dX7_endOfDigits_18 1 [1, 0] rfl rfl (by decide) rfl ?_
        refine x_goto 2 dX7_endOfDigits_21 (by decide) ?_
        exact ih _ _ hf
set_option maxHeartbeats 4000000 in
set_option maxRecDepth 100000 in
theorem pF_X7_endOfDigits {E : xE} {d : Nat} {Q : Option Value → xS → Prop} (hd : 3 ≤ d) (out : Int32 × xMem) (hR : Q (some (.int out.1)) (xf E out.2)) (x1 : Int32) (m : xMem) (hf : F_X7_endOfDigits x1 m = some out) : xX E mX7_endOfDigits d 0 0 0 0 Q 0 [(0, .ref (xB E + 29)), (1, .int (x1))] [] (xf E m) := by
  unfold F_X7_endOfDigits at hf
  refine x_iload_n dX7_endOfDigits_0 rfl ?_
  refine x_istore_n (lv' := [(0, .ref (xB E + 29)), (2, .int (x1))]) dX7_endOfDigits_1 [1, 0] (by decide) rfl ?_
  refine pL_X7_endOfDigits_2 hd out hR xfuel _ _ hf
theorem c_X7_endOfDigits {E : xE} {d : Nat} (hd : 3 ≤ d) (x1 : Int32) (m : xMem) (out : Int32 × xMem) (h : F_X7_endOfDigits x1 m = some out) : xCi E mX7_endOfDigits d [.ref (xB E + 29), .int x1] m out.1 out.2 :=
  x_enter (by decide +kernel) (Nat.le_of_ble_eq_true rfl) (pF_X7_endOfDigits hd (Q := _) out ⟨rfl, rfl⟩ x1 m h)
-- X8_addNumber
def L_X8_addNumber_21 (x2 : Int32) (x3 : Int32) (c51 : Int32 → xMem → Option (Int32 × xMem)) : Nat → Int32 → Int32 → xMem → Option (Int32 × xMem)
  | 0, _, _, _ => none
  | fk + 1, x4, x5, m =>
    if x3 ≤ x5 then (
      c51 (x4) m)
    else (
      if xin x5 600 = true then (
      L_X8_addNumber_21 (x2) (x3) c51 fk ((x4 * (10 : Int32)) + ((m.1 ag_tape_signs x5.toNatClampNeg) - (48 : Int32))) (x5 + 1) m)
      else none)
def F_X8_addNumber (x2 : Int32) (x3 : Int32) (m : xMem) : Option (Int32 × xMem) :=
  if (x3 - x2) ≤ (4 : Int32) then (
    L_X8_addNumber_21 (x2) (x3) (fun x4_2 m_3 => (
      (F_X8_add ((2 : Int32)) (x2) (x4_2) m_3).bind fun q_4 => (
      some (0, q_4.2)))) xfuel ((0 : Int32)) (x2) m)
  else (
    (F_X8_add ((1 : Int32)) (x2) ((0 : Int32)) m).bind fun q_5 => (
    some (0, q_5.2)))
set_option maxHeartbeats 4000000 in
set_option maxRecDepth 100000 in
theorem pL_X8_addNumber_21 {E : xE} {d : Nat} {Q : Option Value → xS → Prop} (hd : 2 ≤ d) (out : Int32 × xMem) (hR : Q none (xf E out.2)) (x2 : Int32) (x3 : Int32) (c51 : Int32 → xMem → Option (Int32 × xMem)) (hc51 : ∀ (x4 : Int32) (m : xMem), c51 x4 m = some out → xX E mX8_addNumber d 0 0 0 0 Q 51 [(0, .ref (xB E + 32)), (2, .int (x2)), (4, .int (x4))] [] (xf E m)) : ∀ (fk : Nat) (x4 : Int32) (x5 : Int32) (m : xMem), L_X8_addNumber_21 x2 x3 c51 fk x4 x5 m = some out → xX E mX8_addNumber d 0 0 0 0 Q 21 [(0, .ref (xB E + 32)), (1, .ref (xB E + 29)), (2, .int (x2)), (3, .int (x3)), (4, .int (x4)), (5, .int (x5))] [] (xf E m) := by
  intro fk
  induction fk with
  | zero => intro x4 x5 m hf; cases hf
  | succ fk ih =>
    intro x4 x5 m hf
    rw [L_X8_addNumber_21] at hf
    refine x_iload dX8_addNumber_21 rfl ?_
    refine x_iload_n dX8_addNumber_23 rfl ?_
    refine x_icmp_ge 51 dX8_addNumber_24 (by decide) (fun hc => ?_) (fun hc => ?_)
    · replace hf := x_ift hc hf
      refine x_lv (lv' := [(0, .ref (xB E + 32)), (2, .int (x2)), (4, .int (x4))]) [0, 2, 4] rfl ?_
      exact hc51 _ _ hf
    · replace hf := x_iff hc hf
      refine x_iload dX8_addNumber_27 rfl ?_
      refine x_bipush (v := 10) dX8_addNumber_29 (by decide) ?_
      refine x_imul dX8_addNumber_31 ?_
      refine x_aload_n dX8_addNumber_32 rfl ?_
      refine f_getR (b := 30) dX8_addNumber_33 xcl_7 (by decide) fl_RX8_67 (by decide) sh_29 rfl ?_
      refine x_iload dX8_addNumber_36 rfl ?_
      have hg_1 := x_gd hf
      replace hf := hg_1.2
      refine f_bald dX8_addNumber_38 (by decide) sh_30 hg_1.1 ?_
      refine x_bipush (v := 48) dX8_addNumber_39 (by decide) ?_
      refine x_isub dX8_addNumber_41 ?_
      refine x_iadd dX8_addNumber_42 ?_
      refine x_istore (lv' := [(0, .ref (xB E + 32)), (1, .ref (xB E + 29)), (2, .int (x2)), (3, .int (x3)), (4, .int ((x4 * (10 : Int32)) + ((m.1 ag_tape_signs x5.toNatClampNeg) - (48 : Int32)))), (5, .int (x5))]) dX8_addNumber_43 [1, 2, 3, 4, 0, 5] (by decide) rfl ?_
      refine x_iinc (v := x5 + 1) (lv' := [(0, .ref (xB E + 32)), (1, .ref (xB E + 29)), (2, .int (x2)), (3, .int (x3)), (4, .int ((x4 * (10 : Int32)) + ((m.1 ag_tape_signs x5.toNatClampNeg) - (48 : Int32)))), (5, .int (x5 + 1))]) dX8_addNumber_45 5 [1, 2, 3, 4, 5, 0] rfl rfl (by decide) rfl ?_
      refine x_goto 21 dX8_addNumber_48 (by decide) ?_
      exact ih _ _ _ hf
set_option maxHeartbeats 4000000 in
set_option maxRecDepth 100000 in
theorem pF_X8_addNumber {E : xE} {d : Nat} {Q : Option Value → xS → Prop} (hd : 2 ≤ d) (out : Int32 × xMem) (hR : Q none (xf E out.2)) (x2 : Int32) (x3 : Int32) (m : xMem) (hf : F_X8_addNumber x2 x3 m = some out) : xX E mX8_addNumber d 0 0 0 0 Q 0 [(0, .ref (xB E + 32)), (1, .ref (xB E + 29)), (2, .int (x2)), (3, .int (x3))] [] (xf E m) := by
  unfold F_X8_addNumber at hf
  refine x_iload_n dX8_addNumber_0 rfl ?_
  refine x_iload_n dX8_addNumber_1 rfl ?_
  refine x_isub dX8_addNumber_2 ?_
  refine x_iconst (v := 4) dX8_addNumber_3 (by decide) ?_
  refine x_icmp_le 15 dX8_addNumber_4 (by decide) (fun hc => ?_) (fun hc => ?_)
  · replace hf := x_ift hc hf
    refine x_iconst (v := 0) dX8_addNumber_15 (by decide) ?_
    refine x_istore (lv' := [(0, .ref (xB E + 32)), (1, .ref (xB E + 29)), (2, .int (x2)), (3, .int (x3)), (4, .int ((0 : Int32)))]) dX8_addNumber_16 [1, 2, 3, 4, 0] (by decide) rfl ?_
    refine x_iload_n dX8_addNumber_18 rfl ?_
    refine x_istore (lv' := [(0, .ref (xB E + 32)), (1, .ref (xB E + 29)), (2, .int (x2)), (3, .int (x3)), (4, .int ((0 : Int32))), (5, .int (x2))]) dX8_addNumber_19 [1, 2, 3, 4, 5, 0] (by decide) rfl ?_
    refine pL_X8_addNumber_21 hd out hR _ _ _ (fun x4_2 m_3 hf => ?_) xfuel _ _ _ hf
    refine x_aload_n dX8_addNumber_51 rfl ?_
    refine x_iconst (v := 2) dX8_addNumber_52 (by decide) ?_
    refine x_iload_n dX8_addNumber_53 rfl ?_
    refine x_iload dX8_addNumber_54 rfl ?_
    obtain ⟨q_4, hq_4, hf⟩ := Option.bind_eq_some_iff.mp hf
    refine f_cVv mX8_add [.int ((2 : Int32)), .int (x2), .int (x4_2)] [] dX8_addNumber_56 cs_RX8_38 ⟨w_683, w_32⟩ (ci := 8) rfl (by decide) sh_32 rfl rfl (Nat.le_of_ble_eq_true rfl) (by omega) (c_X8_add (d := d - 1) (by omega) ((2 : Int32)) (x2) (x4_2) m_3 q_4 hq_4) ?_
    exact x_vret dX8_addNumber_59 rfl (by cases hf; exact hR)
  · replace hf := x_iff hc hf
    refine x_aload_n dX8_addNumber_7 rfl ?_
    refine x_iconst (v := 1) dX8_addNumber_8 (by decide) ?_
    refine x_iload_n dX8_addNumber_9 rfl ?_
    refine x_iconst (v := 0) dX8_addNumber_10 (by decide) ?_
    obtain ⟨q_5, hq_5, hf⟩ := Option.bind_eq_some_iff.mp hf
    refine f_cVv mX8_add [.int ((1 : Int32)), .int (x2), .int ((0 : Int32))] [] dX8_addNumber_11 cs_RX8_38 ⟨w_683, w_32⟩ (ci := 8) rfl (by decide) sh_32 rfl rfl (Nat.le_of_ble_eq_true rfl) (by omega) (c_X8_add (d := d - 1) (by omega) ((1 : Int32)) (x2) ((0 : Int32)) m q_5 hq_5) ?_
    exact x_vret dX8_addNumber_14 rfl (by cases hf; exact hR)
theorem c_X8_addNumber {E : xE} {d : Nat} (hd : 2 ≤ d) (x2 : Int32) (x3 : Int32) (m : xMem) (out : Int32 × xMem) (h : F_X8_addNumber x2 x3 m = some out) : xCv E mX8_addNumber d [.ref (xB E + 32), .ref (xB E + 29), .int x2, .int x3] m out.2 :=
  x_enter (by decide +kernel) (Nat.le_of_ble_eq_true rfl) (pF_X8_addNumber hd (Q := _) out ⟨rfl, rfl⟩ x2 x3 m h)
-- X7_endOfLetters
def L_X7_endOfLetters_2 : Nat → Int32 → xMem → Option (Int32 × xMem)
  | 0, _, _ => none
  | fk + 1, x2, m =>
    if (m.1 ag_tape fTape_length) ≤ x2 then (
      some (x2, m))
    else (
      (F_X7_isLetter (x2) m).bind fun q_1 => (
      if q_1.1 = 0 then (
        some (x2, q_1.2))
      else (
        L_X7_endOfLetters_2 fk (x2 + 1) q_1.2)))
def F_X7_endOfLetters (x1 : Int32) (m : xMem) : Option (Int32 × xMem) :=
  L_X7_endOfLetters_2 xfuel (x1) m
set_option maxHeartbeats 4000000 in
set_option maxRecDepth 100000 in
theorem pL_X7_endOfLetters_2 {E : xE} {d : Nat} {Q : Option Value → xS → Prop} (hd : 3 ≤ d) (out : Int32 × xMem) (hR : Q (some (.int out.1)) (xf E out.2)) : ∀ (fk : Nat) (x2 : Int32) (m : xMem), L_X7_endOfLetters_2 fk x2 m = some out → xX E mX7_endOfLetters d 0 0 0 0 Q 2 [(0, .ref (xB E + 29)), (2, .int (x2))] [] (xf E m) := by
  intro fk
  induction fk with
  | zero => intro x2 m hf; cases hf
  | succ fk ih =>
    intro x2 m hf
    rw [L_X7_endOfLetters_2] at hf
    refine x_iload_n dX7_endOfLetters_2 rfl ?_
    refine x_aload_n dX7_endOfLetters_3 rfl ?_
    refine f_getI dX7_endOfLetters_4 xcl_7 (by decide) fl_RX7_21 (by decide) sh_29 rfl ?_
    refine x_icmp_ge 24 dX7_endOfLetters_7 (by decide) (fun hc => ?_) (fun hc => ?_)
    · replace hf := x_ift hc hf
      refine x_iload_n dX7_endOfLetters_24 rfl ?_
      exact x_iret dX7_endOfLetters_25 rfl (by cases hf; exact hR)
    · replace hf := x_iff hc hf
      refine x_aload_n dX7_endOfLetters_10 rfl ?_
      refine x_iload_n dX7_endOfLetters_11 rfl ?_
      obtain ⟨q_1, hq_1, hf⟩ := Option.bind_eq_some_iff.mp hf
      refine f_cVi mX7_isLetter [.int (x2)] [] dX7_endOfLetters_12 cs_RX7_29 ⟨w_597, w_26⟩ (ci := 7) rfl (by decide) sh_29 rfl rfl (Nat.le_of_ble_eq_true rfl) (by omega) (c_X7_isLetter (d := d - 1) (by omega) (x2) m q_1 hq_1) ?_
      refine x_if_eq 24 dX7_endOfLetters_15 (by decide) (fun hc => ?_) (fun hc => ?_)
      · replace hf := x_ift hc hf
        refine x_iload_n dX7_endOfLetters_24 rfl ?_
        exact x_iret dX7_endOfLetters_25 rfl (by cases hf; exact hR)
      · replace hf := x_iff hc hf
        refine x_iinc (v := x2 + 1) (lv' := [(0, .ref (xB E + 29)), (2, .int (x2 + 1))]) dX7_endOfLetters_18 1 [1, 0] rfl rfl (by decide) rfl ?_
        refine x_goto 2 dX7_endOfLetters_21 (by decide) ?_
        exact ih _ _ hf
set_option maxHeartbeats 4000000 in
set_option maxRecDepth 100000 in
theorem pF_X7_endOfLetters {E : xE} {d : Nat} {Q : Option Value → xS → Prop} (hd : 3 ≤ d) (out : Int32 × xMem) (hR : Q (some (.int out.1)) (xf E out.2)) (x1 : Int32) (m : xMem) (hf : F_X7_endOfLetters x1 m = some out) : xX E mX7_endOfLetters d 0 0 0 0 Q 0 [(0, .ref (xB E + 29)), (1, .int (x1))] [] (xf E m) := by
  unfold F_X7_endOfLetters at hf
  refine x_iload_n dX7_endOfLetters_0 rfl ?_
  refine x_istore_n (lv' := [(0, .ref (xB E + 29)), (2, .int (x1))]) dX7_endOfLetters_1 [1, 0] (by decide) rfl ?_
  refine pL_X7_endOfLetters_2 hd out hR xfuel _ _ hf
theorem c_X7_endOfLetters {E : xE} {d : Nat} (hd : 3 ≤ d) (x1 : Int32) (m : xMem) (out : Int32 × xMem) (h : F_X7_endOfLetters x1 m = some out) : xCi E mX7_endOfLetters d [.ref (xB E + 29), .int x1] m out.1 out.2 :=
  x_enter (by decide +kernel) (Nat.le_of_ble_eq_true rfl) (pF_X7_endOfLetters hd (Q := _) out ⟨rfl, rfl⟩ x1 m h)
-- J0_coder_7d493
def F_J0_coder_7d493 (m : xMem) : Option (Int32 × xMem) :=
  if (1 : Int32) = 0 then (
    some ((1 : Int32), m))
  else (
    some ((0 : Int32), m))
set_option maxHeartbeats 4000000 in
set_option maxRecDepth 100000 in
theorem pF_J0_coder_7d493 {E : xE} {d : Nat} {Q : Option Value → xS → Prop} (hd : 1 ≤ d) (out : Int32 × xMem) (hR : Q (some (.int out.1)) (xf E out.2)) (m : xMem) (hf : F_J0_coder_7d493 m = some out) : xX E mJ0_coder_7d493 d 0 0 0 0 Q 0 [(0, .ref (xsa E 0))] [] (xf E m) := by
  unfold F_J0_coder_7d493 at hf
  refine x_getsC dJ0_coder_7d493_0 w_633 ?_
  refine x_if_eq 13 dJ0_coder_7d493_3 (by decide) (fun hc => ?_) (fun hc => ?_)
  · replace hf := x_ift hc hf
    refine x_iconst (v := 1) dJ0_coder_7d493_13 (by decide) ?_
    exact x_zret dJ0_coder_7d493_14 rfl (by decide) (by cases hf; exact hR)
  · replace hf := x_iff hc hf
    refine x_aload_n dJ0_coder_7d493_6 rfl ?_
    refine x_scod dJ0_coder_7d493_7 (by decide) w_1345 ?_
    refine x_goto 14 dJ0_coder_7d493_10 (by decide) ?_
    exact x_zret dJ0_coder_7d493_14 rfl (by decide) (by cases hf; exact hR)
theorem c_J0_coder_7d493 {E : xE} {d : Nat} (hd : 1 ≤ d) (m : xMem) (out : Int32 × xMem) (h : F_J0_coder_7d493 m = some out) : xCi E mJ0_coder_7d493 d [.ref (xsa E 0)] m out.1 out.2 :=
  x_enterF (by decide +kernel) (Nat.le_of_ble_eq_true rfl) (pF_J0_coder_7d493 hd (Q := _) out ⟨rfl, rfl⟩ m h)
-- J0_length_8abf5
def F_J0_length_8abf5 (m : xMem) : Option (Int32 × xMem) :=
  (F_J0_coder_7d493 m).bind fun q_1 => (
  some ((4 : Int32) >>> (q_1.1 &&& 31), q_1.2))
set_option maxHeartbeats 4000000 in
set_option maxRecDepth 100000 in
theorem pF_J0_length_8abf5 {E : xE} {d : Nat} {Q : Option Value → xS → Prop} (hd : 2 ≤ d) (out : Int32 × xMem) (hR : Q (some (.int out.1)) (xf E out.2)) (m : xMem) (hf : F_J0_length_8abf5 m = some out) : xX E mJ0_length_8abf5 d 0 0 0 0 Q 0 [(0, .ref (xsa E 0))] [] (xf E m) := by
  unfold F_J0_length_8abf5 at hf
  refine x_aload_n dJ0_length_8abf5_0 rfl ?_
  refine x_sval dJ0_length_8abf5_1 (by decide) w_1344 ?_
  refine x_svlen (v := 4) dJ0_length_8abf5_4 (by decide) (by decide) ?_
  refine x_aload_n dJ0_length_8abf5_5 rfl ?_
  obtain ⟨q_1, hq_1, hf⟩ := Option.bind_eq_some_iff.mp hf
  refine x_callVs (k := 0) mJ0_coder_7d493 [] [.int ((4 : Int32))] dJ0_length_8abf5_6 cs_RJ0_335 ⟨w_630, w_631⟩ (by decide) rfl rfl (Nat.le_of_ble_eq_true rfl) (by omega) (c_J0_coder_7d493 (d := d - 1) (by omega) m q_1 hq_1) ?_
  refine x_ishr dJ0_length_8abf5_9 ?_
  exact x_iret dJ0_length_8abf5_10 rfl (by cases hf; exact hR)
theorem c_J0_length_8abf5 {E : xE} {d : Nat} (hd : 2 ≤ d) (m : xMem) (out : Int32 × xMem) (h : F_J0_length_8abf5 m = some out) : xCi E mJ0_length_8abf5 d [.ref (xsa E 0)] m out.1 out.2 :=
  x_enterF (by decide +kernel) (Nat.le_of_ble_eq_true rfl) (pF_J0_length_8abf5 hd (Q := _) out ⟨rfl, rfl⟩ m h)
-- J0_isLatin1_aae02
def F_J0_isLatin1_aae02 (m : xMem) : Option (Int32 × xMem) :=
  if (1 : Int32) = 0 then (
    some ((0 : Int32), m))
  else (
    if (0 : Int32) = 0 then (
      some ((1 : Int32), m))
    else (
      some ((0 : Int32), m)))
set_option maxHeartbeats 4000000 in
set_option maxRecDepth 100000 in
theorem pF_J0_isLatin1_aae02 {E : xE} {d : Nat} {Q : Option Value → xS → Prop} (hd : 1 ≤ d) (out : Int32 × xMem) (hR : Q (some (.int out.1)) (xf E out.2)) (m : xMem) (hf : F_J0_isLatin1_aae02 m = some out) : xX E mJ0_isLatin1_aae02 d 0 0 0 0 Q 0 [(0, .ref (xsa E 0))] [] (xf E m) := by
  unfold F_J0_isLatin1_aae02 at hf
  refine x_getsC dJ0_isLatin1_aae02_0 w_633 ?_
  refine x_if_eq 17 dJ0_isLatin1_aae02_3 (by decide) (fun hc => ?_) (fun hc => ?_)
  · replace hf := x_ift hc hf
    refine x_iconst (v := 0) dJ0_isLatin1_aae02_17 (by decide) ?_
    exact x_zret dJ0_isLatin1_aae02_18 rfl (by decide) (by cases hf; exact hR)
  · replace hf := x_iff hc hf
    refine x_aload_n dJ0_isLatin1_aae02_6 rfl ?_
    refine x_scod dJ0_isLatin1_aae02_7 (by decide) w_1345 ?_
    refine x_if_ne 17 dJ0_isLatin1_aae02_10 (by decide) (fun hc => ?_) (fun hc => ?_)
    · replace hf := x_iff hc hf
      refine x_iconst (v := 0) dJ0_isLatin1_aae02_17 (by decide) ?_
      exact x_zret dJ0_isLatin1_aae02_18 rfl (by decide) (by cases hf; exact hR)
    · replace hf := x_ift hc hf
      refine x_iconst (v := 1) dJ0_isLatin1_aae02_13 (by decide) ?_
      refine x_goto 18 dJ0_isLatin1_aae02_14 (by decide) ?_
      exact x_zret dJ0_isLatin1_aae02_18 rfl (by decide) (by cases hf; exact hR)
theorem c_J0_isLatin1_aae02 {E : xE} {d : Nat} (hd : 1 ≤ d) (m : xMem) (out : Int32 × xMem) (h : F_J0_isLatin1_aae02 m = some out) : xCi E mJ0_isLatin1_aae02 d [.ref (xsa E 0)] m out.1 out.2 :=
  x_enterF (by decide +kernel) (Nat.le_of_ble_eq_true rfl) (pF_J0_isLatin1_aae02 hd (Q := _) out ⟨rfl, rfl⟩ m h)
-- J1_charAt_3b067
def F_J1_charAt_3b067 (x1 : Int32) (m : xMem) : Option (Int32 × xMem) :=
  (F_J0_checkIndex_df160 (x1) ((4 : Int32)) m).bind fun q_1 => (
  if xin x1 4 = true then (
  if xnc .char ((((xsb 0 x1.toNatClampNeg) &&& (255 : Int32)).toUInt32 % 65536).toInt32) = true then (
  some ((((xsb 0 x1.toNatClampNeg) &&& (255 : Int32)).toUInt32 % 65536).toInt32, q_1.2))
  else none)
  else none)
set_option maxHeartbeats 4000000 in
set_option maxRecDepth 100000 in
theorem pF_J1_charAt_3b067 {E : xE} {d : Nat} {Q : Option Value → xS → Prop} (hd : 4 ≤ d) (out : Int32 × xMem) (hR : Q (some (.int out.1)) (xf E out.2)) (x1 : Int32) (m : xMem) (hf : F_J1_charAt_3b067 x1 m = some out) : xX E mJ1_charAt_3b067 d 0 0 0 0 Q 0 [(0, .ref (xsv E 0)), (1, .int (x1))] [] (xf E m) := by
  unfold F_J1_charAt_3b067 at hf
  refine x_iload_n dJ1_charAt_3b067_0 rfl ?_
  refine x_aload_n dJ1_charAt_3b067_1 rfl ?_
  refine x_svlen (v := 4) dJ1_charAt_3b067_2 (by decide) (by decide) ?_
  obtain ⟨q_1, hq_1, hf⟩ := Option.bind_eq_some_iff.mp hf
  refine f_cSv mJ0_checkIndex_df160 [.int (x1), .int ((4 : Int32))] [] dJ1_charAt_3b067_3 cs_RJ1_9 w_647 rfl rfl (Nat.le_of_ble_eq_true rfl) (by omega) (c_J0_checkIndex_df160 (d := d - 1) (by omega) (x1) ((4 : Int32)) m q_1 hq_1) ?_
  refine x_aload_n dJ1_charAt_3b067_6 rfl ?_
  refine x_iload_n dJ1_charAt_3b067_7 rfl ?_
  have hg_2 := x_gd hf
  replace hf := hg_2.2
  refine x_svald dJ1_charAt_3b067_8 (by decide) rfl hg_2.1 ?_
  refine x_sipush (v := 255) dJ1_charAt_3b067_9 (by decide) ?_
  refine x_iand dJ1_charAt_3b067_12 ?_
  refine x_i2c dJ1_charAt_3b067_13 ?_
  have hg_3 := x_gd hf
  replace hf := hg_3.2
  exact x_zret dJ1_charAt_3b067_14 rfl (xnc_n hg_3.1) (by cases hf; exact hR)
theorem c_J1_charAt_3b067 {E : xE} {d : Nat} (hd : 4 ≤ d) (x1 : Int32) (m : xMem) (out : Int32 × xMem) (h : F_J1_charAt_3b067 x1 m = some out) : xCi E mJ1_charAt_3b067 d [.ref (xsv E 0), .int x1] m out.1 out.2 :=
  x_enterF (by decide +kernel) (Nat.le_of_ble_eq_true rfl) (pF_J1_charAt_3b067 hd (Q := _) out ⟨rfl, rfl⟩ x1 m h)
-- J0_charAt_5068e
def F_J0_charAt_5068e (x1 : Int32) (m : xMem) : Option (Int32 × xMem) :=
  (F_J0_isLatin1_aae02 m).bind fun q_1 => (
  if q_1.1 = 0 then (
    none)
  else (
    (F_J1_charAt_3b067 (x1) q_1.2).bind fun q_2 => (
    if xnc .char q_2.1 = true then (
    some (q_2.1, q_2.2))
    else none)))
set_option maxHeartbeats 4000000 in
set_option maxRecDepth 100000 in
theorem pF_J0_charAt_5068e {E : xE} {d : Nat} {Q : Option Value → xS → Prop} (hd : 5 ≤ d) (out : Int32 × xMem) (hR : Q (some (.int out.1)) (xf E out.2)) (x1 : Int32) (m : xMem) (hf : F_J0_charAt_5068e x1 m = some out) : xX E mJ0_charAt_5068e d 0 0 0 0 Q 0 [(0, .ref (xsa E 0)), (1, .int (x1))] [] (xf E m) := by
  unfold F_J0_charAt_5068e at hf
  refine x_aload_n dJ0_charAt_5068e_0 rfl ?_
  obtain ⟨q_1, hq_1, hf⟩ := Option.bind_eq_some_iff.mp hf
  refine x_callVs (k := 0) mJ0_isLatin1_aae02 [] [] dJ0_charAt_5068e_1 cs_RJ0_492 ⟨w_640, w_641⟩ (by decide) rfl rfl (Nat.le_of_ble_eq_true rfl) (by omega) (c_J0_isLatin1_aae02 (d := d - 1) (by omega) m q_1 hq_1) ?_
  refine x_if_eq 16 dJ0_charAt_5068e_4 (by decide) (fun hc => ?_) (fun hc => ?_)
  · replace hf := x_ift hc hf
    cases hf
  · replace hf := x_iff hc hf
    refine x_aload_n dJ0_charAt_5068e_7 rfl ?_
    refine x_sval dJ0_charAt_5068e_8 (by decide) w_1344 ?_
    refine x_iload_n dJ0_charAt_5068e_11 rfl ?_
    obtain ⟨q_2, hq_2, hf⟩ := Option.bind_eq_some_iff.mp hf
    refine f_cSi mJ1_charAt_3b067 [.ref (xsv E 0), .int (x1)] [] dJ0_charAt_5068e_12 cs_RJ0_495 w_644 rfl rfl (Nat.le_of_ble_eq_true rfl) (by omega) (c_J1_charAt_3b067 (d := d - 1) (by omega) (x1) q_1.2 q_2 hq_2) ?_
    have hg_3 := x_gd hf
    replace hf := hg_3.2
    exact x_zret dJ0_charAt_5068e_15 rfl (xnc_n hg_3.1) (by cases hf; exact hR)
theorem c_J0_charAt_5068e {E : xE} {d : Nat} (hd : 5 ≤ d) (x1 : Int32) (m : xMem) (out : Int32 × xMem) (h : F_J0_charAt_5068e x1 m = some out) : xCi E mJ0_charAt_5068e d [.ref (xsa E 0), .int x1] m out.1 out.2 :=
  x_enterF (by decide +kernel) (Nat.le_of_ble_eq_true rfl) (pF_J0_charAt_5068e hd (Q := _) out ⟨rfl, rfl⟩ x1 m h)
-- X7_spells
def L_X7_spells_27 (x1 : Int32) : Nat → Int32 → xMem → Option (Int32 × xMem)
  | 0, _, _ => none
  | fk + 1, x4, m =>
    (F_J0_length_8abf5 m).bind fun q_2 => (
    if q_2.1 ≤ x4 then (
      some ((1 : Int32), q_2.2))
    else (
      if xin (x1 + x4) 600 = true then (
      (F_J0_charAt_5068e (x4) q_2.2).bind fun q_4 => (
      if (q_2.2.1 ag_tape_signs (x1 + x4).toNatClampNeg) = q_4.1 then (
        L_X7_spells_27 (x1) fk (x4 + 1) q_4.2)
      else (
        some ((0 : Int32), q_4.2))))
      else none))
def F_X7_spells (x1 : Int32) (x2 : Int32) (m : xMem) : Option (Int32 × xMem) :=
  if x1 < 0 then (
    some ((0 : Int32), m))
  else (
    if (m.1 ag_tape fTape_length) < x2 then (
      some ((0 : Int32), m))
    else (
      (F_J0_length_8abf5 m).bind fun q_1 => (
      if (x2 - x1) = q_1.1 then (
        L_X7_spells_27 (x1) xfuel ((0 : Int32)) q_1.2)
      else (
        some ((0 : Int32), q_1.2)))))
set_option maxHeartbeats 4000000 in
set_option maxRecDepth 100000 in
theorem pL_X7_spells_27 {E : xE} {d : Nat} {Q : Option Value → xS → Prop} (hd : 6 ≤ d) (out : Int32 × xMem) (hR : Q (some (.int out.1)) (xf E out.2)) (x1 : Int32) : ∀ (fk : Nat) (x4 : Int32) (m : xMem), L_X7_spells_27 x1 fk x4 m = some out → xX E mX7_spells d 0 0 0 0 Q 27 [(0, .ref (xB E + 29)), (1, .int (x1)), (3, .ref (xsa E 0)), (4, .int (x4))] [] (xf E m) := by
  intro fk
  induction fk with
  | zero => intro x4 m hf; cases hf
  | succ fk ih =>
    intro x4 m hf
    rw [L_X7_spells_27] at hf
    refine x_iload dX7_spells_27 rfl ?_
    refine x_aload_n dX7_spells_29 rfl ?_
    obtain ⟨q_2, hq_2, hf⟩ := Option.bind_eq_some_iff.mp hf
    refine x_callVs (k := 0) mJ0_length_8abf5 [] [.int (x4)] dX7_spells_30 cs_RX7_36 ⟨w_626, w_627⟩ (by decide) rfl rfl (Nat.le_of_ble_eq_true rfl) (by omega) (c_J0_length_8abf5 (d := d - 1) (by omega) m q_2 hq_2) ?_
    refine x_icmp_ge 62 dX7_spells_33 (by decide) (fun hc => ?_) (fun hc => ?_)
    · replace hf := x_ift hc hf
      refine x_iconst (v := 1) dX7_spells_62 (by decide) ?_
      exact x_zret dX7_spells_63 rfl (by decide) (by cases hf; exact hR)
    · replace hf := x_iff hc hf
      refine x_aload_n dX7_spells_36 rfl ?_
      refine f_getR (b := 30) dX7_spells_37 xcl_7 (by decide) fl_RX7_9 (by decide) sh_29 rfl ?_
      refine x_iload_n dX7_spells_40 rfl ?_
      refine x_iload dX7_spells_41 rfl ?_
      refine x_iadd dX7_spells_43 ?_
      have hg_3 := x_gd hf
      replace hf := hg_3.2
      refine f_bald dX7_spells_44 (by decide) sh_30 hg_3.1 ?_
      refine x_aload_n dX7_spells_45 rfl ?_
      refine x_iload dX7_spells_46 rfl ?_
      obtain ⟨q_4, hq_4, hf⟩ := Option.bind_eq_some_iff.mp hf
      refine x_callVs (k := 0) mJ0_charAt_5068e [.int (x4)] [.int (q_2.2.1 ag_tape_signs (x1 + x4).toNatClampNeg)] dX7_spells_48 cs_RX7_41 ⟨w_636, w_637⟩ (by decide) rfl rfl (Nat.le_of_ble_eq_true rfl) (by omega) (c_J0_charAt_5068e (d := d - 1) (by omega) (x4) q_2.2 q_4 hq_4) ?_
      refine x_icmp_eq 56 dX7_spells_51 (by decide) (fun hc => ?_) (fun hc => ?_)
      · replace hf := x_ift hc hf
        refine x_iinc (v := x4 + 1) (lv' := [(0, .ref (xB E + 29)), (1, .int (x1)), (3, .ref (xsa E 0)), (4, .int (x4 + 1))]) dX7_spells_56 3 [1, 2, 3, 0] rfl rfl (by decide) rfl ?_
        refine x_goto 27 dX7_spells_59 (by decide) ?_
        exact ih _ _ hf
      · replace hf := x_iff hc hf
        refine x_iconst (v := 0) dX7_spells_54 (by decide) ?_
        exact x_zret dX7_spells_55 rfl (by decide) (by cases hf; exact hR)
set_option maxHeartbeats 4000000 in
set_option maxRecDepth 100000 in
theorem pF_X7_spells {E : xE} {d : Nat} {Q : Option Value → xS → Prop} (hd : 6 ≤ d) (out : Int32 × xMem) (hR : Q (some (.int out.1)) (xf E out.2)) (x1 : Int32) (x2 : Int32) (m : xMem) (hf : F_X7_spells x1 x2 m = some out) : xX E mX7_spells d 0 0 0 0 Q 0 [(0, .ref (xB E + 29)), (1, .int (x1)), (2, .int (x2)), (3, .ref (xsa E 0))] [] (xf E m) := by
  unfold F_X7_spells at hf
  refine x_iload_n dX7_spells_0 rfl ?_
  refine x_if_lt 22 dX7_spells_1 (by decide) (fun hc => ?_) (fun hc => ?_)
  · replace hf := x_ift hc hf
    refine x_iconst (v := 0) dX7_spells_22 (by decide) ?_
    exact x_zret dX7_spells_23 rfl (by decide) (by cases hf; exact hR)
  · replace hf := x_iff hc hf
    refine x_iload_n dX7_spells_4 rfl ?_
    refine x_aload_n dX7_spells_5 rfl ?_
    refine f_getI dX7_spells_6 xcl_7 (by decide) fl_RX7_21 (by decide) sh_29 rfl ?_
    refine x_icmp_gt 22 dX7_spells_9 (by decide) (fun hc => ?_) (fun hc => ?_)
    · replace hf := x_ift hc hf
      refine x_iconst (v := 0) dX7_spells_22 (by decide) ?_
      exact x_zret dX7_spells_23 rfl (by decide) (by cases hf; exact hR)
    · replace hf := x_iff hc hf
      refine x_iload_n dX7_spells_12 rfl ?_
      refine x_iload_n dX7_spells_13 rfl ?_
      refine x_isub dX7_spells_14 ?_
      refine x_aload_n dX7_spells_15 rfl ?_
      obtain ⟨q_1, hq_1, hf⟩ := Option.bind_eq_some_iff.mp hf
      refine x_callVs (k := 0) mJ0_length_8abf5 [] [.int (x2 - x1)] dX7_spells_16 cs_RX7_36 ⟨w_626, w_627⟩ (by decide) rfl rfl (Nat.le_of_ble_eq_true rfl) (by omega) (c_J0_length_8abf5 (d := d - 1) (by omega) m q_1 hq_1) ?_
      refine x_icmp_eq 24 dX7_spells_19 (by decide) (fun hc => ?_) (fun hc => ?_)
      · replace hf := x_ift hc hf
        refine x_iconst (v := 0) dX7_spells_24 (by decide) ?_
        refine x_istore (lv' := [(0, .ref (xB E + 29)), (1, .int (x1)), (3, .ref (xsa E 0)), (4, .int ((0 : Int32)))]) dX7_spells_25 [1, 2, 4, 0] (by decide) rfl ?_
        refine pL_X7_spells_27 hd out hR _ xfuel _ _ hf
      · replace hf := x_iff hc hf
        refine x_iconst (v := 0) dX7_spells_22 (by decide) ?_
        exact x_zret dX7_spells_23 rfl (by decide) (by cases hf; exact hR)
theorem c_X7_spells {E : xE} {d : Nat} (hd : 6 ≤ d) (x1 : Int32) (x2 : Int32) (m : xMem) (out : Int32 × xMem) (h : F_X7_spells x1 x2 m = some out) : xCi E mX7_spells d [.ref (xB E + 29), .int x1, .int x2, .ref (xsa E 0)] m out.1 out.2 :=
  x_enter (by decide +kernel) (Nat.le_of_ble_eq_true rfl) (pF_X7_spells hd (Q := _) out ⟨rfl, rfl⟩ x1 x2 m h)
-- J0_coder_7d493_i1
def F_J0_coder_7d493_i1 (m : xMem) : Option (Int32 × xMem) :=
  if (1 : Int32) = 0 then (
    some ((1 : Int32), m))
  else (
    some ((0 : Int32), m))
set_option maxHeartbeats 4000000 in
set_option maxRecDepth 100000 in
theorem pF_J0_coder_7d493_i1 {E : xE} {d : Nat} {Q : Option Value → xS → Prop} (hd : 1 ≤ d) (out : Int32 × xMem) (hR : Q (some (.int out.1)) (xf E out.2)) (m : xMem) (hf : F_J0_coder_7d493_i1 m = some out) : xX E mJ0_coder_7d493 d 0 0 0 0 Q 0 [(0, .ref (xsa E 1))] [] (xf E m) := by
  unfold F_J0_coder_7d493_i1 at hf
  refine x_getsC dJ0_coder_7d493_0 w_633 ?_
  refine x_if_eq 13 dJ0_coder_7d493_3 (by decide) (fun hc => ?_) (fun hc => ?_)
  · replace hf := x_ift hc hf
    refine x_iconst (v := 1) dJ0_coder_7d493_13 (by decide) ?_
    exact x_zret dJ0_coder_7d493_14 rfl (by decide) (by cases hf; exact hR)
  · replace hf := x_iff hc hf
    refine x_aload_n dJ0_coder_7d493_6 rfl ?_
    refine x_scod dJ0_coder_7d493_7 (by decide) w_1345 ?_
    refine x_goto 14 dJ0_coder_7d493_10 (by decide) ?_
    exact x_zret dJ0_coder_7d493_14 rfl (by decide) (by cases hf; exact hR)
theorem c_J0_coder_7d493_i1 {E : xE} {d : Nat} (hd : 1 ≤ d) (m : xMem) (out : Int32 × xMem) (h : F_J0_coder_7d493_i1 m = some out) : xCi E mJ0_coder_7d493 d [.ref (xsa E 1)] m out.1 out.2 :=
  x_enterF (by decide +kernel) (Nat.le_of_ble_eq_true rfl) (pF_J0_coder_7d493_i1 hd (Q := _) out ⟨rfl, rfl⟩ m h)
-- J0_length_8abf5_i1
def F_J0_length_8abf5_i1 (m : xMem) : Option (Int32 × xMem) :=
  (F_J0_coder_7d493_i1 m).bind fun q_1 => (
  some ((4 : Int32) >>> (q_1.1 &&& 31), q_1.2))
set_option maxHeartbeats 4000000 in
set_option maxRecDepth 100000 in
theorem pF_J0_length_8abf5_i1 {E : xE} {d : Nat} {Q : Option Value → xS → Prop} (hd : 2 ≤ d) (out : Int32 × xMem) (hR : Q (some (.int out.1)) (xf E out.2)) (m : xMem) (hf : F_J0_length_8abf5_i1 m = some out) : xX E mJ0_length_8abf5 d 0 0 0 0 Q 0 [(0, .ref (xsa E 1))] [] (xf E m) := by
  unfold F_J0_length_8abf5_i1 at hf
  refine x_aload_n dJ0_length_8abf5_0 rfl ?_
  refine x_sval dJ0_length_8abf5_1 (by decide) w_1344 ?_
  refine x_svlen (v := 4) dJ0_length_8abf5_4 (by decide) (by decide) ?_
  refine x_aload_n dJ0_length_8abf5_5 rfl ?_
  obtain ⟨q_1, hq_1, hf⟩ := Option.bind_eq_some_iff.mp hf
  refine x_callVs (k := 1) mJ0_coder_7d493 [] [.int ((4 : Int32))] dJ0_length_8abf5_6 cs_RJ0_335 ⟨w_630, w_631⟩ (by decide) rfl rfl (Nat.le_of_ble_eq_true rfl) (by omega) (c_J0_coder_7d493_i1 (d := d - 1) (by omega) m q_1 hq_1) ?_
  refine x_ishr dJ0_length_8abf5_9 ?_
  exact x_iret dJ0_length_8abf5_10 rfl (by cases hf; exact hR)
theorem c_J0_length_8abf5_i1 {E : xE} {d : Nat} (hd : 2 ≤ d) (m : xMem) (out : Int32 × xMem) (h : F_J0_length_8abf5_i1 m = some out) : xCi E mJ0_length_8abf5 d [.ref (xsa E 1)] m out.1 out.2 :=
  x_enterF (by decide +kernel) (Nat.le_of_ble_eq_true rfl) (pF_J0_length_8abf5_i1 hd (Q := _) out ⟨rfl, rfl⟩ m h)
-- J0_isLatin1_aae02_i1
def F_J0_isLatin1_aae02_i1 (m : xMem) : Option (Int32 × xMem) :=
  if (1 : Int32) = 0 then (
    some ((0 : Int32), m))
  else (
    if (0 : Int32) = 0 then (
      some ((1 : Int32), m))
    else (
      some ((0 : Int32), m)))
set_option maxHeartbeats 4000000 in
set_option maxRecDepth 100000 in
theorem pF_J0_isLatin1_aae02_i1 {E : xE} {d : Nat} {Q : Option Value → xS → Prop} (hd : 1 ≤ d) (out : Int32 × xMem) (hR : Q (some (.int out.1)) (xf E out.2)) (m : xMem) (hf : F_J0_isLatin1_aae02_i1 m = some out) : xX E mJ0_isLatin1_aae02 d 0 0 0 0 Q 0 [(0, .ref (xsa E 1))] [] (xf E m) := by
  unfold F_J0_isLatin1_aae02_i1 at hf
  refine x_getsC dJ0_isLatin1_aae02_0 w_633 ?_
  refine x_if_eq 17 dJ0_isLatin1_aae02_3 (by decide) (fun hc => ?_) (fun hc => ?_)
  · replace hf := x_ift hc hf
    refine x_iconst (v := 0) dJ0_isLatin1_aae02_17 (by decide) ?_
    exact x_zret dJ0_isLatin1_aae02_18 rfl (by decide) (by cases hf; exact hR)
  · replace hf := x_iff hc hf
    refine x_aload_n dJ0_isLatin1_aae02_6 rfl ?_
    refine x_scod dJ0_isLatin1_aae02_7 (by decide) w_1345 ?_
    refine x_if_ne 17 dJ0_isLatin1_aae02_10 (by decide) (fun hc => ?_) (fun hc => ?_)
    · replace hf := x_iff hc hf
      refine x_iconst (v := 0) dJ0_isLatin1_aae02_17 (by decide) ?_
      exact x_zret dJ0_isLatin1_aae02_18 rfl (by decide) (by cases hf; exact hR)
    · replace hf := x_ift hc hf
      refine x_iconst (v := 1) dJ0_isLatin1_aae02_13 (by decide) ?_
      refine x_goto 18 dJ0_isLatin1_aae02_14 (by decide) ?_
      exact x_zret dJ0_isLatin1_aae02_18 rfl (by decide) (by cases hf; exact hR)
theorem c_J0_isLatin1_aae02_i1 {E : xE} {d : Nat} (hd : 1 ≤ d) (m : xMem) (out : Int32 × xMem) (h : F_J0_isLatin1_aae02_i1 m = some out) : xCi E mJ0_isLatin1_aae02 d [.ref (xsa E 1)] m out.1 out.2 :=
  x_enterF (by decide +kernel) (Nat.le_of_ble_eq_true rfl) (pF_J0_isLatin1_aae02_i1 hd (Q := _) out ⟨rfl, rfl⟩ m h)
-- J1_charAt_3b067_i1
def F_J1_charAt_3b067_i1 (x1 : Int32) (m : xMem) : Option (Int32 × xMem) :=
  (F_J0_checkIndex_df160 (x1) ((4 : Int32)) m).bind fun q_1 => (
  if xin x1 4 = true then (
  if xnc .char ((((xsb 1 x1.toNatClampNeg) &&& (255 : Int32)).toUInt32 % 65536).toInt32) = true then (
  some ((((xsb 1 x1.toNatClampNeg) &&& (255 : Int32)).toUInt32 % 65536).toInt32, q_1.2))
  else none)
  else none)
set_option maxHeartbeats 4000000 in
set_option maxRecDepth 100000 in
theorem pF_J1_charAt_3b067_i1 {E : xE} {d : Nat} {Q : Option Value → xS → Prop} (hd : 4 ≤ d) (out : Int32 × xMem) (hR : Q (some (.int out.1)) (xf E out.2)) (x1 : Int32) (m : xMem) (hf : F_J1_charAt_3b067_i1 x1 m = some out) : xX E mJ1_charAt_3b067 d 0 0 0 0 Q 0 [(0, .ref (xsv E 1)), (1, .int (x1))] [] (xf E m) := by
  unfold F_J1_charAt_3b067_i1 at hf
  refine x_iload_n dJ1_charAt_3b067_0 rfl ?_
  refine x_aload_n dJ1_charAt_3b067_1 rfl ?_
  refine x_svlen (v := 4) dJ1_charAt_3b067_2 (by decide) (by decide) ?_
  obtain ⟨q_1, hq_1, hf⟩ := Option.bind_eq_some_iff.mp hf
  refine f_cSv mJ0_checkIndex_df160 [.int (x1), .int ((4 : Int32))] [] dJ1_charAt_3b067_3 cs_RJ1_9 w_647 rfl rfl (Nat.le_of_ble_eq_true rfl) (by omega) (c_J0_checkIndex_df160 (d := d - 1) (by omega) (x1) ((4 : Int32)) m q_1 hq_1) ?_
  refine x_aload_n dJ1_charAt_3b067_6 rfl ?_
  refine x_iload_n dJ1_charAt_3b067_7 rfl ?_
  have hg_2 := x_gd hf
  replace hf := hg_2.2
  refine x_svald dJ1_charAt_3b067_8 (by decide) rfl hg_2.1 ?_
  refine x_sipush (v := 255) dJ1_charAt_3b067_9 (by decide) ?_
  refine x_iand dJ1_charAt_3b067_12 ?_
  refine x_i2c dJ1_charAt_3b067_13 ?_
  have hg_3 := x_gd hf
  replace hf := hg_3.2
  exact x_zret dJ1_charAt_3b067_14 rfl (xnc_n hg_3.1) (by cases hf; exact hR)
theorem c_J1_charAt_3b067_i1 {E : xE} {d : Nat} (hd : 4 ≤ d) (x1 : Int32) (m : xMem) (out : Int32 × xMem) (h : F_J1_charAt_3b067_i1 x1 m = some out) : xCi E mJ1_charAt_3b067 d [.ref (xsv E 1), .int x1] m out.1 out.2 :=
  x_enterF (by decide +kernel) (Nat.le_of_ble_eq_true rfl) (pF_J1_charAt_3b067_i1 hd (Q := _) out ⟨rfl, rfl⟩ x1 m h)
-- J0_charAt_5068e_i1
def F_J0_charAt_5068e_i1 (x1 : Int32) (m : xMem) : Option (Int32 × xMem) :=
  (F_J0_isLatin1_aae02_i1 m).bind fun q_1 => (
  if q_1.1 = 0 then (
    none)
  else (
    (F_J1_charAt_3b067_i1 (x1) q_1.2).bind fun q_2 => (
    if xnc .char q_2.1 = true then (
    some (q_2.1, q_2.2))
    else none)))
set_option maxHeartbeats 4000000 in
set_option maxRecDepth 100000 in
theorem pF_J0_charAt_5068e_i1 {E : xE} {d : Nat} {Q : Option Value → xS → Prop} (hd : 5 ≤ d) (out : Int32 × xMem) (hR : Q (some (.int out.1)) (xf E out.2)) (x1 : Int32) (m : xMem) (hf : F_J0_charAt_5068e_i1 x1 m = some out) : xX E mJ0_charAt_5068e d 0 0 0 0 Q 0 [(0, .ref (xsa E 1)), (1, .int (x1))] [] (xf E m) := by
  unfold F_J0_charAt_5068e_i1 at hf
  refine x_aload_n dJ0_charAt_5068e_0 rfl ?_
  obtain ⟨q_1, hq_1, hf⟩ := Option.bind_eq_some_iff.mp hf
  refine x_callVs (k := 1) mJ0_isLatin1_aae02 [] [] dJ0_charAt_5068e_1 cs_RJ0_492 ⟨w_640, w_641⟩ (by decide) rfl rfl (Nat.le_of_ble_eq_true rfl) (by omega) (c_J0_isLatin1_aae02_i1 (d := d - 1) (by omega) m q_1 hq_1) ?_
  refine x_if_eq 16 dJ0_charAt_5068e_4 (by decide) (fun hc => ?_) (fun hc => ?_)
  · replace hf := x_ift hc hf
    cases hf
  · replace hf := x_iff hc hf
    refine x_aload_n dJ0_charAt_5068e_7 rfl ?_
    refine x_sval dJ0_charAt_5068e_8 (by decide) w_1344 ?_
    refine x_iload_n dJ0_charAt_5068e_11 rfl ?_
    obtain ⟨q_2, hq_2, hf⟩ := Option.bind_eq_some_iff.mp hf
    refine f_cSi mJ1_charAt_3b067 [.ref (xsv E 1), .int (x1)] [] dJ0_charAt_5068e_12 cs_RJ0_495 w_644 rfl rfl (Nat.le_of_ble_eq_true rfl) (by omega) (c_J1_charAt_3b067_i1 (d := d - 1) (by omega) (x1) q_1.2 q_2 hq_2) ?_
    have hg_3 := x_gd hf
    replace hf := hg_3.2
    exact x_zret dJ0_charAt_5068e_15 rfl (xnc_n hg_3.1) (by cases hf; exact hR)
theorem c_J0_charAt_5068e_i1 {E : xE} {d : Nat} (hd : 5 ≤ d) (x1 : Int32) (m : xMem) (out : Int32 × xMem) (h : F_J0_charAt_5068e_i1 x1 m = some out) : xCi E mJ0_charAt_5068e d [.ref (xsa E 1), .int x1] m out.1 out.2 :=
  x_enterF (by decide +kernel) (Nat.le_of_ble_eq_true rfl) (pF_J0_charAt_5068e_i1 hd (Q := _) out ⟨rfl, rfl⟩ x1 m h)
-- X7_spells_i1
def L_X7_spells_i1_27 (x1 : Int32) : Nat → Int32 → xMem → Option (Int32 × xMem)
  | 0, _, _ => none
  | fk + 1, x4, m =>
    (F_J0_length_8abf5_i1 m).bind fun q_2 => (
    if q_2.1 ≤ x4 then (
      some ((1 : Int32), q_2.2))
    else (
      if xin (x1 + x4) 600 = true then (
      (F_J0_charAt_5068e_i1 (x4) q_2.2).bind fun q_4 => (
      if (q_2.2.1 ag_tape_signs (x1 + x4).toNatClampNeg) = q_4.1 then (
        L_X7_spells_i1_27 (x1) fk (x4 + 1) q_4.2)
      else (
        some ((0 : Int32), q_4.2))))
      else none))
def F_X7_spells_i1 (x1 : Int32) (x2 : Int32) (m : xMem) : Option (Int32 × xMem) :=
  if x1 < 0 then (
    some ((0 : Int32), m))
  else (
    if (m.1 ag_tape fTape_length) < x2 then (
      some ((0 : Int32), m))
    else (
      (F_J0_length_8abf5_i1 m).bind fun q_1 => (
      if (x2 - x1) = q_1.1 then (
        L_X7_spells_i1_27 (x1) xfuel ((0 : Int32)) q_1.2)
      else (
        some ((0 : Int32), q_1.2)))))
set_option maxHeartbeats 4000000 in
set_option maxRecDepth 100000 in
theorem pL_X7_spells_i1_27 {E : xE} {d : Nat} {Q : Option Value → xS → Prop} (hd : 6 ≤ d) (out : Int32 × xMem) (hR : Q (some (.int out.1)) (xf E out.2)) (x1 : Int32) : ∀ (fk : Nat) (x4 : Int32) (m : xMem), L_X7_spells_i1_27 x1 fk x4 m = some out → xX E mX7_spells d 0 0 0 0 Q 27 [(0, .ref (xB E + 29)), (1, .int (x1)), (3, .ref (xsa E 1)), (4, .int (x4))] [] (xf E m) := by
  intro fk
  induction fk with
  | zero => intro x4 m hf; cases hf
  | succ fk ih =>
    intro x4 m hf
    rw [L_X7_spells_i1_27] at hf
    refine x_iload dX7_spells_27 rfl ?_
    refine x_aload_n dX7_spells_29 rfl ?_
    obtain ⟨q_2, hq_2, hf⟩ := Option.bind_eq_some_iff.mp hf
    refine x_callVs (k := 1) mJ0_length_8abf5 [] [.int (x4)] dX7_spells_30 cs_RX7_36 ⟨w_626, w_627⟩ (by decide) rfl rfl (Nat.le_of_ble_eq_true rfl) (by omega) (c_J0_length_8abf5_i1 (d := d - 1) (by omega) m q_2 hq_2) ?_
    refine x_icmp_ge 62 dX7_spells_33 (by decide) (fun hc => ?_) (fun hc => ?_)
    · replace hf := x_ift hc hf
      refine x_iconst (v := 1) dX7_spells_62 (by decide) ?_
      exact x_zret dX7_spells_63 rfl (by decide) (by cases hf; exact hR)
    · replace hf := x_iff hc hf
      refine x_aload_n dX7_spells_36 rfl ?_
      refine f_getR (b := 30) dX7_spells_37 xcl_7 (by decide) fl_RX7_9 (by decide) sh_29 rfl ?_
      refine x_iload_n dX7_spells_40 rfl ?_
      refine x_iload dX7_spells_41 rfl ?_
      refine x_iadd dX7_spells_43 ?_
      have hg_3 := x_gd hf
      replace hf := hg_3.2
      refine f_bald dX7_spells_44 (by decide) sh_30 hg_3.1 ?_
      refine x_aload_n dX7_spells_45 rfl ?_
      refine x_iload dX7_spells_46 rfl ?_
      obtain ⟨q_4, hq_4, hf⟩ := Option.bind_eq_some_iff.mp hf
      refine x_callVs (k := 1) mJ0_charAt_5068e [.int (x4)] [.int (q_2.2.1 ag_tape_signs (x1 + x4).toNatClampNeg)] dX7_spells_48 cs_RX7_41 ⟨w_636, w_637⟩ (by decide) rfl rfl (Nat.le_of_ble_eq_true rfl) (by omega) (c_J0_charAt_5068e_i1 (d := d - 1) (by omega) (x4) q_2.2 q_4 hq_4) ?_
      refine x_icmp_eq 56 dX7_spells_51 (by decide) (fun hc => ?_) (fun hc => ?_)
      · replace hf := x_ift hc hf
        refine x_iinc (v := x4 + 1) (lv' := [(0, .ref (xB E + 29)), (1, .int (x1)), (3, .ref (xsa E 1)), (4, .int (x4 + 1))]) dX7_spells_56 3 [1, 2, 3, 0] rfl rfl (by decide) rfl ?_
        refine x_goto 27 dX7_spells_59 (by decide) ?_
        exact ih _ _ hf
      · replace hf := x_iff hc hf
        refine x_iconst (v := 0) dX7_spells_54 (by decide) ?_
        exact x_zret dX7_spells_55 rfl (by decide) (by cases hf; exact hR)
set_option maxHeartbeats 4000000 in
set_option maxRecDepth 100000 in
theorem pF_X7_spells_i1 {E : xE} {d : Nat} {Q : Option Value → xS → Prop} (hd : 6 ≤ d) (out : Int32 × xMem) (hR : Q (some (.int out.1)) (xf E out.2)) (x1 : Int32) (x2 : Int32) (m : xMem) (hf : F_X7_spells_i1 x1 x2 m = some out) : xX E mX7_spells d 0 0 0 0 Q 0 [(0, .ref (xB E + 29)), (1, .int (x1)), (2, .int (x2)), (3, .ref (xsa E 1))] [] (xf E m) := by
  unfold F_X7_spells_i1 at hf
  refine x_iload_n dX7_spells_0 rfl ?_
  refine x_if_lt 22 dX7_spells_1 (by decide) (fun hc => ?_) (fun hc => ?_)
  · replace hf := x_ift hc hf
    refine x_iconst (v := 0) dX7_spells_22 (by decide) ?_
    exact x_zret dX7_spells_23 rfl (by decide) (by cases hf; exact hR)
  · replace hf := x_iff hc hf
    refine x_iload_n dX7_spells_4 rfl ?_
    refine x_aload_n dX7_spells_5 rfl ?_
    refine f_getI dX7_spells_6 xcl_7 (by decide) fl_RX7_21 (by decide) sh_29 rfl ?_
    refine x_icmp_gt 22 dX7_spells_9 (by decide) (fun hc => ?_) (fun hc => ?_)
    · replace hf := x_ift hc hf
      refine x_iconst (v := 0) dX7_spells_22 (by decide) ?_
      exact x_zret dX7_spells_23 rfl (by decide) (by cases hf; exact hR)
    · replace hf := x_iff hc hf
      refine x_iload_n dX7_spells_12 rfl ?_
      refine x_iload_n dX7_spells_13 rfl ?_
      refine x_isub dX7_spells_14 ?_
      refine x_aload_n dX7_spells_15 rfl ?_
      obtain ⟨q_1, hq_1, hf⟩ := Option.bind_eq_some_iff.mp hf
      refine x_callVs (k := 1) mJ0_length_8abf5 [] [.int (x2 - x1)] dX7_spells_16 cs_RX7_36 ⟨w_626, w_627⟩ (by decide) rfl rfl (Nat.le_of_ble_eq_true rfl) (by omega) (c_J0_length_8abf5_i1 (d := d - 1) (by omega) m q_1 hq_1) ?_
      refine x_icmp_eq 24 dX7_spells_19 (by decide) (fun hc => ?_) (fun hc => ?_)
      · replace hf := x_ift hc hf
        refine x_iconst (v := 0) dX7_spells_24 (by decide) ?_
        refine x_istore (lv' := [(0, .ref (xB E + 29)), (1, .int (x1)), (3, .ref (xsa E 1)), (4, .int ((0 : Int32)))]) dX7_spells_25 [1, 2, 4, 0] (by decide) rfl ?_
        refine pL_X7_spells_i1_27 hd out hR _ xfuel _ _ hf
      · replace hf := x_iff hc hf
        refine x_iconst (v := 0) dX7_spells_22 (by decide) ?_
        exact x_zret dX7_spells_23 rfl (by decide) (by cases hf; exact hR)
theorem c_X7_spells_i1 {E : xE} {d : Nat} (hd : 6 ≤ d) (x1 : Int32) (x2 : Int32) (m : xMem) (out : Int32 × xMem) (h : F_X7_spells_i1 x1 x2 m = some out) : xCi E mX7_spells d [.ref (xB E + 29), .int x1, .int x2, .ref (xsa E 1)] m out.1 out.2 :=
  x_enter (by decide +kernel) (Nat.le_of_ble_eq_true rfl) (pF_X7_spells_i1 hd (Q := _) out ⟨rfl, rfl⟩ x1 x2 m h)
-- J0_coder_7d493_i2
def F_J0_coder_7d493_i2 (m : xMem) : Option (Int32 × xMem) :=
  if (1 : Int32) = 0 then (
    some ((1 : Int32), m))
  else (
    some ((0 : Int32), m))
set_option maxHeartbeats 4000000 in
set_option maxRecDepth 100000 in
theorem pF_J0_coder_7d493_i2 {E : xE} {d : Nat} {Q : Option Value → xS → Prop} (hd : 1 ≤ d) (out : Int32 × xMem) (hR : Q (some (.int out.1)) (xf E out.2)) (m : xMem) (hf : F_J0_coder_7d493_i2 m = some out) : xX E mJ0_coder_7d493 d 0 0 0 0 Q 0 [(0, .ref (xsa E 2))] [] (xf E m) := by
  unfold F_J0_coder_7d493_i2 at hf
  refine x_getsC dJ0_coder_7d493_0 w_633 ?_
  refine x_if_eq 13 dJ0_coder_7d493_3 (by decide) (fun hc => ?_) (fun hc => ?_)
  · replace hf := x_ift hc hf
    refine x_iconst (v := 1) dJ0_coder_7d493_13 (by decide) ?_
    exact x_zret dJ0_coder_7d493_14 rfl (by decide) (by cases hf; exact hR)
  · replace hf := x_iff hc hf
    refine x_aload_n dJ0_coder_7d493_6 rfl ?_
    refine x_scod dJ0_coder_7d493_7 (by decide) w_1345 ?_
    refine x_goto 14 dJ0_coder_7d493_10 (by decide) ?_
    exact x_zret dJ0_coder_7d493_14 rfl (by decide) (by cases hf; exact hR)
theorem c_J0_coder_7d493_i2 {E : xE} {d : Nat} (hd : 1 ≤ d) (m : xMem) (out : Int32 × xMem) (h : F_J0_coder_7d493_i2 m = some out) : xCi E mJ0_coder_7d493 d [.ref (xsa E 2)] m out.1 out.2 :=
  x_enterF (by decide +kernel) (Nat.le_of_ble_eq_true rfl) (pF_J0_coder_7d493_i2 hd (Q := _) out ⟨rfl, rfl⟩ m h)
-- J0_length_8abf5_i2
def F_J0_length_8abf5_i2 (m : xMem) : Option (Int32 × xMem) :=
  (F_J0_coder_7d493_i2 m).bind fun q_1 => (
  some ((3 : Int32) >>> (q_1.1 &&& 31), q_1.2))
set_option maxHeartbeats 4000000 in
set_option maxRecDepth 100000 in
theorem pF_J0_length_8abf5_i2 {E : xE} {d : Nat} {Q : Option Value → xS → Prop} (hd : 2 ≤ d) (out : Int32 × xMem) (hR : Q (some (.int out.1)) (xf E out.2)) (m : xMem) (hf : F_J0_length_8abf5_i2 m = some out) : xX E mJ0_length_8abf5 d 0 0 0 0 Q 0 [(0, .ref (xsa E 2))] [] (xf E m) := by
  unfold F_J0_length_8abf5_i2 at hf
  refine x_aload_n dJ0_length_8abf5_0 rfl ?_
  refine x_sval dJ0_length_8abf5_1 (by decide) w_1344 ?_
  refine x_svlen (v := 3) dJ0_length_8abf5_4 (by decide) (by decide) ?_
  refine x_aload_n dJ0_length_8abf5_5 rfl ?_
  obtain ⟨q_1, hq_1, hf⟩ := Option.bind_eq_some_iff.mp hf
  refine x_callVs (k := 2) mJ0_coder_7d493 [] [.int ((3 : Int32))] dJ0_length_8abf5_6 cs_RJ0_335 ⟨w_630, w_631⟩ (by decide) rfl rfl (Nat.le_of_ble_eq_true rfl) (by omega) (c_J0_coder_7d493_i2 (d := d - 1) (by omega) m q_1 hq_1) ?_
  refine x_ishr dJ0_length_8abf5_9 ?_
  exact x_iret dJ0_length_8abf5_10 rfl (by cases hf; exact hR)
theorem c_J0_length_8abf5_i2 {E : xE} {d : Nat} (hd : 2 ≤ d) (m : xMem) (out : Int32 × xMem) (h : F_J0_length_8abf5_i2 m = some out) : xCi E mJ0_length_8abf5 d [.ref (xsa E 2)] m out.1 out.2 :=
  x_enterF (by decide +kernel) (Nat.le_of_ble_eq_true rfl) (pF_J0_length_8abf5_i2 hd (Q := _) out ⟨rfl, rfl⟩ m h)
-- J0_isLatin1_aae02_i2
def F_J0_isLatin1_aae02_i2 (m : xMem) : Option (Int32 × xMem) :=
  if (1 : Int32) = 0 then (
    some ((0 : Int32), m))
  else (
    if (0 : Int32) = 0 then (
      some ((1 : Int32), m))
    else (
      some ((0 : Int32), m)))
set_option maxHeartbeats 4000000 in
set_option maxRecDepth 100000 in
theorem pF_J0_isLatin1_aae02_i2 {E : xE} {d : Nat} {Q : Option Value → xS → Prop} (hd : 1 ≤ d) (out : Int32 × xMem) (hR : Q (some (.int out.1)) (xf E out.2)) (m : xMem) (hf : F_J0_isLatin1_aae02_i2 m = some out) : xX E mJ0_isLatin1_aae02 d 0 0 0 0 Q 0 [(0, .ref (xsa E 2))] [] (xf E m) := by
  unfold F_J0_isLatin1_aae02_i2 at hf
  refine x_getsC dJ0_isLatin1_aae02_0 w_633 ?_
  refine x_if_eq 17 dJ0_isLatin1_aae02_3 (by decide) (fun hc => ?_) (fun hc => ?_)
  · replace hf := x_ift hc hf
    refine x_iconst (v := 0) dJ0_isLatin1_aae02_17 (by decide) ?_
    exact x_zret dJ0_isLatin1_aae02_18 rfl (by decide) (by cases hf; exact hR)
  · replace hf := x_iff hc hf
    refine x_aload_n dJ0_isLatin1_aae02_6 rfl ?_
    refine x_scod dJ0_isLatin1_aae02_7 (by decide) w_1345 ?_
    refine x_if_ne 17 dJ0_isLatin1_aae02_10 (by decide) (fun hc => ?_) (fun hc => ?_)
    · replace hf := x_iff hc hf
      refine x_iconst (v := 0) dJ0_isLatin1_aae02_17 (by decide) ?_
      exact x_zret dJ0_isLatin1_aae02_18 rfl (by decide) (by cases hf; exact hR)
    · replace hf := x_ift hc hf
      refine x_iconst (v := 1) dJ0_isLatin1_aae02_13 (by decide) ?_
      refine x_goto 18 dJ0_isLatin1_aae02_14 (by decide) ?_
      exact x_zret dJ0_isLatin1_aae02_18 rfl (by decide) (by cases hf; exact hR)
theorem c_J0_isLatin1_aae02_i2 {E : xE} {d : Nat} (hd : 1 ≤ d) (m : xMem) (out : Int32 × xMem) (h : F_J0_isLatin1_aae02_i2 m = some out) : xCi E mJ0_isLatin1_aae02 d [.ref (xsa E 2)] m out.1 out.2 :=
  x_enterF (by decide +kernel) (Nat.le_of_ble_eq_true rfl) (pF_J0_isLatin1_aae02_i2 hd (Q := _) out ⟨rfl, rfl⟩ m h)
-- J1_charAt_3b067_i2
def F_J1_charAt_3b067_i2 (x1 : Int32) (m : xMem) : Option (Int32 × xMem) :=
  (F_J0_checkIndex_df160 (x1) ((3 : Int32)) m).bind fun q_1 => (
  if xin x1 3 = true then (
  if xnc .char ((((xsb 2 x1.toNatClampNeg) &&& (255 : Int32)).toUInt32 % 65536).toInt32) = true then (
  some ((((xsb 2 x1.toNatClampNeg) &&& (255 : Int32)).toUInt32 % 65536).toInt32, q_1.2))
  else none)
  else none)
set_option maxHeartbeats 4000000 in
set_option maxRecDepth 100000 in
theorem pF_J1_charAt_3b067_i2 {E : xE} {d : Nat} {Q : Option Value → xS → Prop} (hd : 4 ≤ d) (out : Int32 × xMem) (hR : Q (some (.int out.1)) (xf E out.2)) (x1 : Int32) (m : xMem) (hf : F_J1_charAt_3b067_i2 x1 m = some out) : xX E mJ1_charAt_3b067 d 0 0 0 0 Q 0 [(0, .ref (xsv E 2)), (1, .int (x1))] [] (xf E m) := by
  unfold F_J1_charAt_3b067_i2 at hf
  refine x_iload_n dJ1_charAt_3b067_0 rfl ?_
  refine x_aload_n dJ1_charAt_3b067_1 rfl ?_
  refine x_svlen (v := 3) dJ1_charAt_3b067_2 (by decide) (by decide) ?_
  obtain ⟨q_1, hq_1, hf⟩ := Option.bind_eq_some_iff.mp hf
  refine f_cSv mJ0_checkIndex_df160 [.int (x1), .int ((3 : Int32))] [] dJ1_charAt_3b067_3 cs_RJ1_9 w_647 rfl rfl (Nat.le_of_ble_eq_true rfl) (by omega) (c_J0_checkIndex_df160 (d := d - 1) (by omega) (x1) ((3 : Int32)) m q_1 hq_1) ?_
  refine x_aload_n dJ1_charAt_3b067_6 rfl ?_
  refine x_iload_n dJ1_charAt_3b067_7 rfl ?_
  have hg_2 := x_gd hf
  replace hf := hg_2.2
  refine x_svald dJ1_charAt_3b067_8 (by decide) rfl hg_2.1 ?_
  refine x_sipush (v := 255) dJ1_charAt_3b067_9 (by decide) ?_
  refine x_iand dJ1_charAt_3b067_12 ?_
  refine x_i2c dJ1_charAt_3b067_13 ?_
  have hg_3 := x_gd hf
  replace hf := hg_3.2
  exact x_zret dJ1_charAt_3b067_14 rfl (xnc_n hg_3.1) (by cases hf; exact hR)
theorem c_J1_charAt_3b067_i2 {E : xE} {d : Nat} (hd : 4 ≤ d) (x1 : Int32) (m : xMem) (out : Int32 × xMem) (h : F_J1_charAt_3b067_i2 x1 m = some out) : xCi E mJ1_charAt_3b067 d [.ref (xsv E 2), .int x1] m out.1 out.2 :=
  x_enterF (by decide +kernel) (Nat.le_of_ble_eq_true rfl) (pF_J1_charAt_3b067_i2 hd (Q := _) out ⟨rfl, rfl⟩ x1 m h)
-- J0_charAt_5068e_i2
def F_J0_charAt_5068e_i2 (x1 : Int32) (m : xMem) : Option (Int32 × xMem) :=
  (F_J0_isLatin1_aae02_i2 m).bind fun q_1 => (
  if q_1.1 = 0 then (
    none)
  else (
    (F_J1_charAt_3b067_i2 (x1) q_1.2).bind fun q_2 => (
    if xnc .char q_2.1 = true then (
    some (q_2.1, q_2.2))
    else none)))
set_option maxHeartbeats 4000000 in
set_option maxRecDepth 100000 in
theorem pF_J0_charAt_5068e_i2 {E : xE} {d : Nat} {Q : Option Value → xS → Prop} (hd : 5 ≤ d) (out : Int32 × xMem) (hR : Q (some (.int out.1)) (xf E out.2)) (x1 : Int32) (m : xMem) (hf : F_J0_charAt_5068e_i2 x1 m = some out) : xX E mJ0_charAt_5068e d 0 0 0 0 Q 0 [(0, .ref (xsa E 2)), (1, .int (x1))] [] (xf E m) := by
  unfold F_J0_charAt_5068e_i2 at hf
  refine x_aload_n dJ0_charAt_5068e_0 rfl ?_
  obtain ⟨q_1, hq_1, hf⟩ := Option.bind_eq_some_iff.mp hf
  refine x_callVs (k := 2) mJ0_isLatin1_aae02 [] [] dJ0_charAt_5068e_1 cs_RJ0_492 ⟨w_640, w_641⟩ (by decide) rfl rfl (Nat.le_of_ble_eq_true rfl) (by omega) (c_J0_isLatin1_aae02_i2 (d := d - 1) (by omega) m q_1 hq_1) ?_
  refine x_if_eq 16 dJ0_charAt_5068e_4 (by decide) (fun hc => ?_) (fun hc => ?_)
  · replace hf := x_ift hc hf
    cases hf
  · replace hf := x_iff hc hf
    refine x_aload_n dJ0_charAt_5068e_7 rfl ?_
    refine x_sval dJ0_charAt_5068e_8 (by decide) w_1344 ?_
    refine x_iload_n dJ0_charAt_5068e_11 rfl ?_
    obtain ⟨q_2, hq_2, hf⟩ := Option.bind_eq_some_iff.mp hf
    refine f_cSi mJ1_charAt_3b067 [.ref (xsv E 2), .int (x1)] [] dJ0_charAt_5068e_12 cs_RJ0_495 w_644 rfl rfl (Nat.le_of_ble_eq_true rfl) (by omega) (c_J1_charAt_3b067_i2 (d := d - 1) (by omega) (x1) q_1.2 q_2 hq_2) ?_
    have hg_3 := x_gd hf
    replace hf := hg_3.2
    exact x_zret dJ0_charAt_5068e_15 rfl (xnc_n hg_3.1) (by cases hf; exact hR)
theorem c_J0_charAt_5068e_i2 {E : xE} {d : Nat} (hd : 5 ≤ d) (x1 : Int32) (m : xMem) (out : Int32 × xMem) (h : F_J0_charAt_5068e_i2 x1 m = some out) : xCi E mJ0_charAt_5068e d [.ref (xsa E 2), .int x1] m out.1 out.2 :=
  x_enterF (by decide +kernel) (Nat.le_of_ble_eq_true rfl) (pF_J0_charAt_5068e_i2 hd (Q := _) out ⟨rfl, rfl⟩ x1 m h)
-- X7_spells_i2
def L_X7_spells_i2_27 (x1 : Int32) : Nat → Int32 → xMem → Option (Int32 × xMem)
  | 0, _, _ => none
  | fk + 1, x4, m =>
    (F_J0_length_8abf5_i2 m).bind fun q_2 => (
    if q_2.1 ≤ x4 then (
      some ((1 : Int32), q_2.2))
    else (
      if xin (x1 + x4) 600 = true then (
      (F_J0_charAt_5068e_i2 (x4) q_2.2).bind fun q_4 => (
      if (q_2.2.1 ag_tape_signs (x1 + x4).toNatClampNeg) = q_4.1 then (
        L_X7_spells_i2_27 (x1) fk (x4 + 1) q_4.2)
      else (
        some ((0 : Int32), q_4.2))))
      else none))
def F_X7_spells_i2 (x1 : Int32) (x2 : Int32) (m : xMem) : Option (Int32 × xMem) :=
  if x1 < 0 then (
    some ((0 : Int32), m))
  else (
    if (m.1 ag_tape fTape_length) < x2 then (
      some ((0 : Int32), m))
    else (
      (F_J0_length_8abf5_i2 m).bind fun q_1 => (
      if (x2 - x1) = q_1.1 then (
        L_X7_spells_i2_27 (x1) xfuel ((0 : Int32)) q_1.2)
      else (
        some ((0 : Int32), q_1.2)))))
set_option maxHeartbeats 4000000 in
set_option maxRecDepth 100000 in
theorem pL_X7_spells_i2_27 {E : xE} {d : Nat} {Q : Option Value → xS → Prop} (hd : 6 ≤ d) (out : Int32 × xMem) (hR : Q (some (.int out.1)) (xf E out.2)) (x1 : Int32) : ∀ (fk : Nat) (x4 : Int32) (m : xMem), L_X7_spells_i2_27 x1 fk x4 m = some out → xX E mX7_spells d 0 0 0 0 Q 27 [(0, .ref (xB E + 29)), (1, .int (x1)), (3, .ref (xsa E 2)), (4, .int (x4))] [] (xf E m) := by
  intro fk
  induction fk with
  | zero => intro x4 m hf; cases hf
  | succ fk ih =>
    intro x4 m hf
    rw [L_X7_spells_i2_27] at hf
    refine x_iload dX7_spells_27 rfl ?_
    refine x_aload_n dX7_spells_29 rfl ?_
    obtain ⟨q_2, hq_2, hf⟩ := Option.bind_eq_some_iff.mp hf
    refine x_callVs (k := 2) mJ0_length_8abf5 [] [.int (x4)] dX7_spells_30 cs_RX7_36 ⟨w_626, w_627⟩ (by decide) rfl rfl (Nat.le_of_ble_eq_true rfl) (by omega) (c_J0_length_8abf5_i2 (d := d - 1) (by omega) m q_2 hq_2) ?_
    refine x_icmp_ge 62 dX7_spells_33 (by decide) (fun hc => ?_) (fun hc => ?_)
    · replace hf := x_ift hc hf
      refine x_iconst (v := 1) dX7_spells_62 (by decide) ?_
      exact x_zret dX7_spells_63 rfl (by decide) (by cases hf; exact hR)
    · replace hf := x_iff hc hf
      refine x_aload_n dX7_spells_36 rfl ?_
      refine f_getR (b := 30) dX7_spells_37 xcl_7 (by decide) fl_RX7_9 (by decide) sh_29 rfl ?_
      refine x_iload_n dX7_spells_40 rfl ?_
      refine x_iload dX7_spells_41 rfl ?_
      refine x_iadd dX7_spells_43 ?_
      have hg_3 := x_gd hf
      replace hf := hg_3.2
      refine f_bald dX7_spells_44 (by decide) sh_30 hg_3.1 ?_
      refine x_aload_n dX7_spells_45 rfl ?_
      refine x_iload dX7_spells_46 rfl ?_
      obtain ⟨q_4, hq_4, hf⟩ := Option.bind_eq_some_iff.mp hf
      refine x_callVs (k := 2) mJ0_charAt_5068e [.int (x4)] [.int (q_2.2.1 ag_tape_signs (x1 + x4).toNatClampNeg)] dX7_spells_48 cs_RX7_41 ⟨w_636, w_637⟩ (by decide) rfl rfl (Nat.le_of_ble_eq_true rfl) (by omega) (c_J0_charAt_5068e_i2 (d := d - 1) (by omega) (x4) q_2.2 q_4 hq_4) ?_
      refine x_icmp_eq 56 dX7_spells_51 (by decide) (fun hc => ?_) (fun hc => ?_)
      · replace hf := x_ift hc hf
        refine x_iinc (v := x4 + 1) (lv' := [(0, .ref (xB E + 29)), (1, .int (x1)), (3, .ref (xsa E 2)), (4, .int (x4 + 1))]) dX7_spells_56 3 [1, 2, 3, 0] rfl rfl (by decide) rfl ?_
        refine x_goto 27 dX7_spells_59 (by decide) ?_
        exact ih _ _ hf
      · replace hf := x_iff hc hf
        refine x_iconst (v := 0) dX7_spells_54 (by decide) ?_
        exact x_zret dX7_spells_55 rfl (by decide) (by cases hf; exact hR)
set_option maxHeartbeats 4000000 in
set_option maxRecDepth 100000 in
theorem pF_X7_spells_i2 {E : xE} {d : Nat} {Q : Option Value → xS → Prop} (hd : 6 ≤ d) (out : Int32 × xMem) (hR : Q (some (.int out.1)) (xf E out.2)) (x1 : Int32) (x2 : Int32) (m : xMem) (hf : F_X7_spells_i2 x1 x2 m = some out) : xX E mX7_spells d 0 0 0 0 Q 0 [(0, .ref (xB E + 29)), (1, .int (x1)), (2, .int (x2)), (3, .ref (xsa E 2))] [] (xf E m) := by
  unfold F_X7_spells_i2 at hf
  refine x_iload_n dX7_spells_0 rfl ?_
  refine x_if_lt 22 dX7_spells_1 (by decide) (fun hc => ?_) (fun hc => ?_)
  · replace hf := x_ift hc hf
    refine x_iconst (v := 0) dX7_spells_22 (by decide) ?_
    exact x_zret dX7_spells_23 rfl (by decide) (by cases hf; exact hR)
  · replace hf := x_iff hc hf
    refine x_iload_n dX7_spells_4 rfl ?_
    refine x_aload_n dX7_spells_5 rfl ?_
    refine f_getI dX7_spells_6 xcl_7 (by decide) fl_RX7_21 (by decide) sh_29 rfl ?_
    refine x_icmp_gt 22 dX7_spells_9 (by decide) (fun hc => ?_) (fun hc => ?_)
    · replace hf := x_ift hc hf
      refine x_iconst (v := 0) dX7_spells_22 (by decide) ?_
      exact x_zret dX7_spells_23 rfl (by decide) (by cases hf; exact hR)
    · replace hf := x_iff hc hf
      refine x_iload_n dX7_spells_12 rfl ?_
      refine x_iload_n dX7_spells_13 rfl ?_
      refine x_isub dX7_spells_14 ?_
      refine x_aload_n dX7_spells_15 rfl ?_
      obtain ⟨q_1, hq_1, hf⟩ := Option.bind_eq_some_iff.mp hf
      refine x_callVs (k := 2) mJ0_length_8abf5 [] [.int (x2 - x1)] dX7_spells_16 cs_RX7_36 ⟨w_626, w_627⟩ (by decide) rfl rfl (Nat.le_of_ble_eq_true rfl) (by omega) (c_J0_length_8abf5_i2 (d := d - 1) (by omega) m q_1 hq_1) ?_
      refine x_icmp_eq 24 dX7_spells_19 (by decide) (fun hc => ?_) (fun hc => ?_)
      · replace hf := x_ift hc hf
        refine x_iconst (v := 0) dX7_spells_24 (by decide) ?_
        refine x_istore (lv' := [(0, .ref (xB E + 29)), (1, .int (x1)), (3, .ref (xsa E 2)), (4, .int ((0 : Int32)))]) dX7_spells_25 [1, 2, 4, 0] (by decide) rfl ?_
        refine pL_X7_spells_i2_27 hd out hR _ xfuel _ _ hf
      · replace hf := x_iff hc hf
        refine x_iconst (v := 0) dX7_spells_22 (by decide) ?_
        exact x_zret dX7_spells_23 rfl (by decide) (by cases hf; exact hR)
theorem c_X7_spells_i2 {E : xE} {d : Nat} (hd : 6 ≤ d) (x1 : Int32) (x2 : Int32) (m : xMem) (out : Int32 × xMem) (h : F_X7_spells_i2 x1 x2 m = some out) : xCi E mX7_spells d [.ref (xB E + 29), .int x1, .int x2, .ref (xsa E 2)] m out.1 out.2 :=
  x_enter (by decide +kernel) (Nat.le_of_ble_eq_true rfl) (pF_X7_spells_i2 hd (Q := _) out ⟨rfl, rfl⟩ x1 x2 m h)
-- J0_coder_7d493_i3
def F_J0_coder_7d493_i3 (m : xMem) : Option (Int32 × xMem) :=
  if (1 : Int32) = 0 then (
    some ((1 : Int32), m))
  else (
    some ((0 : Int32), m))
set_option maxHeartbeats 4000000 in
set_option maxRecDepth 100000 in
theorem pF_J0_coder_7d493_i3 {E : xE} {d : Nat} {Q : Option Value → xS → Prop} (hd : 1 ≤ d) (out : Int32 × xMem) (hR : Q (some (.int out.1)) (xf E out.2)) (m : xMem) (hf : F_J0_coder_7d493_i3 m = some out) : xX E mJ0_coder_7d493 d 0 0 0 0 Q 0 [(0, .ref (xsa E 3))] [] (xf E m) := by
  unfold F_J0_coder_7d493_i3 at hf
  refine x_getsC dJ0_coder_7d493_0 w_633 ?_
  refine x_if_eq 13 dJ0_coder_7d493_3 (by decide) (fun hc => ?_) (fun hc => ?_)
  · replace hf := x_ift hc hf
    refine x_iconst (v := 1) dJ0_coder_7d493_13 (by decide) ?_
    exact x_zret dJ0_coder_7d493_14 rfl (by decide) (by cases hf; exact hR)
  · replace hf := x_iff hc hf
    refine x_aload_n dJ0_coder_7d493_6 rfl ?_
    refine x_scod dJ0_coder_7d493_7 (by decide) w_1345 ?_
    refine x_goto 14 dJ0_coder_7d493_10 (by decide) ?_
    exact x_zret dJ0_coder_7d493_14 rfl (by decide) (by cases hf; exact hR)
theorem c_J0_coder_7d493_i3 {E : xE} {d : Nat} (hd : 1 ≤ d) (m : xMem) (out : Int32 × xMem) (h : F_J0_coder_7d493_i3 m = some out) : xCi E mJ0_coder_7d493 d [.ref (xsa E 3)] m out.1 out.2 :=
  x_enterF (by decide +kernel) (Nat.le_of_ble_eq_true rfl) (pF_J0_coder_7d493_i3 hd (Q := _) out ⟨rfl, rfl⟩ m h)
-- J0_length_8abf5_i3
def F_J0_length_8abf5_i3 (m : xMem) : Option (Int32 × xMem) :=
  (F_J0_coder_7d493_i3 m).bind fun q_1 => (
  some ((5 : Int32) >>> (q_1.1 &&& 31), q_1.2))
set_option maxHeartbeats 4000000 in
set_option maxRecDepth 100000 in
theorem pF_J0_length_8abf5_i3 {E : xE} {d : Nat} {Q : Option Value → xS → Prop} (hd : 2 ≤ d) (out : Int32 × xMem) (hR : Q (some (.int out.1)) (xf E out.2)) (m : xMem) (hf : F_J0_length_8abf5_i3 m = some out) : xX E mJ0_length_8abf5 d 0 0 0 0 Q 0 [(0, .ref (xsa E 3))] [] (xf E m) := by
  unfold F_J0_length_8abf5_i3 at hf
  refine x_aload_n dJ0_length_8abf5_0 rfl ?_
  refine x_sval dJ0_length_8abf5_1 (by decide) w_1344 ?_
  refine x_svlen (v := 5) dJ0_length_8abf5_4 (by decide) (by decide) ?_
  refine x_aload_n dJ0_length_8abf5_5 rfl ?_
  obtain ⟨q_1, hq_1, hf⟩ := Option.bind_eq_some_iff.mp hf
  refine x_callVs (k := 3) mJ0_coder_7d493 [] [.int ((5 : Int32))] dJ0_length_8abf5_6 cs_RJ0_335 ⟨w_630, w_631⟩ (by decide) rfl rfl (Nat.le_of_ble_eq_true rfl) (by omega) (c_J0_coder_7d493_i3 (d := d - 1) (by omega) m q_1 hq_1) ?_
  refine x_ishr dJ0_length_8abf5_9 ?_
  exact x_iret dJ0_length_8abf5_10 rfl (by cases hf; exact hR)
theorem c_J0_length_8abf5_i3 {E : xE} {d : Nat} (hd : 2 ≤ d) (m : xMem) (out : Int32 × xMem) (h : F_J0_length_8abf5_i3 m = some out) : xCi E mJ0_length_8abf5 d [.ref (xsa E 3)] m out.1 out.2 :=
  x_enterF (by decide +kernel) (Nat.le_of_ble_eq_true rfl) (pF_J0_length_8abf5_i3 hd (Q := _) out ⟨rfl, rfl⟩ m h)
-- J0_isLatin1_aae02_i3
def F_J0_isLatin1_aae02_i3 (m : xMem) : Option (Int32 × xMem) :=
  if (1 : Int32) = 0 then (
    some ((0 : Int32), m))
  else (
    if (0 : Int32) = 0 then (
      some ((1 : Int32), m))
    else (
      some ((0 : Int32), m)))
set_option maxHeartbeats 4000000 in
set_option maxRecDepth 100000 in
theorem pF_J0_isLatin1_aae02_i3 {E : xE} {d : Nat} {Q : Option Value → xS → Prop} (hd : 1 ≤ d) (out : Int32 × xMem) (hR : Q (some (.int out.1)) (xf E out.2)) (m : xMem) (hf : F_J0_isLatin1_aae02_i3 m = some out) : xX E mJ0_isLatin1_aae02 d 0 0 0 0 Q 0 [(0, .ref (xsa E 3))] [] (xf E m) := by
  unfold F_J0_isLatin1_aae02_i3 at hf
  refine x_getsC dJ0_isLatin1_aae02_0 w_633 ?_
  refine x_if_eq 17 dJ0_isLatin1_aae02_3 (by decide) (fun hc => ?_) (fun hc => ?_)
  · replace hf := x_ift hc hf
    refine x_iconst (v := 0) dJ0_isLatin1_aae02_17 (by decide) ?_
    exact x_zret dJ0_isLatin1_aae02_18 rfl (by decide) (by cases hf; exact hR)
  · replace hf := x_iff hc hf
    refine x_aload_n dJ0_isLatin1_aae02_6 rfl ?_
    refine x_scod dJ0_isLatin1_aae02_7 (by decide) w_1345 ?_
    refine x_if_ne 17 dJ0_isLatin1_aae02_10 (by decide) (fun hc => ?_) (fun hc => ?_)
    · replace hf := x_iff hc hf
      refine x_iconst (v := 0) dJ0_isLatin1_aae02_17 (by decide) ?_
      exact x_zret dJ0_isLatin1_aae02_18 rfl (by decide) (by cases hf; exact hR)
    · replace hf := x_ift hc hf
      refine x_iconst (v := 1) dJ0_isLatin1_aae02_13 (by decide) ?_
      refine x_goto 18 dJ0_isLatin1_aae02_14 (by decide) ?_
      exact x_zret dJ0_isLatin1_aae02_18 rfl (by decide) (by cases hf; exact hR)
theorem c_J0_isLatin1_aae02_i3 {E : xE} {d : Nat} (hd : 1 ≤ d) (m : xMem) (out : Int32 × xMem) (h : F_J0_isLatin1_aae02_i3 m = some out) : xCi E mJ0_isLatin1_aae02 d [.ref (xsa E 3)] m out.1 out.2 :=
  x_enterF (by decide +kernel) (Nat.le_of_ble_eq_true rfl) (pF_J0_isLatin1_aae02_i3 hd (Q := _) out ⟨rfl, rfl⟩ m h)
-- J1_charAt_3b067_i3
def F_J1_charAt_3b067_i3 (x1 : Int32) (m : xMem) : Option (Int32 × xMem) :=
  (F_J0_checkIndex_df160 (x1) ((5 : Int32)) m).bind fun q_1 => (
  if xin x1 5 = true then (
  if xnc .char ((((xsb 3 x1.toNatClampNeg) &&& (255 : Int32)).toUInt32 % 65536).toInt32) = true then (
  some ((((xsb 3 x1.toNatClampNeg) &&& (255 : Int32)).toUInt32 % 65536).toInt32, q_1.2))
  else none)
  else none)
set_option maxHeartbeats 4000000 in
set_option maxRecDepth 100000 in
theorem pF_J1_charAt_3b067_i3 {E : xE} {d : Nat} {Q : Option Value → xS → Prop} (hd : 4 ≤ d) (out : Int32 × xMem) (hR : Q (some (.int out.1)) (xf E out.2)) (x1 : Int32) (m : xMem) (hf : F_J1_charAt_3b067_i3 x1 m = some out) : xX E mJ1_charAt_3b067 d 0 0 0 0 Q 0 [(0, .ref (xsv E 3)), (1, .int (x1))] [] (xf E m) := by
  unfold F_J1_charAt_3b067_i3 at hf
  refine x_iload_n dJ1_charAt_3b067_0 rfl ?_
  refine x_aload_n dJ1_charAt_3b067_1 rfl ?_
  refine x_svlen (v := 5) dJ1_charAt_3b067_2 (by decide) (by decide) ?_
  obtain ⟨q_1, hq_1, hf⟩ := Option.bind_eq_some_iff.mp hf
  refine f_cSv mJ0_checkIndex_df160 [.int (x1), .int ((5 : Int32))] [] dJ1_charAt_3b067_3 cs_RJ1_9 w_647 rfl rfl (Nat.le_of_ble_eq_true rfl) (by omega) (c_J0_checkIndex_df160 (d := d - 1) (by omega) (x1) ((5 : Int32)) m q_1 hq_1) ?_
  refine x_aload_n dJ1_charAt_3b067_6 rfl ?_
  refine x_iload_n dJ1_charAt_3b067_7 rfl ?_
  have hg_2 := x_gd hf
  replace hf := hg_2.2
  refine x_svald dJ1_charAt_3b067_8 (by decide) rfl hg_2.1 ?_
  refine x_sipush (v := 255) dJ1_charAt_3b067_9 (by decide) ?_
  refine x_iand dJ1_charAt_3b067_12 ?_
  refine x_i2c dJ1_charAt_3b067_13 ?_
  have hg_3 := x_gd hf
  replace hf := hg_3.2
  exact x_zret dJ1_charAt_3b067_14 rfl (xnc_n hg_3.1) (by cases hf; exact hR)
theorem c_J1_charAt_3b067_i3 {E : xE} {d : Nat} (hd : 4 ≤ d) (x1 : Int32) (m : xMem) (out : Int32 × xMem) (h : F_J1_charAt_3b067_i3 x1 m = some out) : xCi E mJ1_charAt_3b067 d [.ref (xsv E 3), .int x1] m out.1 out.2 :=
  x_enterF (by decide +kernel) (Nat.le_of_ble_eq_true rfl) (pF_J1_charAt_3b067_i3 hd (Q := _) out ⟨rfl, rfl⟩ x1 m h)
-- J0_charAt_5068e_i3
def F_J0_charAt_5068e_i3 (x1 : Int32) (m : xMem) : Option (Int32 × xMem) :=
  (F_J0_isLatin1_aae02_i3 m).bind fun q_1 => (
  if q_1.1 = 0 then (
    none)
  else (
    (F_J1_charAt_3b067_i3 (x1) q_1.2).bind fun q_2 => (
    if xnc .char q_2.1 = true then (
    some (q_2.1, q_2.2))
    else none)))
set_option maxHeartbeats 4000000 in
set_option maxRecDepth 100000 in
theorem pF_J0_charAt_5068e_i3 {E : xE} {d : Nat} {Q : Option Value → xS → Prop} (hd : 5 ≤ d) (out : Int32 × xMem) (hR : Q (some (.int out.1)) (xf E out.2)) (x1 : Int32) (m : xMem) (hf : F_J0_charAt_5068e_i3 x1 m = some out) : xX E mJ0_charAt_5068e d 0 0 0 0 Q 0 [(0, .ref (xsa E 3)), (1, .int (x1))] [] (xf E m) := by
  unfold F_J0_charAt_5068e_i3 at hf
  refine x_aload_n dJ0_charAt_5068e_0 rfl ?_
  obtain ⟨q_1, hq_1, hf⟩ := Option.bind_eq_some_iff.mp hf
  refine x_callVs (k := 3) mJ0_isLatin1_aae02 [] [] dJ0_charAt_5068e_1 cs_RJ0_492 ⟨w_640, w_641⟩ (by decide) rfl rfl (Nat.le_of_ble_eq_true rfl) (by omega) (c_J0_isLatin1_aae02_i3 (d := d - 1) (by omega) m q_1 hq_1) ?_
  refine x_if_eq 16 dJ0_charAt_5068e_4 (by decide) (fun hc => ?_) (fun hc => ?_)
  · replace hf := x_ift hc hf
    cases hf
  · replace hf := x_iff hc hf
    refine x_aload_n dJ0_charAt_5068e_7 rfl ?_
    refine x_sval dJ0_charAt_5068e_8 (by decide) w_1344 ?_
    refine x_iload_n dJ0_charAt_5068e_11 rfl ?_
    obtain ⟨q_2, hq_2, hf⟩ := Option.bind_eq_some_iff.mp hf
    refine f_cSi mJ1_charAt_3b067 [.ref (xsv E 3), .int (x1)] [] dJ0_charAt_5068e_12 cs_RJ0_495 w_644 rfl rfl (Nat.le_of_ble_eq_true rfl) (by omega) (c_J1_charAt_3b067_i3 (d := d - 1) (by omega) (x1) q_1.2 q_2 hq_2) ?_
    have hg_3 := x_gd hf
    replace hf := hg_3.2
    exact x_zret dJ0_charAt_5068e_15 rfl (xnc_n hg_3.1) (by cases hf; exact hR)
theorem c_J0_charAt_5068e_i3 {E : xE} {d : Nat} (hd : 5 ≤ d) (x1 : Int32) (m : xMem) (out : Int32 × xMem) (h : F_J0_charAt_5068e_i3 x1 m = some out) : xCi E mJ0_charAt_5068e d [.ref (xsa E 3), .int x1] m out.1 out.2 :=
  x_enterF (by decide +kernel) (Nat.le_of_ble_eq_true rfl) (pF_J0_charAt_5068e_i3 hd (Q := _) out ⟨rfl, rfl⟩ x1 m h)
-- X7_spells_i3
def L_X7_spells_i3_27 (x1 : Int32) : Nat → Int32 → xMem → Option (Int32 × xMem)
  | 0, _, _ => none
  | fk + 1, x4, m =>
    (F_J0_length_8abf5_i3 m).bind fun q_2 => (
    if q_2.1 ≤ x4 then (
      some ((1 : Int32), q_2.2))
    else (
      if xin (x1 + x4) 600 = true then (
      (F_J0_charAt_5068e_i3 (x4) q_2.2).bind fun q_4 => (
      if (q_2.2.1 ag_tape_signs (x1 + x4).toNatClampNeg) = q_4.1 then (
        L_X7_spells_i3_27 (x1) fk (x4 + 1) q_4.2)
      else (
        some ((0 : Int32), q_4.2))))
      else none))
def F_X7_spells_i3 (x1 : Int32) (x2 : Int32) (m : xMem) : Option (Int32 × xMem) :=
  if x1 < 0 then (
    some ((0 : Int32), m))
  else (
    if (m.1 ag_tape fTape_length) < x2 then (
      some ((0 : Int32), m))
    else (
      (F_J0_length_8abf5_i3 m).bind fun q_1 => (
      if (x2 - x1) = q_1.1 then (
        L_X7_spells_i3_27 (x1) xfuel ((0 : Int32)) q_1.2)
      else (
        some ((0 : Int32), q_1.2)))))
set_option maxHeartbeats 4000000 in
set_option maxRecDepth 100000 in
theorem pL_X7_spells_i3_27 {E : xE} {d : Nat} {Q : Option Value → xS → Prop} (hd : 6 ≤ d) (out : Int32 × xMem) (hR : Q (some (.int out.1)) (xf E out.2)) (x1 : Int32) : ∀ (fk : Nat) (x4 : Int32) (m : xMem), L_X7_spells_i3_27 x1 fk x4 m = some out → xX E mX7_spells d 0 0 0 0 Q 27 [(0, .ref (xB E + 29)), (1, .int (x1)), (3, .ref (xsa E 3)), (4, .int (x4))] [] (xf E m) := by
  intro fk
  induction fk with
  | zero => intro x4 m hf; cases hf
  | succ fk ih =>
    intro x4 m hf
    rw [L_X7_spells_i3_27] at hf
    refine x_iload dX7_spells_27 rfl ?_
    refine x_aload_n dX7_spells_29 rfl ?_
    obtain ⟨q_2, hq_2, hf⟩ := Option.bind_eq_some_iff.mp hf
    refine x_callVs (k := 3) mJ0_length_8abf5 [] [.int (x4)] dX7_spells_30 cs_RX7_36 ⟨w_626, w_627⟩ (by decide) rfl rfl (Nat.le_of_ble_eq_true rfl) (by omega) (c_J0_length_8abf5_i3 (d := d - 1) (by omega) m q_2 hq_2) ?_
    refine x_icmp_ge 62 dX7_spells_33 (by decide) (fun hc => ?_) (fun hc => ?_)
    · replace hf := x_ift hc hf
      refine x_iconst (v := 1) dX7_spells_62 (by decide) ?_
      exact x_zret dX7_spells_63 rfl (by decide) (by cases hf; exact hR)
    · replace hf := x_iff hc hf
      refine x_aload_n dX7_spells_36 rfl ?_
      refine f_getR (b := 30) dX7_spells_37 xcl_7 (by decide) fl_RX7_9 (by decide) sh_29 rfl ?_
      refine x_iload_n dX7_spells_40 rfl ?_
      refine x_iload dX7_spells_41 rfl ?_
      refine x_iadd dX7_spells_43 ?_
      have hg_3 := x_gd hf
      replace hf := hg_3.2
      refine f_bald dX7_spells_44 (by decide) sh_30 hg_3.1 ?_
      refine x_aload_n dX7_spells_45 rfl ?_
      refine x_iload dX7_spells_46 rfl ?_
      obtain ⟨q_4, hq_4, hf⟩ := Option.bind_eq_some_iff.mp hf
      refine x_callVs (k := 3) mJ0_charAt_5068e [.int (x4)] [.int (q_2.2.1 ag_tape_signs (x1 + x4).toNatClampNeg)] dX7_spells_48 cs_RX7_41 ⟨w_636, w_637⟩ (by decide) rfl rfl (Nat.le_of_ble_eq_true rfl) (by omega) (c_J0_charAt_5068e_i3 (d := d - 1) (by omega) (x4) q_2.2 q_4 hq_4) ?_
      refine x_icmp_eq 56 dX7_spells_51 (by decide) (fun hc => ?_) (fun hc => ?_)
      · replace hf := x_ift hc hf
        refine x_iinc (v := x4 + 1) (lv' := [(0, .ref (xB E + 29)), (1, .int (x1)), (3, .ref (xsa E 3)), (4, .int (x4 + 1))]) dX7_spells_56 3 [1, 2, 3, 0] rfl rfl (by decide) rfl ?_
        refine x_goto 27 dX7_spells_59 (by decide) ?_
        exact ih _ _ hf
      · replace hf := x_iff hc hf
        refine x_iconst (v := 0) dX7_spells_54 (by decide) ?_
        exact x_zret dX7_spells_55 rfl (by decide) (by cases hf; exact hR)
set_option maxHeartbeats 4000000 in
set_option maxRecDepth 100000 in
theorem pF_X7_spells_i3 {E : xE} {d : Nat} {Q : Option Value → xS → Prop} (hd : 6 ≤ d) (out : Int32 × xMem) (hR : Q (some (.int out.1)) (xf E out.2)) (x1 : Int32) (x2 : Int32) (m : xMem) (hf : F_X7_spells_i3 x1 x2 m = some out) : xX E mX7_spells d 0 0 0 0 Q 0 [(0, .ref (xB E + 29)), (1, .int (x1)), (2, .int (x2)), (3, .ref (xsa E 3))] [] (xf E m) := by
  unfold F_X7_spells_i3 at hf
  refine x_iload_n dX7_spells_0 rfl ?_
  refine x_if_lt 22 dX7_spells_1 (by decide) (fun hc => ?_) (fun hc => ?_)
  · replace hf := x_ift hc hf
    refine x_iconst (v := 0) dX7_spells_22 (by decide) ?_
    exact x_zret dX7_spells_23 rfl (by decide) (by cases hf; exact hR)
  · replace hf := x_iff hc hf
    refine x_iload_n dX7_spells_4 rfl ?_
    refine x_aload_n dX7_spells_5 rfl ?_
    refine f_getI dX7_spells_6 xcl_7 (by decide) fl_RX7_21 (by decide) sh_29 rfl ?_
    refine x_icmp_gt 22 dX7_spells_9 (by decide) (fun hc => ?_) (fun hc => ?_)
    · replace hf := x_ift hc hf
      refine x_iconst (v := 0) dX7_spells_22 (by decide) ?_
      exact x_zret dX7_spells_23 rfl (by decide) (by cases hf; exact hR)
    · replace hf := x_iff hc hf
      refine x_iload_n dX7_spells_12 rfl ?_
      refine x_iload_n dX7_spells_13 rfl ?_
      refine x_isub dX7_spells_14 ?_
      refine x_aload_n dX7_spells_15 rfl ?_
      obtain ⟨q_1, hq_1, hf⟩ := Option.bind_eq_some_iff.mp hf
      refine x_callVs (k := 3) mJ0_length_8abf5 [] [.int (x2 - x1)] dX7_spells_16 cs_RX7_36 ⟨w_626, w_627⟩ (by decide) rfl rfl (Nat.le_of_ble_eq_true rfl) (by omega) (c_J0_length_8abf5_i3 (d := d - 1) (by omega) m q_1 hq_1) ?_
      refine x_icmp_eq 24 dX7_spells_19 (by decide) (fun hc => ?_) (fun hc => ?_)
      · replace hf := x_ift hc hf
        refine x_iconst (v := 0) dX7_spells_24 (by decide) ?_
        refine x_istore (lv' := [(0, .ref (xB E + 29)), (1, .int (x1)), (3, .ref (xsa E 3)), (4, .int ((0 : Int32)))]) dX7_spells_25 [1, 2, 4, 0] (by decide) rfl ?_
        refine pL_X7_spells_i3_27 hd out hR _ xfuel _ _ hf
      · replace hf := x_iff hc hf
        refine x_iconst (v := 0) dX7_spells_22 (by decide) ?_
        exact x_zret dX7_spells_23 rfl (by decide) (by cases hf; exact hR)
theorem c_X7_spells_i3 {E : xE} {d : Nat} (hd : 6 ≤ d) (x1 : Int32) (x2 : Int32) (m : xMem) (out : Int32 × xMem) (h : F_X7_spells_i3 x1 x2 m = some out) : xCi E mX7_spells d [.ref (xB E + 29), .int x1, .int x2, .ref (xsa E 3)] m out.1 out.2 :=
  x_enter (by decide +kernel) (Nat.le_of_ble_eq_true rfl) (pF_X7_spells_i3 hd (Q := _) out ⟨rfl, rfl⟩ x1 x2 m h)
