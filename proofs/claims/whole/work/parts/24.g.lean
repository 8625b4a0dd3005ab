-- X7_isBlank
def J_X7_isBlank_35 (m : xMem) : Option (Int32 × xMem) :=
  some ((1 : Int32), m)
def F_X7_isBlank (x1 : Int32) (m : xMem) : Option (Int32 × xMem) :=
  (F_X9_within (x1) ((m.1 ag_tape fTape_length) - (1 : Int32)) m).bind fun q_1 => (
  if q_1.1 = 0 then (
    some ((0 : Int32), q_1.2))
  else (
    if xin x1 600 = true then (
    if (q_1.2.1 ag_tape_signs x1.toNatClampNeg) = (10 : Int32) then (
      J_X7_isBlank_35 q_1.2)
    else (
      if xin x1 600 = true then (
      if (q_1.2.1 ag_tape_signs x1.toNatClampNeg) = (32 : Int32) then (
        J_X7_isBlank_35 q_1.2)
      else (
        some ((0 : Int32), q_1.2)))
      else none))
    else none))
set_option maxHeartbeats 4000000 in
set_option maxRecDepth 100000 in
theorem pJ_X7_isBlank_35 {E : xE} {d : Nat} {Q : Option Value → xS → Prop} (hd : 2 ≤ d) (out : Int32 × xMem) (hR : Q (some (.int out.1)) (xf E out.2)) (m : xMem) (hf : J_X7_isBlank_35 m = some out) : xX E mX7_isBlank d 0 0 0 0 Q 35 [] [] (xf E m) := by
  unfold J_X7_isBlank_35 at hf
  refine x_iconst (v := 1) dX7_isBlank_35 (by decide) ?_
  refine x_goto 40 dX7_isBlank_36 (by decide) ?_
  exact x_zret dX7_isBlank_40 rfl (by decide) (by cases hf; exact hR)
set_option maxHeartbeats 4000000 in
set_option maxRecDepth 100000 in
theorem pF_X7_isBlank {E : xE} {d : Nat} {Q : Option Value → xS → Prop} (hd : 2 ≤ d) (out : Int32 × xMem) (hR : Q (some (.int out.1)) (xf E out.2)) (x1 : Int32) (m : xMem) (hf : F_X7_isBlank x1 m = some out) : xX E mX7_isBlank d 0 0 0 0 Q 0 [(0, .ref (xB E + 29)), (1, .int (x1))] [] (xf E m) := by
  unfold F_X7_isBlank at hf
  refine x_iload_n dX7_isBlank_0 rfl ?_
  refine x_aload_n dX7_isBlank_1 rfl ?_
  refine f_getI dX7_isBlank_2 xcl_7 (by decide) fl_RX7_21 (by decide) sh_29 rfl ?_
  refine x_iconst (v := 1) dX7_isBlank_5 (by decide) ?_
  refine x_isub dX7_isBlank_6 ?_
  obtain ⟨q_1, hq_1, hf⟩ := Option.bind_eq_some_iff.mp hf
  refine f_cSi mX9_within [.int (x1), .int ((m.1 ag_tape fTape_length) - (1 : Int32))] [] dX7_isBlank_7 cs_RX7_25 w_389 rfl rfl (Nat.le_of_ble_eq_true rfl) (by omega) (c_X9_within (d := d - 1) (by omega) (x1) ((m.1 ag_tape fTape_length) - (1 : Int32)) m q_1 hq_1) ?_
  refine x_if_eq 39 dX7_isBlank_10 (by decide) (fun hc => ?_) (fun hc => ?_)
  · replace hf := x_ift hc hf
    refine x_iconst (v := 0) dX7_isBlank_39 (by decide) ?_
    exact x_zret dX7_isBlank_40 rfl (by decide) (by cases hf; exact hR)
  · replace hf := x_iff hc hf
    refine x_aload_n dX7_isBlank_13 rfl ?_
    refine f_getR (b := 30) dX7_isBlank_14 xcl_7 (by decide) fl_RX7_9 (by decide) sh_29 rfl ?_
    refine x_iload_n dX7_isBlank_17 rfl ?_
    have hg_2 := x_gd hf
    replace hf := hg_2.2
    refine f_bald dX7_isBlank_18 (by decide) sh_30 hg_2.1 ?_
    refine x_bipush (v := 10) dX7_isBlank_19 (by decide) ?_
    refine x_icmp_eq 35 dX7_isBlank_21 (by decide) (fun hc => ?_) (fun hc => ?_)
    · replace hf := x_ift hc hf
      refine x_lv (lv' := []) [] rfl ?_
      exact pJ_X7_isBlank_35 hd out hR _ hf
    · replace hf := x_iff hc hf
      refine x_aload_n dX7_isBlank_24 rfl ?_
      refine f_getR (b := 30) dX7_isBlank_25 xcl_7 (by decide) fl_RX7_9 (by decide) sh_29 rfl ?_
      refine x_iload_n dX7_isBlank_28 rfl ?_
      have hg_3 := x_gd hf
      replace hf := hg_3.2
      refine f_bald dX7_isBlank_29 (by decide) sh_30 hg_3.1 ?_
      refine x_bipush (v := 32) dX7_isBlank_30 (by decide) ?_
      refine x_icmp_ne 39 dX7_isBlank_32 (by decide) (fun hc => ?_) (fun hc => ?_)
      · replace hf := x_iff hc hf
        refine x_iconst (v := 0) dX7_isBlank_39 (by decide) ?_
        exact x_zret dX7_isBlank_40 rfl (by decide) (by cases hf; exact hR)
      · replace hf := x_ift hc hf
        refine x_lv (lv' := []) [] rfl ?_
        exact pJ_X7_isBlank_35 hd out hR _ hf
theorem c_X7_isBlank {E : xE} {d : Nat} (hd : 2 ≤ d) (x1 : Int32) (m : xMem) (out : Int32 × xMem) (h : F_X7_isBlank x1 m = some out) : xCi E mX7_isBlank d [.ref (xB E + 29), .int x1] m out.1 out.2 :=
  x_enter (by decide +kernel) (Nat.le_of_ble_eq_true rfl) (pF_X7_isBlank hd (Q := _) out ⟨rfl, rfl⟩ x1 m h)
-- X8_startsToken
def J_X8_startsToken_41 (x1 : Int32) (s0 : Int32) (m : xMem) : Option (Int32 × xMem) :=
  if s0 = 0 then (
    (F_X7_isBlank (x1) m).bind fun q_3 => (
    if q_3.1 = 0 then (
      some ((1 : Int32), q_3.2))
    else (
      some ((0 : Int32), q_3.2))))
  else (
    some ((0 : Int32), m))
def J_X8_startsToken_40 (x1 : Int32) (m : xMem) : Option (Int32 × xMem) :=
  J_X8_startsToken_41 (x1) ((0 : Int32)) m
def J_X8_startsToken_36 (x1 : Int32) (m : xMem) : Option (Int32 × xMem) :=
  J_X8_startsToken_41 (x1) ((1 : Int32)) m
def J_X8_startsToken_18 (x1 : Int32) (m : xMem) : Option (Int32 × xMem) :=
  (F_X7_isDigit (x1) m).bind fun q_2 => (
  if q_2.1 = 0 then (
    J_X8_startsToken_40 (x1) q_2.2)
  else (
    (F_X7_isDigit (x1 - (1 : Int32)) q_2.2).bind fun q_4 => (
    if q_4.1 = 0 then (
      J_X8_startsToken_40 (x1) q_4.2)
    else (
      J_X8_startsToken_36 (x1) q_4.2))))
def F_X8_startsToken (x1 : Int32) (m : xMem) : Option (Int32 × xMem) :=
  (F_X7_isLetter (x1) m).bind fun q_1 => (
  if q_1.1 = 0 then (
    J_X8_startsToken_18 (x1) q_1.2)
  else (
    (F_X7_isLetter (x1 - (1 : Int32)) q_1.2).bind fun q_5 => (
    if q_5.1 = 0 then (
      J_X8_startsToken_18 (x1) q_5.2)
    else (
      J_X8_startsToken_36 (x1) q_5.2))))
set_option maxHeartbeats 4000000 in
set_option maxRecDepth 100000 in
theorem pJ_X8_startsToken_41 {E : xE} {d : Nat} {Q : Option Value → xS → Prop} (hd : 3 ≤ d) (out : Int32 × xMem) (hR : Q (some (.int out.1)) (xf E out.2)) (x1 : Int32) (s0 : Int32) (m : xMem) (hf : J_X8_startsToken_41 x1 s0 m = some out) : xX E mX8_startsToken d 0 0 0 0 Q 41 [(0, .ref (xB E + 29)), (1, .int (x1))] [.int (s0)] (xf E m) := by
  unfold J_X8_startsToken_41 at hf
  refine x_istore_n (lv' := [(0, .ref (xB E + 29)), (1, .int (x1)), (2, .int (s0))]) dX8_startsToken_41 [1, 2, 0] (by decide) rfl ?_
  refine x_iload_n dX8_startsToken_42 rfl ?_
  refine x_if_ne 58 dX8_startsToken_43 (by decide) (fun hc => ?_) (fun hc => ?_)
  · replace hf := x_iff hc hf
    refine x_iconst (v := 0) dX8_startsToken_58 (by decide) ?_
    exact x_zret dX8_startsToken_59 rfl (by decide) (by cases hf; exact hR)
  · replace hf := x_ift hc hf
    refine x_aload_n dX8_startsToken_46 rfl ?_
    refine x_iload_n dX8_startsToken_47 rfl ?_
    obtain ⟨q_3, hq_3, hf⟩ := Option.bind_eq_some_iff.mp hf
    refine f_cVi mX7_isBlank [.int (x1)] [] dX8_startsToken_48 cs_RX8_49 ⟨w_599, w_28⟩ (ci := 7) rfl (by decide) sh_29 rfl rfl (Nat.le_of_ble_eq_true rfl) (by omega) (c_X7_isBlank (d := d - 1) (by omega) (x1) m q_3 hq_3) ?_
    refine x_if_ne 58 dX8_startsToken_51 (by decide) (fun hc => ?_) (fun hc => ?_)
    · replace hf := x_iff hc hf
      refine x_iconst (v := 0) dX8_startsToken_58 (by decide) ?_
      exact x_zret dX8_startsToken_59 rfl (by decide) (by cases hf; exact hR)
    · replace hf := x_ift hc hf
      refine x_iconst (v := 1) dX8_startsToken_54 (by decide) ?_
      refine x_goto 59 dX8_startsToken_55 (by decide) ?_
      exact x_zret dX8_startsToken_59 rfl (by decide) (by cases hf; exact hR)
set_option maxHeartbeats 4000000 in
set_option maxRecDepth 100000 in
theorem pJ_X8_startsToken_40 {E : xE} {d : Nat} {Q : Option Value → xS → Prop} (hd : 3 ≤ d) (out : Int32 × xMem) (hR : Q (some (.int out.1)) (xf E out.2)) (x1 : Int32) (m : xMem) (hf : J_X8_startsToken_40 x1 m = some out) : xX E mX8_startsToken d 0 0 0 0 Q 40 [(0, .ref (xB E + 29)), (1, .int (x1))] [] (xf E m) := by
  unfold J_X8_startsToken_40 at hf
  refine x_iconst (v := 0) dX8_startsToken_40 (by decide) ?_
  exact pJ_X8_startsToken_41 hd out hR _ _ _ hf
set_option maxHeartbeats 4000000 in
set_option maxRecDepth 100000 in
theorem pJ_X8_startsToken_36 {E : xE} {d : Nat} {Q : Option Value → xS → Prop} (hd : 3 ≤ d) (out : Int32 × xMem) (hR : Q (some (.int out.1)) (xf E out.2)) (x1 : Int32) (m : xMem) (hf : J_X8_startsToken_36 x1 m = some out) : xX E mX8_startsToken d 0 0 0 0 Q 36 [(0, .ref (xB E + 29)), (1, .int (x1))] [] (xf E m) := by
  unfold J_X8_startsToken_36 at hf
  refine x_iconst (v := 1) dX8_startsToken_36 (by decide) ?_
  refine x_goto 41 dX8_startsToken_37 (by decide) ?_
  exact pJ_X8_startsToken_41 hd out hR _ _ _ hf
set_option maxHeartbeats 4000000 in
set_option maxRecDepth 100000 in
theorem pJ_X8_startsToken_18 {E : xE} {d : Nat} {Q : Option Value → xS → Prop} (hd : 3 ≤ d) (out : Int32 × xMem) (hR : Q (some (.int out.1)) (xf E out.2)) (x1 : Int32) (m : xMem) (hf : J_X8_startsToken_18 x1 m = some out) : xX E mX8_startsToken d 0 0 0 0 Q 18 [(0, .ref (xB E + 29)), (1, .int (x1))] [] (xf E m) := by
  unfold J_X8_startsToken_18 at hf
  refine x_aload_n dX8_startsToken_18 rfl ?_
  refine x_iload_n dX8_startsToken_19 rfl ?_
  obtain ⟨q_2, hq_2, hf⟩ := Option.bind_eq_some_iff.mp hf
  refine f_cVi mX7_isDigit [.int (x1)] [] dX8_startsToken_20 cs_RX8_46 ⟨w_595, w_27⟩ (ci := 7) rfl (by decide) sh_29 rfl rfl (Nat.le_of_ble_eq_true rfl) (by omega) (c_X7_isDigit (d := d - 1) (by omega) (x1) m q_2 hq_2) ?_
  refine x_if_eq 40 dX8_startsToken_23 (by decide) (fun hc => ?_) (fun hc => ?_)
  · replace hf := x_ift hc hf
    exact pJ_X8_startsToken_40 hd out hR _ _ hf
  · replace hf := x_iff hc hf
    refine x_aload_n dX8_startsToken_26 rfl ?_
    refine x_iload_n dX8_startsToken_27 rfl ?_
    refine x_iconst (v := 1) dX8_startsToken_28 (by decide) ?_
    refine x_isub dX8_startsToken_29 ?_
    obtain ⟨q_4, hq_4, hf⟩ := Option.bind_eq_some_iff.mp hf
    refine f_cVi mX7_isDigit [.int (x1 - (1 : Int32))] [] dX8_startsToken_30 cs_RX8_46 ⟨w_595, w_27⟩ (ci := 7) rfl (by decide) sh_29 rfl rfl (Nat.le_of_ble_eq_true rfl) (by omega) (c_X7_isDigit (d := d - 1) (by omega) (x1 - (1 : Int32)) q_2.2 q_4 hq_4) ?_
    refine x_if_eq 40 dX8_startsToken_33 (by decide) (fun hc => ?_) (fun hc => ?_)
    · replace hf := x_ift hc hf
      exact pJ_X8_startsToken_40 hd out hR _ _ hf
    · replace hf := x_iff hc hf
      exact pJ_X8_startsToken_36 hd out hR _ _ hf
set_option maxHeartbeats 4000000 in
set_option maxRecDepth 100000 in
theorem pF_X8_startsToken {E : xE} {d : Nat} {Q : Option Value → xS → Prop} (hd : 3 ≤ d) (out : Int32 × xMem) (hR : Q (some (.int out.1)) (xf E out.2)) (x1 : Int32) (m : xMem) (hf : F_X8_startsToken x1 m = some out) : xX E mX8_startsToken d 0 0 0 0 Q 0 [(0, .ref (xB E + 29)), (1, .int (x1))] [] (xf E m) := by
  unfold F_X8_startsToken at hf
  refine x_aload_n dX8_startsToken_0 rfl ?_
  refine x_iload_n dX8_startsToken_1 rfl ?_
  obtain ⟨q_1, hq_1, hf⟩ := Option.bind_eq_some_iff.mp hf
  refine f_cVi mX7_isLetter [.int (x1)] [] dX8_startsToken_2 cs_RX8_42 ⟨w_590, w_26⟩ (ci := 7) rfl (by decide) sh_29 rfl rfl (Nat.le_of_ble_eq_true rfl) (by omega) (c_X7_isLetter (d := d - 1) (by omega) (x1) m q_1 hq_1) ?_
  refine x_if_eq 18 dX8_startsToken_5 (by decide) (fun hc => ?_) (fun hc => ?_)
  · replace hf := x_ift hc hf
    exact pJ_X8_startsToken_18 hd out hR _ _ hf
  · replace hf := x_iff hc hf
    refine x_aload_n dX8_startsToken_8 rfl ?_
    refine x_iload_n dX8_startsToken_9 rfl ?_
    refine x_iconst (v := 1) dX8_startsToken_10 (by decide) ?_
    refine x_isub dX8_startsToken_11 ?_
    obtain ⟨q_5, hq_5, hf⟩ := Option.bind_eq_some_iff.mp hf
    refine f_cVi mX7_isLetter [.int (x1 - (1 : Int32))] [] dX8_startsToken_12 cs_RX8_42 ⟨w_590, w_26⟩ (ci := 7) rfl (by decide) sh_29 rfl rfl (Nat.le_of_ble_eq_true rfl) (by omega) (c_X7_isLetter (d := d - 1) (by omega) (x1 - (1 : Int32)) q_1.2 q_5 hq_5) ?_
    refine x_if_ne 36 dX8_startsToken_15 (by decide) (fun hc => ?_) (fun hc => ?_)
    · replace hf := x_iff hc hf
      exact pJ_X8_startsToken_36 hd out hR _ _ hf
    · replace hf := x_ift hc hf
      exact pJ_X8_startsToken_18 hd out hR _ _ hf
theorem c_X8_startsToken {E : xE} {d : Nat} (hd : 3 ≤ d) (x1 : Int32) (m : xMem) (out : Int32 × xMem) (h : F_X8_startsToken x1 m = some out) : xCi E mX8_startsToken d [.ref (xB E + 29), .int x1] m out.1 out.2 :=
  x_enter (by decide +kernel) (Nat.le_of_ble_eq_true rfl) (pF_X8_startsToken hd (Q := _) out ⟨rfl, rfl⟩ x1 m h)
-- X8_signToken
def F_X8_signToken (x0 : Int32) (m : xMem) : Option (Int32 × xMem) :=
  if x0 = 40 then (
    some (x0, m))
  else (
  if x0 = 41 then (
    some (x0, m))
  else (
  if x0 = 43 then (
    some (x0, m))
  else (
  if x0 = 45 then (
    some (x0, m))
  else (
  if x0 = 59 then (
    some (x0, m))
  else (
  if x0 = 60 then (
    some (x0, m))
  else (
  if x0 = 61 then (
    some (x0, m))
  else (
    some ((1 : Int32), m))))))))
set_option maxHeartbeats 4000000 in
set_option maxRecDepth 100000 in
theorem pF_X8_signToken {E : xE} {d : Nat} {Q : Option Value → xS → Prop} (hd : 1 ≤ d) (out : Int32 × xMem) (hR : Q (some (.int out.1)) (xf E out.2)) (x0 : Int32) (m : xMem) (hf : F_X8_signToken x0 m = some out) : xX E mX8_signToken d 0 0 0 0 Q 0 [(0, .int (x0))] [] (xf E m) := by
  unfold F_X8_signToken at hf
  refine x_iload_n dX8_signToken_0 rfl ?_
  by_cases hc : x0 = 40
  · replace hf := x_ift hc hf
    refine x_tableIn 104 dX8_signToken_1 (by rw [hc]; decide) (by rw [hc]; decide) (by rw [hc]; rfl) (by decide) ?_
    refine x_iload_n dX8_signToken_104 rfl ?_
    exact x_iret dX8_signToken_105 rfl (by cases hf; exact hR)
  replace hf := x_iff hc hf
  have hn40 := hc
  by_cases hc : x0 = 41
  · replace hf := x_ift hc hf
    refine x_tableIn 104 dX8_signToken_1 (by rw [hc]; decide) (by rw [hc]; decide) (by rw [hc]; rfl) (by decide) ?_
    refine x_iload_n dX8_signToken_104 rfl ?_
    exact x_iret dX8_signToken_105 rfl (by cases hf; exact hR)
  replace hf := x_iff hc hf
  have hn41 := hc
  by_cases hc : x0 = 43
  · replace hf := x_ift hc hf
    refine x_tableIn 104 dX8_signToken_1 (by rw [hc]; decide) (by rw [hc]; decide) (by rw [hc]; rfl) (by decide) ?_
    refine x_iload_n dX8_signToken_104 rfl ?_
    exact x_iret dX8_signToken_105 rfl (by cases hf; exact hR)
  replace hf := x_iff hc hf
  have hn43 := hc
  by_cases hc : x0 = 45
  · replace hf := x_ift hc hf
    refine x_tableIn 104 dX8_signToken_1 (by rw [hc]; decide) (by rw [hc]; decide) (by rw [hc]; rfl) (by decide) ?_
    refine x_iload_n dX8_signToken_104 rfl ?_
    exact x_iret dX8_signToken_105 rfl (by cases hf; exact hR)
  replace hf := x_iff hc hf
  have hn45 := hc
  by_cases hc : x0 = 59
  · replace hf := x_ift hc hf
    refine x_tableIn 104 dX8_signToken_1 (by rw [hc]; decide) (by rw [hc]; decide) (by rw [hc]; rfl) (by decide) ?_
    refine x_iload_n dX8_signToken_104 rfl ?_
    exact x_iret dX8_signToken_105 rfl (by cases hf; exact hR)
  replace hf := x_iff hc hf
  have hn59 := hc
  by_cases hc : x0 = 60
  · replace hf := x_ift hc hf
    refine x_tableIn 104 dX8_signToken_1 (by rw [hc]; decide) (by rw [hc]; decide) (by rw [hc]; rfl) (by decide) ?_
    refine x_iload_n dX8_signToken_104 rfl ?_
    exact x_iret dX8_signToken_105 rfl (by cases hf; exact hR)
  replace hf := x_iff hc hf
  have hn60 := hc
  by_cases hc : x0 = 61
  · replace hf := x_ift hc hf
    refine x_tableIn 104 dX8_signToken_1 (by rw [hc]; decide) (by rw [hc]; decide) (by rw [hc]; rfl) (by decide) ?_
    refine x_iload_n dX8_signToken_104 rfl ?_
    exact x_iret dX8_signToken_105 rfl (by cases hf; exact hR)
  replace hf := x_iff hc hf
  have hn61 := hc
  by_cases hc : x0 = 42
  · refine x_tableIn 106 dX8_signToken_1 (by rw [hc]; decide) (by rw [hc]; decide) (by rw [hc]; rfl) (by decide) ?_
    refine x_iconst (v := 1) dX8_signToken_106 (by decide) ?_
    exact x_iret dX8_signToken_107 rfl (by cases hf; exact hR)
  have hn42 := hc
  by_cases hc : x0 = 44
  · refine x_tableIn 106 dX8_signToken_1 (by rw [hc]; decide) (by rw [hc]; decide) (by rw [hc]; rfl) (by decide) ?_
    refine x_iconst (v := 1) dX8_signToken_106 (by decide) ?_
    exact x_iret dX8_signToken_107 rfl (by cases hf; exact hR)
  have hn44 := hc
  by_cases hc : x0 = 46
  · refine x_tableIn 106 dX8_signToken_1 (by rw [hc]; decide) (by rw [hc]; decide) (by rw [hc]; rfl) (by decide) ?_
    refine x_iconst (v := 1) dX8_signToken_106 (by decide) ?_
    exact x_iret dX8_signToken_107 rfl (by cases hf; exact hR)
  have hn46 := hc
  by_cases hc : x0 = 47
  · refine x_tableIn 106 dX8_signToken_1 (by rw [hc]; decide) (by rw [hc]; decide) (by rw [hc]; rfl) (by decide) ?_
    refine x_iconst (v := 1) dX8_signToken_106 (by decide) ?_
    exact x_iret dX8_signToken_107 rfl (by cases hf; exact hR)
  have hn47 := hc
  by_cases hc : x0 = 48
  · refine x_tableIn 106 dX8_signToken_1 (by rw [hc]; decide) (by rw [hc]; decide) (by rw [hc]; rfl) (by decide) ?_
    refine x_iconst (v := 1) dX8_signToken_106 (by decide) ?_
    exact x_iret dX8_signToken_107 rfl (by cases hf; exact hR)
  have hn48 := hc
  by_cases hc : x0 = 49
  · refine x_tableIn 106 dX8_signToken_1 (by rw [hc]; decide) (by rw [hc]; decide) (by rw [hc]; rfl) (by decide) ?_
    refine x_iconst (v := 1) dX8_signToken_106 (by decide) ?_
    exact x_iret dX8_signToken_107 rfl (by cases hf; exact hR)
  have hn49 := hc
  by_cases hc : x0 = 50
  · refine x_tableIn 106 dX8_signToken_1 (by rw [hc]; decide) (by rw [hc]; decide) (by rw [hc]; rfl) (by decide) ?_
    refine x_iconst (v := 1) dX8_signToken_106 (by decide) ?_
    exact x_iret dX8_signToken_107 rfl (by cases hf; exact hR)
  have hn50 := hc
  by_cases hc : x0 = 51
  · refine x_tableIn 106 dX8_signToken_1 (by rw [hc]; decide) (by rw [hc]; decide) (by rw [hc]; rfl) (by decide) ?_
    refine x_iconst (v := 1) dX8_signToken_106 (by decide) ?_
    exact x_iret dX8_signToken_107 rfl (by cases hf; exact hR)
  have hn51 := hc
  by_cases hc : x0 = 52
  · refine x_tableIn 106 dX8_signToken_1 (by rw [hc]; decide) (by rw [hc]; decide) (by rw [hc]; rfl) (by decide) ?_
    refine x_iconst (v := 1) dX8_signToken_106 (by decide) ?_
    exact x_iret dX8_signToken_107 rfl (by cases hf; exact hR)
  have hn52 := hc
  by_cases hc : x0 = 53
  · refine x_tableIn 106 dX8_signToken_1 (by rw [hc]; decide) (by rw [hc]; decide) (by rw [hc]; rfl) (by decide) ?_
    refine x_iconst (v := 1) dX8_signToken_106 (by decide) ?_
    exact x_iret dX8_signToken_107 rfl (by cases hf; exact hR)
  have hn53 := hc
  by_cases hc : x0 = 54
  · refine x_tableIn 106 dX8_signToken_1 (by rw [hc]; decide) (by rw [hc]; decide) (by rw [hc]; rfl) (by decide) ?_
    refine x_iconst (v := 1) dX8_signToken_106 (by decide) ?_
    exact x_iret dX8_signToken_107 rfl (by cases hf; exact hR)
  have hn54 := hc
  by_cases hc : x0 = 55
  · refine x_tableIn 106 dX8_signToken_1 (by rw [hc]; decide) (by rw [hc]; decide) (by rw [hc]; rfl) (by decide) ?_
    refine x_iconst (v := 1) dX8_signToken_106 (by decide) ?_
    exact x_iret dX8_signToken_107 rfl (by cases hf; exact hR)
  have hn55 := hc
  by_cases hc : x0 = 56
  · refine x_tableIn 106 dX8_signToken_1 (by rw [hc]; decide) (by rw [hc]; decide) (by rw [hc]; rfl) (by decide) ?_
    refine x_iconst (v := 1) dX8_signToken_106 (by decide) ?_
    exact x_iret dX8_signToken_107 rfl (by cases hf; exact hR)
  have hn56 := hc
  by_cases hc : x0 = 57
  · refine x_tableIn 106 dX8_signToken_1 (by rw [hc]; decide) (by rw [hc]; decide) (by rw [hc]; rfl) (by decide) ?_
    refine x_iconst (v := 1) dX8_signToken_106 (by decide) ?_
    exact x_iret dX8_signToken_107 rfl (by cases hf; exact hR)
  have hn57 := hc
  by_cases hc : x0 = 58
  · refine x_tableIn 106 dX8_signToken_1 (by rw [hc]; decide) (by rw [hc]; decide) (by rw [hc]; rfl) (by decide) ?_
    refine x_iconst (v := 1) dX8_signToken_106 (by decide) ?_
    exact x_iret dX8_signToken_107 rfl (by cases hf; exact hR)
  have hn58 := hc
  refine x_tableOut 106 dX8_signToken_1 (xtab_out 40 61 [40, 41, 42, 43, 44, 45, 46, 47, 48, 49, 50, 51, 52, 53, 54, 55, 56, 57, 58, 59, 60, 61] (by decide) (by simp only [List.forall_mem_cons, List.not_mem_nil, false_implies, implies_true, and_true]; exact ⟨hn40, hn41, hn42, hn43, hn44, hn45, hn46, hn47, hn48, hn49, hn50, hn51, hn52, hn53, hn54, hn55, hn56, hn57, hn58, hn59, hn60, hn61⟩)) (by decide) ?_
  refine x_iconst (v := 1) dX8_signToken_106 (by decide) ?_
  exact x_iret dX8_signToken_107 rfl (by cases hf; exact hR)
theorem c_X8_signToken {E : xE} {d : Nat} (hd : 1 ≤ d) (x0 : Int32) (m : xMem) (out : Int32 × xMem) (h : F_X8_signToken x0 m = some out) : xCi E mX8_signToken d [.int x0] m out.1 out.2 :=
  x_enter (by decide +kernel) (Nat.le_of_ble_eq_true rfl) (pF_X8_signToken hd (Q := _) out ⟨rfl, rfl⟩ x0 m h)
-- X8_add
def F_X8_add (x1 : Int32) (x2 : Int32) (x3 : Int32) (m : xMem) : Option (Int32 × xMem) :=
  if (600 : Int32) < (m.1 ag_parser_tokens fTokens_size) then (
    some (0, m))
  else (
    if xin (m.1 ag_parser_tokens fTokens_size) 601 = true then (
    if xin ((xst m.1 ag_parser_tokens_what (m.1 ag_parser_tokens fTokens_size).toNatClampNeg x1) ag_parser_tokens fTokens_size) 601 = true then (
    if xin ((xst (xst m.1 ag_parser_tokens_what (m.1 ag_parser_tokens fTokens_size).toNatClampNeg x1) ag_parser_tokens_where ((xst m.1 ag_parser_tokens_what (m.1 ag_parser_tokens fTokens_size).toNatClampNeg x1) ag_parser_tokens fTokens_size).toNatClampNeg x2) ag_parser_tokens fTokens_size) 601 = true then (
    some (0, (xst (xst (xst (xst m.1 ag_parser_tokens_what (m.1 ag_parser_tokens fTokens_size).toNatClampNeg x1) ag_parser_tokens_where ((xst m.1 ag_parser_tokens_what (m.1 ag_parser_tokens fTokens_size).toNatClampNeg x1) ag_parser_tokens fTokens_size).toNatClampNeg x2) ag_parser_tokens_value ((xst (xst m.1 ag_parser_tokens_what (m.1 ag_parser_tokens fTokens_size).toNatClampNeg x1) ag_parser_tokens_where ((xst m.1 ag_parser_tokens_what (m.1 ag_parser_tokens fTokens_size).toNatClampNeg x1) ag_parser_tokens fTokens_size).toNatClampNeg x2) ag_parser_tokens fTokens_size).toNatClampNeg x3) ag_parser_tokens fTokens_size (((xst (xst (xst m.1 ag_parser_tokens_what (m.1 ag_parser_tokens fTokens_size).toNatClampNeg x1) ag_parser_tokens_where ((xst m.1 ag_parser_tokens_what (m.1 ag_parser_tokens fTokens_size).toNatClampNeg x1) ag_parser_tokens fTokens_size).toNatClampNeg x2) ag_parser_tokens_value ((xst (xst m.1 ag_parser_tokens_what (m.1 ag_parser_tokens fTokens_size).toNatClampNeg x1) ag_parser_tokens_where ((xst m.1 ag_parser_tokens_what (m.1 ag_parser_tokens fTokens_size).toNatClampNeg x1) ag_parser_tokens fTokens_size).toNatClampNeg x2) ag_parser_tokens fTokens_size).toNatClampNeg x3) ag_parser_tokens fTokens_size) + (1 : Int32)), m.2)))
    else none)
    else none)
    else none)
set_option maxHeartbeats 4000000 in
set_option maxRecDepth 100000 in
theorem pF_X8_add {E : xE} {d : Nat} {Q : Option Value → xS → Prop} (hd : 1 ≤ d) (out : Int32 × xMem) (hR : Q none (xf E out.2)) (x1 : Int32) (x2 : Int32) (x3 : Int32) (m : xMem) (hf : F_X8_add x1 x2 x3 m = some out) : xX E mX8_add d 0 0 0 0 Q 0 [(0, .ref (xB E + 32)), (1, .int (x1)), (2, .int (x2)), (3, .int (x3))] [] (xf E m) := by
  unfold F_X8_add at hf
  refine x_aload_n dX8_add_0 rfl ?_
  refine f_getI dX8_add_1 xcl_8 (by decide) fl_RX8_21 (by decide) sh_32 rfl ?_
  refine x_sipush (v := 600) dX8_add_4 (by decide) ?_
  refine x_icmp_gt 50 dX8_add_7 (by decide) (fun hc => ?_) (fun hc => ?_)
  · replace hf := x_ift hc hf
    exact x_vret dX8_add_50 rfl (by cases hf; exact hR)
  · replace hf := x_iff hc hf
    refine x_aload_n dX8_add_10 rfl ?_
    refine f_getR (b := 33) dX8_add_11 xcl_8 (by decide) fl_RX8_9 (by decide) sh_32 rfl ?_
    refine x_aload_n dX8_add_14 rfl ?_
    refine f_getI dX8_add_15 xcl_8 (by decide) fl_RX8_21 (by decide) sh_32 rfl ?_
    refine x_iload_n dX8_add_18 rfl ?_
    have hg_1 := x_gd hf
    replace hf := hg_1.2
    refine f_iast dX8_add_19 (by decide) sh_33 hg_1.1 ?_
    refine x_aload_n dX8_add_20 rfl ?_
    refine f_getR (b := 34) dX8_add_21 xcl_8 (by decide) fl_RX8_15 (by decide) sh_32 rfl ?_
    refine x_aload_n dX8_add_24 rfl ?_
    refine f_getI dX8_add_25 xcl_8 (by decide) fl_RX8_21 (by decide) sh_32 rfl ?_
    refine x_iload_n dX8_add_28 rfl ?_
    have hg_2 := x_gd hf
    replace hf := hg_2.2
    refine f_iast dX8_add_29 (by decide) sh_34 hg_2.1 ?_
    refine x_aload_n dX8_add_30 rfl ?_
    refine f_getR (b := 35) dX8_add_31 xcl_8 (by decide) fl_RX8_18 (by decide) sh_32 rfl ?_
    refine x_aload_n dX8_add_34 rfl ?_
    refine f_getI dX8_add_35 xcl_8 (by decide) fl_RX8_21 (by decide) sh_32 rfl ?_
    refine x_iload_n dX8_add_38 rfl ?_
    have hg_3 := x_gd hf
    replace hf := hg_3.2
    refine f_iast dX8_add_39 (by decide) sh_35 hg_3.1 ?_
    refine x_aload_n dX8_add_40 rfl ?_
    refine x_dup dX8_add_41 rfl ?_
    refine f_getI dX8_add_42 xcl_8 (by decide) fl_RX8_21 (by decide) sh_32 rfl ?_
    refine x_iconst (v := 1) dX8_add_45 (by decide) ?_
    refine x_iadd dX8_add_46 ?_
    refine f_putI dX8_add_47 xcl_8 (by decide) fl_RX8_21 rfl rfl (by decide) sh_32 rfl ?_
    exact x_vret dX8_add_50 rfl (by cases hf; exact hR)
theorem c_X8_add {E : xE} {d : Nat} (hd : 1 ≤ d) (x1 : Int32) (x2 : Int32) (x3 : Int32) (m : xMem) (out : Int32 × xMem) (h : F_X8_add x1 x2 x3 m = some out) : xCv E mX8_add d [.ref (xB E + 32), .int x1, .int x2, .int x3] m out.2 :=
  x_enter (by decide +kernel) (Nat.le_of_ble_eq_true rfl) (pF_X8_add hd (Q := _) out ⟨rfl, rfl⟩ x1 x2 x3 m h)
-- X7_endOfDigits
def L_X7_endOfDigits_2 : Nat → Int32 → xMem → Option (Int32 × xMem)
  | 0, _, _ => none
  | fk + 1, x2, m =>
    if (m.1 ag_tape fTape_length) ≤ x2 then (
      some (x2, m))
    else (
      (F_X7_isDigit (x2) m).bind fun q_1 => (
      if q_1.1 = 0 then (
        some (x2, q_1.2))
      else (
        L_X7_endOfDigits_2 fk (x2 + 1) q_1.2)))
def F_X7_endOfDigits (x1 : Int32) (m : xMem) : Option (Int32 × xMem) :=
  L_X7_endOfDigits_2 xfuel (x1) m
set_option maxHeartbeats 4000000 in
set_option maxRecDepth 100000 in
theorem pL_X7_endOfDigits_2 {E : xE} {d : Nat} {Q : Option Value → xS → Prop} (hd : 3 ≤ d) (out : Int32 × xMem) (hR : Q (some (.int out.1)) (xf E out.2)) : ∀ (fk : Nat) (x2 : Int32) (m : xMem), L_X7_endOfDigits_2 fk x2 m = some out → xX E mX7_endOfDigits d 0 0 0 0 Q 2 [(0, .ref (xB E + 29)), (2, .int (x2))] [] (xf E m) := by
  intro fk
  induction fk with
  | zero => intro x2 m hf; cases hf
  | succ fk ih =>
    intro x2 m hf
    rw [L_X7_endOfDigits_2] at hf
    refine x_iload_n dX7_endOfDigits_2 rfl ?_
    refine x_aload_n dX7_endOfDigits_3 rfl ?_
    refine f_getI dX7_endOfDigits_4 xcl_7 (by decide) fl_RX7_21 (by decide) sh_29 rfl ?_
    refine x_icmp_ge 24 dX7_endOfDigits_7 (by decide) (fun hc => ?_) (fun hc => ?_)
    · replace hf := x_ift hc hf
      refine x_iload_n dX7_endOfDigits_24 rfl ?_
      exact x_iret dX7_endOfDigits_25 rfl (by cases hf; exact hR)
    · replace hf := x_iff hc hf
      refine x_aload_n dX7_endOfDigits_10 rfl ?_
      refine x_iload_n dX7_endOfDigits_11 rfl ?_
      obtain ⟨q_1, hq_1, hf⟩ := Option.bind_eq_some_iff.mp hf
      refine f_cVi mX7_isDigit [.int (x2)] [] dX7_endOfDigits_12 cs_RX7_33 ⟨w_595, w_27⟩ (ci := 7) rfl (by decide) sh_29 rfl rfl (Nat.le_of_ble_eq_true rfl) (by omega) (c_X7_isDigit (d := d - 1) (by omega) (x2) m q_1 hq_1) ?_
      refine x_if_eq 24 dX7_endOfDigits_15 (by decide) (fun hc => ?_) (fun hc => ?_)
      · replace hf := x_ift hc hf
        refine x_iload_n dX7_endOfDigits_24 rfl ?_
        exact x_iret dX7_endOfDigits_25 rfl (by cases hf; exact hR)
      · replace hf := x_iff hc hf
        refine x_iinc (v := x2 + 1) (lv' := [(0, .ref (xB E + 29)), (2, .int (x2 + 1))]) dX7_endOfDigits_18 1 [1, 0] rfl rfl (by decide) rfl ?_
        refine x_goto 2 dX7_endOfDigits_21 (by decide) ?_
        exact ih _ _ hf
set_option maxHeartbeats 4000000 in
set_option maxRecDepth 100000 in
theorem pF_X7_endOfDigits {E : xE} {d : Nat} {Q : Option Value → xS → Prop} (hd : 3 ≤ d) (out : Int32 × xMem) (hR : Q (some (.int out.1)) (xf E out.2)) (x1 : Int32) (m : xMem) (hf : F_X7_endOfDigits x1 m = some out) : xX E mX7_endOfDigits d 0 0 0 0 Q 0 [(0, .ref (xB E + 29)), (1, .int (x1))] [] (xf E m) := by
  unfold F_X7_endOfDigits at hf
  refine x_iload_n dX7_endOfDigits_0 rfl ?_
  refine x_istore_n (lv' := [(0, .ref (xB E + 29)), (2, .int (x1))]) dX7_endOfDigits_1 [1, 0] (by decide) rfl ?_
  refine pL_X7_endOfDigits_2 hd out hR xfuel _ _ hf
theorem c_X7_endOfDigits {E : xE} {d : Nat} (hd : 3 ≤ d) (x1 : Int32) (m : xMem) (out : Int32 × xMem) (h : F_X7_endOfDigits x1 m = some out) : xCi E mX7_endOfDigits d [.ref (xB E + 29), .int x1] m out.1 out.2 :=
  x_enter (by decide +kernel) (Nat.le_of_ble_eq_true rfl) (pF_X7_endOfDigits hd (Q := _) out ⟨rfl, rfl⟩ x1 m h)
-- X8_addNumber
def L_X8_addNumber_21 (x2 : Int32) (x3 : Int32) (c51 : Int32 → xMem → Option (Int32 × xMem)) : Nat → Int32 → Int32 → xMem → Option (Int32 × xMem)
  | 0, _, _, _ => none
  | fk + 1, x4, x5, m =>
    if x3 ≤ x5 then (
      c51 (x4) m)
    else (
      if xin x5 600 = true then (
      L_X8_addNumber_21 (x2) (x3) c51 fk ((x4 * (10 : Int32)) + ((m.1 ag_tape_signs x5.toNatClampNeg) - (48 : Int32))) (x5 + 1) m)
      else none)
def F_X8_addNumber (x2 : Int32) (x3 : Int32) (m : xMem) : Option (Int32 × xMem) :=
  if (x3 - x2) ≤ (4 : Int32) then (
    L_X8_addNumber_21 (x2) (x3) (fun x4_2 m_3 => (
      (F_X8_add ((2 : Int32)) (x2) (x4_2) m_3).bind fun q_4 => (
      some (0, q_4.2)))) xfuel ((0 : Int32)) (x2) m)
  else (
    (F_X8_add ((1 : Int32)) (x2) ((0 : Int32)) m).bind fun q_5 => (
    some (0, q_5.2)))
set_option maxHeartbeats 4000000 in
set_option maxRecDepth 100000 in
theorem pL_X8_addNumber_21 {E : xE} {d : Nat} {Q : Option Value → xS → Prop} (hd : 2 ≤ d) (out : Int32 × xMem) (hR : Q none (xf E out.2)) (x2 : Int32) (x3 : Int32) (c51 : Int32 → xMem → Option (Int32 × xMem)) (hc51 : ∀ (x4 : Int32) (m : xMem), c51 x4 m = some out → xX E mX8_addNumber d 0 0 0 0 Q 51 [(0, .ref (xB E + 32)), (2, .int (x2)), (4, .int (x4))] [] (xf E m)) : ∀ (fk : Nat) (x4 : Int32) (x5 : Int32) (m : xMem), L_X8_addNumber_21 x2 x3 c51 fk x4 x5 m = some out → xX E mX8_addNumber d 0 0 0 0 Q 21 [(0, .ref (xB E + 32)), (1, .ref (xB E + 29)), (2, .int (x2)), (3, .int (x3)), (4, .int (x4)), (5, .int (x5))] [] (xf E m) := by
  intro fk
  induction fk with
  | zero => intro x4 x5 m hf; cases hf
  | succ fk ih =>
    intro x4 x5 m hf
    rw [L_X8_addNumber_21] at hf
    refine x_iload dX8_addNumber_21 rfl ?_
    refine x_iload_n dX8_addNumber_23 rfl ?_
    refine x_icmp_ge 51 dX8_addNumber_24 (by decide) (fun hc => ?_) (fun hc => ?_)
    · replace hf := x_ift hc hf
      refine x_lv (lv' := [(0, .ref (xB E + 32)), (2, .int (x2)), (4, .int (x4))]) [0, 2, 4] rfl ?_
      exact hc51 _ _ hf
    · replace hf := x_iff hc hf
      refine x_iload dX8_addNumber_27 rfl ?_
      refine x_bipush (v := 10) dX8_addNumber_29 (by decide) ?_
      refine x_imul dX8_addNumber_31 ?_
      refine x_aload_n dX8_addNumber_32 rfl ?_
      refine f_getR (b := 30) dX8_addNumber_33 xcl_7 (by decide) fl_RX8_67 (by decide) sh_29 rfl ?_
      refine x_iload dX8_addNumber_36 rfl ?_
      have hg_1 := x_gd hf
      replace hf := hg_1.2
      refine f_bald dX8_addNumber_38 (by decide) sh_30 hg_1.1 ?_
      refine x_bipush (v := 48) dX8_addNumber_39 (by decide) ?_
      refine x_isub dX8_addNumber_41 ?_
      refine x_iadd dX8_addNumber_42 ?_
      refine x_istore (lv' := [(0, .ref (xB E + 32)), (1, .ref (xB E + 29)), (2, .int (x2)), (3, .int (x3)), (4, .int ((x4 * (10 : Int32)) + ((m.1 ag_tape_signs x5.toNatClampNeg) - (48 : Int32)))), (5, .int (x5))]) dX8_addNumber_43 [1, 2, 3, 4, 0, 5] (by decide) rfl ?_
      refine x_iinc (v := x5 + 1) (lv' := [(0, .ref (xB E + 32)), (1, .ref (xB E + 29)), (2, .int (x2)), (3, .int (x3)), (4, .int ((x4 * (10 : Int32)) + ((m.1 ag_tape_signs x5.toNatClampNeg) - (48 : Int32)))), (5, .int (x5 + 1))]) dX8_addNumber_45 5 [1, 2, 3, 4, 5, 0] rfl rfl (by decide) rfl ?_
      refine x_goto 21 dX8_addNumber_48 (by decide) ?_
      exact ih _ _ _ hf
set_option maxHeartbeats 4000000 in
set_option maxRecDepth 100000 in
theorem pF_X8_addNumber {E : xE} {d : Nat} {Q : Option Value → xS → Prop} (hd : 2 ≤ d) (out : Int32 × xMem) (hR : Q none (xf E out.2)) (x2 : Int32) (x3 : Int32) (m : xMem) (hf : F_X8_addNumber x2 x3 m = some out) : xX E mX8_addNumber d 0 0 0 0 Q 0 [(0, .ref (xB E + 32)), (1, .ref (xB E + 29)), (2, .int (x2)), (3, .int (x3))] [] (xf E m) := by
  unfold F_X8_addNumber at hf
  refine x_iload_n dX8_addNumber_0 rfl ?_
  refine x_iload_n dX8_addNumber_1 rfl ?_
  refine x_isub dX8_addNumber_2 ?_
  refine x_iconst (v := 4) dX8_addNumber_3 (by decide) ?_
  refine x_icmp_le 15 dX8_addNumber_4 (by decide) (fun hc => ?_) (fun hc => ?_)
  · replace hf := x_ift hc hf
    refine x_iconst (v := 0) dX8_addNumber_15 (by decide) ?_
    refine x_istore (lv' := [(0, .ref (xB E + 32)), (1, .ref (xB E + 29)), (2, .int (x2)), (3, .int (x3)), (4, .int ((0 : Int32)))]) dX8_addNumber_16 [1, 2, 3, 4, 0] (by decide) rfl ?_
    refine x_iload_n dX8_addNumber_18 rfl ?_
    refine x_istore (lv' := [(0, .ref (xB E + 32)), (1, .ref (xB E + 29)), (2, .int (x2)), (3, .int (x3)), (4, .int ((0 : Int32))), (5, .int (x2))]) dX8_addNumber_19 [1, 2, 3, 4, 5, 0] (by decide) rfl ?_
    refine pL_X8_addNumber_21 hd out hR _ _ _ (fun x4_2 m_3 hf => ?_) xfuel _ _ _ hf
    refine x_aload_n dX8_addNumber_51 rfl ?_
    refine x_iconst (v := 2) dX8_addNumber_52 (by decide) ?_
    refine x_iload_n dX8_addNumber_53 rfl ?_
    refine x_iload dX8_addNumber_54 rfl ?_
    obtain ⟨q_4, hq_4, hf⟩ := Option.bind_eq_some_iff.mp hf
    refine f_cVv mX8_add [.int ((2 : Int32)), .int (x2), .int (x4_2)] [] dX8_addNumber_56 cs_RX8_38 ⟨w_676, w_32⟩ (ci := 8) rfl (by decide) sh_32 rfl rfl (Nat.le_of_ble_eq_true rfl) (by omega) (c_X8_add (d := d - 1) (by omega) ((2 : Int32)) (x2) (x4_2) m_3 q_4 hq_4) ?_
    exact x_vret dX8_addNumber_59 rfl (by cases hf; exact hR)
  · replace hf := x_iff hc hf
    refine x_aload_n dX8_addNumber_7 rfl ?_
    refine x_iconst (v := 1) dX8_addNumber_8 (by decide) ?_
    refine x_iload_n dX8_addNumber_9 rfl ?_
    refine x_iconst (v := 0) dX8_addNumber_10 (by decide) ?_
    obtain ⟨q_5, hq_5, hf⟩ := Option.bind_eq_some_iff.mp hf
    refine f_cVv mX8_add [.int ((1 : Int32)), .int (x2), .int ((0 : Int32))] [] dX8_addNumber_11 cs_RX8_38 ⟨w_676, w_32⟩ (ci := 8) rfl (by decide) sh_32 rfl rfl (Nat.le_of_ble_eq_true rfl) (by omega) (c_X8_add (d := d - 1) (by omega) ((1 : Int32)) (x2) ((0 : Int32)) m q_5 hq_5) ?_
    exact x_vret dX8_addNumber_14 rfl (by cases hf; exact hR)
theorem c_X8_addNumber {E : xE} {d : Nat} (hd : 2 ≤ d) (x2 : Int32) (x3 : Int32) (m : xMem) (out : Int32 × xMem) (h : F_X8_addNumber x2 x3 m = some out) : xCv E mX8_addNumber d [.ref (xB E + 32), .ref (xB E + 29), .int x2, .int x3] m out.2 :=
  x_enter (by decide +kernel) (Nat.le_of_ble_eq_true rfl) (pF_X8_addNumber hd (Q := _) out ⟨rfl, rfl⟩ x2 x3 m h)
-- X7_endOfLetters
def L_X7_endOfLetters_2 : Nat → Int32 → xMem → Option (Int32 × xMem)
  | 0, _, _ => none
  | fk + 1, x2, m =>
    if (m.1 ag_tape fTape_length) ≤ x2 then (
      some (x2, m))
    else (
      (F_X7_isLetter (x2) m).bind fun q_1 => (
      if q_1.1 = 0 then (
        some (x2, q_1.2))
      else (
        L_X7_endOfLetters_2 fk (x2 + 1) q_1.2)))
def F_X7_endOfLetters (x1 : Int32) (m : xMem) : Option (Int32 × xMem) :=
  L_X7_endOfLetters_2 xfuel (x1) m
set_option maxHeartbeats 4000000 in
set_option maxRecDepth 100000 in
theorem pL_X7_endOfLetters_2 {E : xE} {d : Nat} {Q : Option Value → xS → Prop} (hd : 3 ≤ d) (out : Int32 × xMem) (hR : Q (some (.int out.1)) (xf E out.2)) : ∀ (fk : Nat) (x2 : Int32) (m : xMem), L_X7_endOfLetters_2 fk x2 m = some out → xX E mX7_endOfLetters d 0 0 0 0 Q 2 [(0, .ref (xB E + 29)), (2, .int (x2))] [] (xf E m) := by
  intro fk
  induction fk with
  | zero => intro x2 m hf; cases hf
  | succ fk ih =>
    intro x2 m hf
    rw [L_X7_endOfLetters_2] at hf
    refine x_iload_n dX7_endOfLetters_2 rfl ?_
    refine x_aload_n dX7_endOfLetters_3 rfl ?_
    refine f_getI dX7_endOfLetters_4 xcl_7 (by decide) fl_RX7_21 (by decide) sh_29 rfl ?_
    refine x_icmp_ge 24 dX7_endOfLetters_7 (by decide) (fun hc => ?_) (fun hc => ?_)
    · replace hf := x_ift hc hf
      refine x_iload_n dX7_endOfLetters_24 rfl ?_
      exact x_iret dX7_endOfLetters_25 rfl (by cases hf; exact hR)
    · replace hf := x_iff hc hf
      refine x_aload_n dX7_endOfLetters_10 rfl ?_
      refine x_iload_n dX7_endOfLetters_11 rfl ?_
      obtain ⟨q_1, hq_1, hf⟩ := Option.bind_eq_some_iff.mp hf
      refine f_cVi mX7_isLetter [.int (x2)] [] dX7_endOfLetters_12 cs_RX7_29 ⟨w_590, w_26⟩ (ci := 7) rfl (by decide) sh_29 rfl rfl (Nat.le_of_ble_eq_true rfl) (by omega) (c_X7_isLetter (d := d - 1) (by omega) (x2) m q_1 hq_1) ?_
      refine x_if_eq 24 dX7_endOfLetters_15 (by decide) (fun hc => ?_) (fun hc => ?_)
      · replace hf := x_ift hc hf
        refine x_iload_n dX7_endOfLetters_24 rfl ?_
        exact x_iret dX7_endOfLetters_25 rfl (by cases hf; exact hR)
      · replace hf := x_iff hc hf
        refine x_iinc (v := x2 + 1) (lv' := [(0, .ref (xB E + 29)), (2, .int (x2 + 1))]) dX7_endOfLetters_18 1 [1, 0] rfl rfl (by decide) rfl ?_
        refine x_goto 2 dX7_endOfLetters_21 (by decide) ?_
        exact ih _ _ hf
set_option maxHeartbeats 4000000 in
set_option maxRecDepth 100000 in
theorem pF_X7_endOfLetters {E : xE} {d : Nat} {Q : Option Value → xS → Prop} (hd : 3 ≤ d) (out : Int32 × xMem) (hR : Q (some (.int out.1)) (xf E out.2)) (x1 : Int32) (m : xMem) (hf : F_X7_endOfLetters x1 m = some out) : xX E mX7_endOfLetters d 0 0 0 0 Q 0 [(0, .ref (xB E + 29)), (1, .int (x1))] [] (xf E m) := by
  unfold F_X7_endOfLetters at hf
  refine x_iload_n dX7_endOfLetters_0 rfl ?_
  refine x_istore_n (lv' := [(0, .ref (xB E + 29)), (2, .int (x1))]) dX7_endOfLetters_1 [1, 0] (by decide) rfl ?_
  refine pL_X7_endOfLetters_2 hd out hR xfuel _ _ hf
theorem c_X7_endOfLetters {E : xE} {d : Nat} (hd : 3 ≤ d) (x1 : Int32) (m : xMem) (out : Int32 × xMem) (h : F_X7_endOfLetters x1 m = some out) : xCi E mX7_endOfLetters d [.ref (xB E + 29), .int x1] m out.1 out.2 :=
  x_enter (by decide +kernel) (Nat.le_of_ble_eq_true rfl) (pF_X7_endOfLetters hd (Q := _) out ⟨rfl, rfl⟩ x1 m h)
-- X10_isLetter
def F_X10_isLetter (x0 : Int32) (m : xMem) : Option (Int32 × xMem) :=
  if x0 < (97 : Int32) then (
    some ((0 : Int32), m))
  else (
    if (122 : Int32) < x0 then (
      some ((0 : Int32), m))
    else (
      some ((1 : Int32), m)))
set_option maxHeartbeats 4000000 in
set_option maxRecDepth 100000 in
theorem pF_X10_isLetter {E : xE} {d : Nat} {Q : Option Value → xS → Prop} (hd : 1 ≤ d) (out : Int32 × xMem) (hR : Q (some (.int out.1)) (xf E out.2)) (x0 : Int32) (m : xMem) (hf : F_X10_isLetter x0 m = some out) : xX E mX10_isLetter d 0 0 0 0 Q 0 [(0, .int (x0))] [] (xf E m) := by
  unfold F_X10_isLetter at hf
  refine x_iload_n dX10_isLetter_0 rfl ?_
  refine x_bipush (v := 97) dX10_isLetter_1 (by decide) ?_
  refine x_icmp_lt 16 dX10_isLetter_3 (by decide) (fun hc => ?_) (fun hc => ?_)
  · replace hf := x_ift hc hf
    refine x_iconst (v := 0) dX10_isLetter_16 (by decide) ?_
    exact x_zret dX10_isLetter_17 rfl (by decide) (by cases hf; exact hR)
  · replace hf := x_iff hc hf
    refine x_iload_n dX10_isLetter_6 rfl ?_
    refine x_bipush (v := 122) dX10_isLetter_7 (by decide) ?_
    refine x_icmp_gt 16 dX10_isLetter_9 (by decide) (fun hc => ?_) (fun hc => ?_)
    · replace hf := x_ift hc hf
      refine x_iconst (v := 0) dX10_isLetter_16 (by decide) ?_
      exact x_zret dX10_isLetter_17 rfl (by decide) (by cases hf; exact hR)
    · replace hf := x_iff hc hf
      refine x_iconst (v := 1) dX10_isLetter_12 (by decide) ?_
      refine x_goto 17 dX10_isLetter_13 (by decide) ?_
      exact x_zret dX10_isLetter_17 rfl (by decide) (by cases hf; exact hR)
theorem c_X10_isLetter {E : xE} {d : Nat} (hd : 1 ≤ d) (x0 : Int32) (m : xMem) (out : Int32 × xMem) (h : F_X10_isLetter x0 m = some out) : xCi E mX10_isLetter d [.int x0] m out.1 out.2 :=
  x_enter (by decide +kernel) (Nat.le_of_ble_eq_true rfl) (pF_X10_isLetter hd (Q := _) out ⟨rfl, rfl⟩ x0 m h)
-- X10_isDigit
def F_X10_isDigit (x0 : Int32) (m : xMem) : Option (Int32 × xMem) :=
  if x0 < (48 : Int32) then (
    some ((0 : Int32), m))
  else (
    if (57 : Int32) < x0 then (
      some ((0 : Int32), m))
    else (
      some ((1 : Int32), m)))
set_option maxHeartbeats 4000000 in
set_option maxRecDepth 100000 in
theorem pF_X10_isDigit {E : xE} {d : Nat} {Q : Option Value → xS → Prop} (hd : 1 ≤ d) (out : Int32 × xMem) (hR : Q (some (.int out.1)) (xf E out.2)) (x0 : Int32) (m : xMem) (hf : F_X10_isDigit x0 m = some out) : xX E mX10_isDigit d 0 0 0 0 Q 0 [(0, .int (x0))] [] (xf E m) := by
  unfold F_X10_isDigit at hf
  refine x_iload_n dX10_isDigit_0 rfl ?_
  refine x_bipush (v := 48) dX10_isDigit_1 (by decide) ?_
  refine x_icmp_lt 16 dX10_isDigit_3 (by decide) (fun hc => ?_) (fun hc => ?_)
  · replace hf := x_ift hc hf
    refine x_iconst (v := 0) dX10_isDigit_16 (by decide) ?_
    exact x_zret dX10_isDigit_17 rfl (by decide) (by cases hf; exact hR)
  · replace hf := x_iff hc hf
    refine x_iload_n dX10_isDigit_6 rfl ?_
    refine x_bipush (v := 57) dX10_isDigit_7 (by decide) ?_
    refine x_icmp_gt 16 dX10_isDigit_9 (by decide) (fun hc => ?_) (fun hc => ?_)
    · replace hf := x_ift hc hf
      refine x_iconst (v := 0) dX10_isDigit_16 (by decide) ?_
      exact x_zret dX10_isDigit_17 rfl (by decide) (by cases hf; exact hR)
    · replace hf := x_iff hc hf
      refine x_iconst (v := 1) dX10_isDigit_12 (by decide) ?_
      refine x_goto 17 dX10_isDigit_13 (by decide) ?_
      exact x_zret dX10_isDigit_17 rfl (by decide) (by cases hf; exact hR)
theorem c_X10_isDigit {E : xE} {d : Nat} (hd : 1 ≤ d) (x0 : Int32) (m : xMem) (out : Int32 × xMem) (h : F_X10_isDigit x0 m = some out) : xCi E mX10_isDigit d [.int x0] m out.1 out.2 :=
  x_enter (by decide +kernel) (Nat.le_of_ble_eq_true rfl) (pF_X10_isDigit hd (Q := _) out ⟨rfl, rfl⟩ x0 m h)
-- X10_isSignOf
def J_X10_isSignOf_42 (m : xMem) : Option (Int32 × xMem) :=
  some ((1 : Int32), m)
def F_X10_isSignOf (x0 : Int32) (m : xMem) : Option (Int32 × xMem) :=
  if x0 = (40 : Int32) then (
    J_X10_isSignOf_42 m)
  else (
    if x0 = (41 : Int32) then (
      J_X10_isSignOf_42 m)
    else (
      if x0 = (59 : Int32) then (
        J_X10_isSignOf_42 m)
      else (
        if x0 = (61 : Int32) then (
          J_X10_isSignOf_42 m)
        else (
          if x0 = (60 : Int32) then (
            J_X10_isSignOf_42 m)
          else (
            if x0 = (43 : Int32) then (
              J_X10_isSignOf_42 m)
            else (
              if x0 = (45 : Int32) then (
                J_X10_isSignOf_42 m)
              else (
                some ((0 : Int32), m))))))))
set_option maxHeartbeats 4000000 in
set_option maxRecDepth 100000 in
theorem pJ_X10_isSignOf_42 {E : xE} {d : Nat} {Q : Option Value → xS → Prop} (hd : 1 ≤ d) (out : Int32 × xMem) (hR : Q (some (.int out.1)) (xf E out.2)) (m : xMem) (hf : J_X10_isSignOf_42 m = some out) : xX E mX10_isSignOf d 0 0 0 0 Q 42 [] [] (xf E m) := by
  unfold J_X10_isSignOf_42 at hf
  refine x_iconst (v := 1) dX10_isSignOf_42 (by decide) ?_
  refine x_goto 47 dX10_isSignOf_43 (by decide) ?_
  exact x_zret dX10_isSignOf_47 rfl (by decide) (by cases hf; exact hR)
set_option maxHeartbeats 4000000 in
set_option maxRecDepth 100000 in
theorem pF_X10_isSignOf {E : xE} {d : Nat} {Q : Option Value → xS → Prop} (hd : 1 ≤ d) (out : Int32 × xMem) (hR : Q (some (.int out.1)) (xf E out.2)) (x0 : Int32) (m : xMem) (hf : F_X10_isSignOf x0 m = some out) : xX E mX10_isSignOf d 0 0 0 0 Q 0 [(0, .int (x0))] [] (xf E m) := by
  unfold F_X10_isSignOf at hf
  refine x_iload_n dX10_isSignOf_0 rfl ?_
  refine x_bipush (v := 40) dX10_isSignOf_1 (by decide) ?_
  refine x_icmp_eq 42 dX10_isSignOf_3 (by decide) (fun hc => ?_) (fun hc => ?_)
  · replace hf := x_ift hc hf
    refine x_lv (lv' := []) [] rfl ?_
    exact pJ_X10_isSignOf_42 hd out hR _ hf
  · replace hf := x_iff hc hf
    refine x_iload_n dX10_isSignOf_6 rfl ?_
    refine x_bipush (v := 41) dX10_isSignOf_7 (by decide) ?_
    refine x_icmp_eq 42 dX10_isSignOf_9 (by decide) (fun hc => ?_) (fun hc => ?_)
    · replace hf := x_ift hc hf
      refine x_lv (lv' := []) [] rfl ?_
      exact pJ_X10_isSignOf_42 hd out hR _ hf
    · replace hf := x_iff hc hf
      refine x_iload_n dX10_isSignOf_12 rfl ?_
      refine x_bipush (v := 59) dX10_isSignOf_13 (by decide) ?_
      refine x_icmp_eq 42 dX10_isSignOf_15 (by decide) (fun hc => ?_) (fun hc => ?_)
      · replace hf := x_ift hc hf
        refine x_lv (lv' := []) [] rfl ?_
        exact pJ_X10_isSignOf_42 hd out hR _ hf
      · replace hf := x_iff hc hf
        refine x_iload_n dX10_isSignOf_18 rfl ?_
        refine x_bipush (v := 61) dX10_isSignOf_19 (by decide) ?_
        refine x_icmp_eq 42 dX10_isSignOf_21 (by decide) (fun hc => ?_) (fun hc => ?_)
        · replace hf := x_ift hc hf
          refine x_lv (lv' := []) [] rfl ?_
          exact pJ_X10_isSignOf_42 hd out hR _ hf
        · replace hf := x_iff hc hf
          refine x_iload_n dX10_isSignOf_24 rfl ?_
          refine x_bipush (v := 60) dX10_isSignOf_25 (by decide) ?_
          refine x_icmp_eq 42 dX10_isSignOf_27 (by decide) (fun hc => ?_) (fun hc => ?_)
          · replace hf := x_ift hc hf
            refine x_lv (lv' := []) [] rfl ?_
            exact pJ_X10_isSignOf_42 hd out hR _ hf
          · replace hf := x_iff hc hf
            refine x_iload_n dX10_isSignOf_30 rfl ?_
            refine x_bipush (v := 43) dX10_isSignOf_31 (by decide) ?_
            refine x_icmp_eq 42 dX10_isSignOf_33 (by decide) (fun hc => ?_) (fun hc => ?_)
            · replace hf := x_ift hc hf
              refine x_lv (lv' := []) [] rfl ?_
              exact pJ_X10_isSignOf_42 hd out hR _ hf
            · replace hf := x_iff hc hf
              refine x_iload_n dX10_isSignOf_36 rfl ?_
              refine x_bipush (v := 45) dX10_isSignOf_37 (by decide) ?_
              refine x_icmp_ne 46 dX10_isSignOf_39 (by decide) (fun hc => ?_) (fun hc => ?_)
              · replace hf := x_iff hc hf
                refine x_iconst (v := 0) dX10_isSignOf_46 (by decide) ?_
                exact x_zret dX10_isSignOf_47 rfl (by decide) (by cases hf; exact hR)
              · replace hf := x_ift hc hf
                refine x_lv (lv' := []) [] rfl ?_
                exact pJ_X10_isSignOf_42 hd out hR _ hf
theorem c_X10_isSignOf {E : xE} {d : Nat} (hd : 1 ≤ d) (x0 : Int32) (m : xMem) (out : Int32 × xMem) (h : F_X10_isSignOf x0 m = some out) : xCi E mX10_isSignOf d [.int x0] m out.1 out.2 :=
  x_enter (by decide +kernel) (Nat.le_of_ble_eq_true rfl) (pF_X10_isSignOf hd (Q := _) out ⟨rfl, rfl⟩ x0 m h)
-- X10_rank
def F_X10_rank (x0 : Int32) (m : xMem) : Option (Int32 × xMem) :=
  (F_X10_isLetter (x0) m).bind fun q_1 => (
  if q_1.1 = 0 then (
    some (x0 - (21 : Int32), q_1.2))
  else (
    some (x0 - (96 : Int32), q_1.2)))
set_option maxHeartbeats 4000000 in
set_option maxRecDepth 100000 in
theorem pF_X10_rank {E : xE} {d : Nat} {Q : Option Value → xS → Prop} (hd : 2 ≤ d) (out : Int32 × xMem) (hR : Q (some (.int out.1)) (xf E out.2)) (x0 : Int32) (m : xMem) (hf : F_X10_rank x0 m = some out) : xX E mX10_rank d 0 0 0 0 Q 0 [(0, .int (x0))] [] (xf E m) := by
  unfold F_X10_rank at hf
  refine x_iload_n dX10_rank_0 rfl ?_
  obtain ⟨q_1, hq_1, hf⟩ := Option.bind_eq_some_iff.mp hf
  refine f_cSi mX10_isLetter [.int (x0)] [] dX10_rank_1 cs_RX10_152 w_1094 rfl rfl (Nat.le_of_ble_eq_true rfl) (by omega) (c_X10_isLetter (d := d - 1) (by omega) (x0) m q_1 hq_1) ?_
  refine x_if_eq 14 dX10_rank_4 (by decide) (fun hc => ?_) (fun hc => ?_)
  · replace hf := x_ift hc hf
    refine x_iload_n dX10_rank_14 rfl ?_
    refine x_bipush (v := 21) dX10_rank_15 (by decide) ?_
    refine x_isub dX10_rank_17 ?_
    exact x_iret dX10_rank_18 rfl (by cases hf; exact hR)
  · replace hf := x_iff hc hf
    refine x_iload_n dX10_rank_7 rfl ?_
    refine x_bipush (v := 96) dX10_rank_8 (by decide) ?_
    refine x_isub dX10_rank_10 ?_
    refine x_goto 18 dX10_rank_11 (by decide) ?_
    exact x_iret dX10_rank_18 rfl (by cases hf; exact hR)
theorem c_X10_rank {E : xE} {d : Nat} (hd : 2 ≤ d) (x0 : Int32) (m : xMem) (out : Int32 × xMem) (h : F_X10_rank x0 m = some out) : xCi E mX10_rank d [.int x0] m out.1 out.2 :=
  x_enter (by decide +kernel) (Nat.le_of_ble_eq_true rfl) (pF_X10_rank hd (Q := _) out ⟨rfl, rfl⟩ x0 m h)
-- X10_cutAll
def J_X10_cutAll_44 (rec : Int32 → Int32 → xMem → Option (Int32 × xMem)) (c279 : Int32 → xMem → Option (Int32 × xMem)) (x1 : Int32) (x2 : Int32) (m : xMem) : Option (Int32 × xMem) :=
  rec (x1) (x2 + 1) m
def J_X10_cutAll_265 (rec : Int32 → Int32 → xMem → Option (Int32 × xMem)) (c279 : Int32 → xMem → Option (Int32 × xMem)) (x1 : Int32) (x2 : Int32) (l5 : Int64) (m : xMem) : Option (Int32 × xMem) :=
  if xin x1 602 = true then (
  rec (x1 + 1) (x2) (m.1, xsl m.2 am_value x1.toNatClampNeg l5))
  else none
def J_X10_cutAll_210 (rec : Int32 → Int64 → xMem → Option (Int32 × xMem)) (c218 : Int32 → Int64 → xMem → Option (Int32 × xMem)) (x1 : Int32) (x2 : Int32) (x4 : Int32) (s0 : Int64) (m : xMem) : Option (Int32 × xMem) :=
  rec (x2 + 1) (s0) m
def L_X10_cutAll_159 (x1 : Int32) (x4 : Int32) (c218 : Int32 → Int64 → xMem → Option (Int32 × xMem)) : Nat → Int32 → Int64 → xMem → Option (Int32 × xMem)
  | 0, _, _, _ => none
  | fk + 1, x2, l5, m =>
    if (m.1 am fGuideBookModel_size) ≤ x2 then (
      c218 (x2) (l5) m)
    else (
      if xin x2 600 = true then (
      (F_X10_isDigit (m.1 am_tape x2.toNatClampNeg) m).bind fun q_10 => (
      if q_10.1 = 0 then (
        c218 (x2) (l5) q_10.2)
      else (
        if (4 : Int32) ≤ (x2 - x4) then (
          J_X10_cutAll_210 (fun y_12 y_13 m_14 => L_X10_cutAll_159 x1 x4 c218 fk y_12 y_13 m_14) c218 (x1) (x2) (x4) (l5) q_10.2)
        else (
          if xin x2 600 = true then (
          J_X10_cutAll_210 (fun y_15 y_16 m_17 => L_X10_cutAll_159 x1 x4 c218 fk y_15 y_16 m_17) c218 (x1) (x2) (x4) ((((10 : Int64) * l5) + ((q_10.2.1 am_tape x2.toNatClampNeg).toInt64)) - (48 : Int64)) q_10.2)
          else none))))
      else none)
def J_X10_cutAll_121 (rec : Int32 → Int64 → xMem → Option (Int32 × xMem)) (c129 : Int32 → Int64 → xMem → Option (Int32 × xMem)) (x1 : Int32) (x2 : Int32) (x4 : Int32) (s0 : Int64) (m : xMem) : Option (Int32 × xMem) :=
  rec (x2 + 1) (s0) m
def L_X10_cutAll_70 (x1 : Int32) (x4 : Int32) (c129 : Int32 → Int64 → xMem → Option (Int32 × xMem)) : Nat → Int32 → Int64 → xMem → Option (Int32 × xMem)
  | 0, _, _, _ => none
  | fk + 1, x2, l5, m =>
    if (m.1 am fGuideBookModel_size) ≤ x2 then (
      c129 (x2) (l5) m)
    else (
      if xin x2 600 = true then (
      (F_X10_isLetter (m.1 am_tape x2.toNatClampNeg) m).bind fun q_24 => (
      if q_24.1 = 0 then (
        c129 (x2) (l5) q_24.2)
      else (
        if (8 : Int32) ≤ (x2 - x4) then (
          J_X10_cutAll_121 (fun y_27 y_28 m_29 => L_X10_cutAll_70 x1 x4 c129 fk y_27 y_28 m_29) c129 (x1) (x2) (x4) (l5) q_24.2)
        else (
          if xin x2 600 = true then (
          (F_X10_rank (q_24.2.1 am_tape x2.toNatClampNeg) q_24.2).bind fun q_26 => (
          J_X10_cutAll_121 (fun y_30 y_31 m_32 => L_X10_cutAll_70 x1 x4 c129 fk y_30 y_31 m_32) c129 (x1) (x2) (x4) (((37 : Int64) * l5) + q_26.1.toInt64) q_26.2))
          else none))))
      else none)
def L_X10_cutAll_17 (c279 : Int32 → xMem → Option (Int32 × xMem)) : Nat → Int32 → Int32 → xMem → Option (Int32 × xMem)
  | 0, _, _, _ => none
  | fk + 1, x1, x2, m =>
    if (m.1 am fGuideBookModel_size) ≤ x2 then (
      c279 (x1) m)
    else (
      if xin x2 600 = true then (
      if (m.1 am_tape x2.toNatClampNeg) = (10 : Int32) then (
        J_X10_cutAll_44 (fun y_38 y_39 m_40 => L_X10_cutAll_17 c279 fk y_38 y_39 m_40) c279 (x1) (x2) m)
      else (
        if (m.1 am_tape x2.toNatClampNeg) = (32 : Int32) then (
          J_X10_cutAll_44 (fun y_41 y_42 m_43 => L_X10_cutAll_17 c279 fk y_41 y_42 m_43) c279 (x1) (x2) m)
        else (
          if xin x1 602 = true then (
          (F_X10_isLetter (m.1 am_tape x2.toNatClampNeg) (xst m.1 am_place x1.toNatClampNeg x2, m.2)).bind fun q_3 => (
          if q_3.1 = 0 then (
            (F_X10_isDigit (m.1 am_tape x2.toNatClampNeg) q_3.2).bind fun q_4 => (
            if q_4.1 = 0 then (
              (F_X10_isSignOf (m.1 am_tape x2.toNatClampNeg) q_4.2).bind fun q_5 => (
              if q_5.1 = 0 then (
                if xin x1 602 = true then (
                J_X10_cutAll_265 (fun y_44 y_45 m_46 => L_X10_cutAll_17 c279 fk y_44 y_45 m_46) c279 (x1) (x2 + 1) ((m.1 am_tape x2.toNatClampNeg).toInt64) (xst q_5.2.1 am_sort x1.toNatClampNeg (4 : Int32), q_5.2.2))
                else none)
              else (
                if xin x1 602 = true then (
                J_X10_cutAll_265 (fun y_47 y_48 m_49 => L_X10_cutAll_17 c279 fk y_47 y_48 m_49) c279 (x1) (x2 + 1) ((m.1 am_tape x2.toNatClampNeg).toInt64) (xst q_5.2.1 am_sort x1.toNatClampNeg (3 : Int32), q_5.2.2))
                else none)))
            else (
              L_X10_cutAll_159 (x1) (x2) (fun x2_18 l5_19 m_20 => (
                if (x2_18 - x2) ≤ (4 : Int32) then (
                  if xin x1 602 = true then (
                  J_X10_cutAll_265 (fun y_50 y_51 m_52 => L_X10_cutAll_17 c279 fk y_50 y_51 m_52) c279 (x1) (x2_18) (l5_19) (xst m_20.1 am_sort x1.toNatClampNeg (2 : Int32), m_20.2))
                  else none)
                else (
                  if xin x1 602 = true then (
                  J_X10_cutAll_265 (fun y_53 y_54 m_55 => L_X10_cutAll_17 c279 fk y_53 y_54 m_55) c279 (x1) (x2_18) (l5_19) (xst m_20.1 am_sort x1.toNatClampNeg (4 : Int32), m_20.2))
                  else none))) xfuel (x2) ((0 : Int64)) q_4.2)))
          else (
            L_X10_cutAll_70 (x1) (x2) (fun x2_33 l5_34 m_35 => (
              if (x2_33 - x2) ≤ (8 : Int32) then (
                if xin x1 602 = true then (
                J_X10_cutAll_265 (fun y_56 y_57 m_58 => L_X10_cutAll_17 c279 fk y_56 y_57 m_58) c279 (x1) (x2_33) (l5_34) (xst m_35.1 am_sort x1.toNatClampNeg (1 : Int32), m_35.2))
                else none)
              else (
                if xin x1 602 = true then (
                J_X10_cutAll_265 (fun y_59 y_60 m_61 => L_X10_cutAll_17 c279 fk y_59 y_60 m_61) c279 (x1) (x2_33) (l5_34) (xst m_35.1 am_sort x1.toNatClampNeg (4 : Int32), m_35.2))
                else none))) xfuel (x2) ((0 : Int64)) q_3.2)))
          else none)))
      else none)
def F_X10_cutAll (m : xMem) : Option (Int32 × xMem) :=
  L_X10_cutAll_17 (fun x1_62 m_63 => (
    if xin x1_62 602 = true then (
    if xin x1_62 602 = true then (
    some (0, (xst (xst (xst (xst m_63.1 am_sort x1_62.toNatClampNeg (0 : Int32)) am_place x1_62.toNatClampNeg ((xst m_63.1 am_sort x1_62.toNatClampNeg (0 : Int32)) am fGuideBookModel_size)) am fGuideBookModel_at (0 : Int32)) am fGuideBookModel_fault (0 : Int32), m_63.2)))
    else none)
    else none)) xfuel ((0 : Int32)) ((0 : Int32)) (xst (xst m.1 am fGuideBookModel_size (m.1 am fGuideBookModel_taped)) am fGuideBookModel_taped (0 : Int32), m.2)
set_option maxHeartbeats 4000000 in
set_option maxRecDepth 100000 in
theorem pJ_X10_cutAll_44 {E : xE} {d : Nat} {Q : Option Value → xS → Prop} (hd : 3 ≤ d) (out : Int32 × xMem) (hR : Q none (xf E out.2)) (rec : Int32 → Int32 → xMem → Option (Int32 × xMem)) (c279 : Int32 → xMem → Option (Int32 × xMem)) (x1 : Int32) (x2 : Int32) (hrec : ∀ (x1 : Int32) (x2 : Int32) (m : xMem), rec x1 x2 m = some out → xX E mX10_cutAll d 0 0 0 0 Q 17 [(0, .ref (xB E + 87)), (1, .int (x1)), (2, .int (x2))] [] (xf E m)) (hc279 : ∀ (x1 : Int32) (m : xMem), c279 x1 m = some out → xX E mX10_cutAll d 0 0 0 0 Q 279 [(0, .ref (xB E + 87)), (1, .int (x1))] [] (xf E m)) (m : xMem) (hf : J_X10_cutAll_44 rec c279 x1 x2 m = some out) : xX E mX10_cutAll d 0 0 0 0 Q 44 [(0, .ref (xB E + 87)), (1, .int (x1)), (2, .int (x2))] [] (xf E m) := by
  unfold J_X10_cutAll_44 at hf
  refine x_iinc (v := x2 + 1) (lv' := [(0, .ref (xB E + 87)), (1, .int (x1)), (2, .int (x2 + 1))]) dX10_cutAll_44 2 [1, 2, 0] rfl rfl (by decide) rfl ?_
  refine x_goto 17 dX10_cutAll_47 (by decide) ?_
  exact hrec _ _ _ hf
set_option maxHeartbeats 4000000 in
set_option maxRecDepth 100000 in
theorem pJ_X10_cutAll_265 {E : xE} {d : Nat} {Q : Option Value → xS → Prop} (hd : 3 ≤ d) (out : Int32 × xMem) (hR : Q none (xf E out.2)) (rec : Int32 → Int32 → xMem → Option (Int32 × xMem)) (c279 : Int32 → xMem → Option (Int32 × xMem)) (x1 : Int32) (x2 : Int32) (l5 : Int64) (hrec : ∀ (x1 : Int32) (x2 : Int32) (m : xMem), rec x1 x2 m = some out → xX E mX10_cutAll d 0 0 0 0 Q 17 [(0, .ref (xB E + 87)), (1, .int (x1)), (2, .int (x2))] [] (xf E m)) (hc279 : ∀ (x1 : Int32) (m : xMem), c279 x1 m = some out → xX E mX10_cutAll d 0 0 0 0 Q 279 [(0, .ref (xB E + 87)), (1, .int (x1))] [] (xf E m)) (m : xMem) (hf : J_X10_cutAll_265 rec c279 x1 x2 l5 m = some out) : xX E mX10_cutAll d 0 0 0 0 Q 265 [(0, .ref (xB E + 87)), (1, .int (x1)), (2, .int (x2)), (5, .long (l5))] [] (xf E m) := by
  unfold J_X10_cutAll_265 at hf
  refine x_aload_n dX10_cutAll_265 rfl ?_
  refine f_getR (b := 91) dX10_cutAll_266 xcl_10 (by decide) fl_RX10_30 (by decide) sh_87 rfl ?_
  refine x_iload_n dX10_cutAll_269 rfl ?_
  refine x_lload dX10_cutAll_270 rfl ?_
  have hg_7 := x_gd hf
  replace hf := hg_7.2
  refine f_last dX10_cutAll_272 (by decide) sh_91 hg_7.1 ?_
  refine x_iinc (v := x1 + 1) (lv' := [(0, .ref (xB E + 87)), (1, .int (x1 + 1)), (2, .int (x2))]) dX10_cutAll_273 1 [1, 0, 2] rfl rfl (by decide) rfl ?_
  refine x_goto 17 dX10_cutAll_276 (by decide) ?_
  exact hrec _ _ _ hf
set_option maxHeartbeats 4000000 in
set_option maxRecDepth 100000 in
theorem pJ_X10_cutAll_210 {E : xE} {d : Nat} {Q : Option Value → xS → Prop} (hd : 3 ≤ d) (out : Int32 × xMem) (hR : Q none (xf E out.2)) (rec : Int32 → Int64 → xMem → Option (Int32 × xMem)) (c218 : Int32 → Int64 → xMem → Option (Int32 × xMem)) (x1 : Int32) (x2 : Int32) (x4 : Int32) (s0 : Int64) (hrec : ∀ (x2 : Int32) (l5 : Int64) (m : xMem), rec x2 l5 m = some out → xX E mX10_cutAll d 0 0 0 0 Q 159 [(0, .ref (xB E + 87)), (1, .int (x1)), (2, .int (x2)), (4, .int (x4)), (5, .long (l5))] [] (xf E m)) (hc218 : ∀ (x2 : Int32) (l5 : Int64) (m : xMem), c218 x2 l5 m = some out → xX E mX10_cutAll d 0 0 0 0 Q 218 [(0, .ref (xB E + 87)), (1, .int (x1)), (2, .int (x2)), (4, .int (x4)), (5, .long (l5))] [] (xf E m)) (m : xMem) (hf : J_X10_cutAll_210 rec c218 x1 x2 x4 s0 m = some out) : xX E mX10_cutAll d 0 0 0 0 Q 210 [(0, .ref (xB E + 87)), (1, .int (x1)), (2, .int (x2)), (4, .int (x4))] [.long (s0)] (xf E m) := by
  unfold J_X10_cutAll_210 at hf
  refine x_lstore (lv' := [(0, .ref (xB E + 87)), (1, .int (x1)), (2, .int (x2)), (4, .int (x4)), (5, .long (s0))]) dX10_cutAll_210 [1, 2, 3, 4, 0] (by decide) rfl ?_
  refine x_iinc (v := x2 + 1) (lv' := [(0, .ref (xB E + 87)), (1, .int (x1)), (2, .int (x2 + 1)), (4, .int (x4)), (5, .long (s0))]) dX10_cutAll_212 2 [1, 2, 0, 3, 4] rfl rfl (by decide) rfl ?_
  refine x_goto 159 dX10_cutAll_215 (by decide) ?_
  exact hrec _ _ _ hf
set_option maxHeartbeats 4000000 in
set_option maxRecDepth 100000 in
theorem pL_X10_cutAll_159 {E : xE} {d : Nat} {Q : Option Value → xS → Prop} (hd : 3 ≤ d) (out : Int32 × xMem) (hR : Q none (xf E out.2)) (x1 : Int32) (x4 : Int32) (c218 : Int32 → Int64 → xMem → Option (Int32 × xMem)) (hc218 : ∀ (x2 : Int32) (l5 : Int64) (m : xMem), c218 x2 l5 m = some out → xX E mX10_cutAll d 0 0 0 0 Q 218 [(0, .ref (xB E + 87)), (1, .int (x1)), (2, .int (x2)), (4, .int (x4)), (5, .long (l5))] [] (xf E m)) : ∀ (fk : Nat) (x2 : Int32) (l5 : Int64) (m : xMem), L_X10_cutAll_159 x1 x4 c218 fk x2 l5 m = some out → xX E mX10_cutAll d 0 0 0 0 Q 159 [(0, .ref (xB E + 87)), (1, .int (x1)), (2, .int (x2)), (4, .int (x4)), (5, .long (l5))] [] (xf E m) := by
  intro fk
  induction fk with
  | zero => intro x2 l5 m hf; cases hf
  | succ fk ih =>
    intro x2 l5 m hf
    rw [L_X10_cutAll_159] at hf
    refine x_iload_n dX10_cutAll_159 rfl ?_
    refine x_aload_n dX10_cutAll_160 rfl ?_
    refine f_getI dX10_cutAll_161 xcl_10 (by decide) fl_RX10_156 (by decide) sh_87 rfl ?_
    refine x_icmp_ge 218 dX10_cutAll_164 (by decide) (fun hc => ?_) (fun hc => ?_)
    · replace hf := x_ift hc hf
      exact hc218 _ _ _ hf
    · replace hf := x_iff hc hf
      refine x_aload_n dX10_cutAll_167 rfl ?_
      refine f_getR (b := 88) dX10_cutAll_168 xcl_10 (by decide) fl_RX10_14 (by decide) sh_87 rfl ?_
      refine x_iload_n dX10_cutAll_171 rfl ?_
      have hg_9 := x_gd hf
      replace hf := hg_9.2
      refine f_iald dX10_cutAll_172 (by decide) sh_88 hg_9.1 ?_
      obtain ⟨q_10, hq_10, hf⟩ := Option.bind_eq_some_iff.mp hf
      refine f_cSi mX10_isDigit [.int (m.1 am_tape x2.toNatClampNeg)] [] dX10_cutAll_173 cs_RX10_165 w_1101 rfl rfl (Nat.le_of_ble_eq_true rfl) (by omega) (c_X10_isDigit (d := d - 1) (by omega) (m.1 am_tape x2.toNatClampNeg) m q_10 hq_10) ?_
      refine x_if_eq 218 dX10_cutAll_176 (by decide) (fun hc => ?_) (fun hc => ?_)
      · replace hf := x_ift hc hf
        exact hc218 _ _ _ hf
      · replace hf := x_iff hc hf
        refine x_iload_n dX10_cutAll_179 rfl ?_
        refine x_iload dX10_cutAll_180 rfl ?_
        refine x_isub dX10_cutAll_182 ?_
        refine x_iconst (v := 4) dX10_cutAll_183 (by decide) ?_
        refine x_icmp_ge 208 dX10_cutAll_184 (by decide) (fun hc => ?_) (fun hc => ?_)
        · replace hf := x_ift hc hf
          refine x_lload dX10_cutAll_208 rfl ?_
          refine x_lv (lv' := [(0, .ref (xB E + 87)), (1, .int (x1)), (2, .int (x2)), (4, .int (x4))]) [0, 1, 2, 3] rfl ?_
          exact pJ_X10_cutAll_210 hd out hR _ _ _ _ _ _ (fun y0 y1 m9 h9 => ih y0 y1 m9 h9) hc218 _ hf
        · replace hf := x_iff hc hf
          refine x_ldc2 (v := 10) dX10_cutAll_187 w_1103 ?_
          refine x_lload dX10_cutAll_190 rfl ?_
          refine x_lmul dX10_cutAll_192 ?_
          refine x_aload_n dX10_cutAll_193 rfl ?_
          refine f_getR (b := 88) dX10_cutAll_194 xcl_10 (by decide) fl_RX10_14 (by decide) sh_87 rfl ?_
          refine x_iload_n dX10_cutAll_197 rfl ?_
          have hg_11 := x_gd hf
          replace hf := hg_11.2
          refine f_iald dX10_cutAll_198 (by decide) sh_88 hg_11.1 ?_
          refine x_i2l dX10_cutAll_199 ?_
          refine x_ladd dX10_cutAll_200 ?_
          refine x_ldc2 (v := 48) dX10_cutAll_201 w_1104 ?_
          refine x_lsub dX10_cutAll_204 ?_
          refine x_goto 210 dX10_cutAll_205 (by decide) ?_
          refine x_lv (lv' := [(0, .ref (xB E + 87)), (1, .int (x1)), (2, .int (x2)), (4, .int (x4))]) [0, 1, 2, 3] rfl ?_
          exact pJ_X10_cutAll_210 hd out hR _ _ _ _ _ _ (fun y0 y1 m9 h9 => ih y0 y1 m9 h9) hc218 _ hf
set_option maxHeartbeats 4000000 in
set_option maxRecDepth 100000 in
theorem pJ_X10_cutAll_121 {E : xE} {d : Nat} {Q : Option Value → xS → Prop} (hd : 3 ≤ d) (out : Int32 × xMem) (hR : Q none (xf E out.2)) (rec : Int32 → Int64 → xMem → Option (Int32 × xMem)) (c129 : Int32 → Int64 → xMem → Option (Int32 × xMem)) (x1 : Int32) (x2 : Int32) (x4 : Int32) (s0 : Int64) (hrec : ∀ (x2 : Int32) (l5 : Int64) (m : xMem), rec x2 l5 m = some out → xX E mX10_cutAll d 0 0 0 0 Q 70 [(0, .ref (xB E + 87)), (1, .int (x1)), (2, .int (x2)), (4, .int (x4)), (5, .long (l5))] [] (xf E m)) (hc129 : ∀ (x2 : Int32) (l5 : Int64) (m : xMem), c129 x2 l5 m = some out → xX E mX10_cutAll d 0 0 0 0 Q 129 [(0, .ref (xB E + 87)), (1, .int (x1)), (2, .int (x2)), (4, .int (x4)), (5, .long (l5))] [] (xf E m)) (m : xMem) (hf : J_X10_cutAll_121 rec c129 x1 x2 x4 s0 m = some out) : xX E mX10_cutAll d 0 0 0 0 Q 121 [(0, .ref (xB E + 87)), (1, .int (x1)), (2, .int (x2)), (4, .int (x4))] [.long (s0)] (xf E m) := by
  unfold J_X10_cutAll_121 at hf
  refine x_lstore (lv' := [(0, .ref (xB E + 87)), (1, .int (x1)), (2, .int (x2)), (4, .int (x4)), (5, .long (s0))]) dX10_cutAll_121 [1, 2, 3, 4, 0] (by decide) rfl ?_
  refine x_iinc (v := x2 + 1) (lv' := [(0, .ref (xB E + 87)), (1, .int (x1)), (2, .int (x2 + 1)), (4, .int (x4)), (5, .long (s0))]) dX10_cutAll_123 2 [1, 2, 0, 3, 4] rfl rfl (by decide) rfl ?_
  refine x_goto 70 dX10_cutAll_126 (by decide) ?_
  exact hrec _ _ _ hf
set_option maxHeartbeats 4000000 in
set_option maxRecDepth 100000 in
theorem pL_X10_cutAll_70 {E : xE} {d : Nat} {Q : Option Value → xS → Prop} (hd : 3 ≤ d) (out : Int32 × xMem) (hR : Q none (xf E out.2)) (x1 : Int32) (x4 : Int32) (c129 : Int32 → Int64 → xMem → Option (Int32 × xMem)) (hc129 : ∀ (x2 : Int32) (l5 : Int64) (m : xMem), c129 x2 l5 m = some out → xX E mX10_cutAll d 0 0 0 0 Q 129 [(0, .ref (xB E + 87)), (1, .int (x1)), (2, .int (x2)), (4, .int (x4)), (5, .long (l5))] [] (xf E m)) : ∀ (fk : Nat) (x2 : Int32) (l5 : Int64) (m : xMem), L_X10_cutAll_70 x1 x4 c129 fk x2 l5 m = some out → xX E mX10_cutAll d 0 0 0 0 Q 70 [(0, .ref (xB E + 87)), (1, .int (x1)), (2, .int (x2)), (4, .int (x4)), (5, .long (l5))] [] (xf E m) := by
  intro fk
  induction fk with
  | zero => intro x2 l5 m hf; cases hf
  | succ fk ih =>
    intro x2 l5 m hf
    rw [L_X10_cutAll_70] at hf
    refine x_iload_n dX10_cutAll_70 rfl ?_
    refine x_aload_n dX10_cutAll_71 rfl ?_
    refine f_getI dX10_cutAll_72 xcl_10 (by decide) fl_RX10_156 (by decide) sh_87 rfl ?_
    refine x_icmp_ge 129 dX10_cutAll_75 (by decide) (fun hc => ?_) (fun hc => ?_)
    · replace hf := x_ift hc hf
      exact hc129 _ _ _ hf
    · replace hf := x_iff hc hf
      refine x_aload_n dX10_cutAll_78 rfl ?_
      refine f_getR (b := 88) dX10_cutAll_79 xcl_10 (by decide) fl_RX10_14 (by decide) sh_87 rfl ?_
      refine x_iload_n dX10_cutAll_82 rfl ?_
      have hg_23 := x_gd hf
      replace hf := hg_23.2
      refine f_iald dX10_cutAll_83 (by decide) sh_88 hg_23.1 ?_
      obtain ⟨q_24, hq_24, hf⟩ := Option.bind_eq_some_iff.mp hf
      refine f_cSi mX10_isLetter [.int (m.1 am_tape x2.toNatClampNeg)] [] dX10_cutAll_84 cs_RX10_152 w_1094 rfl rfl (Nat.le_of_ble_eq_true rfl) (by omega) (c_X10_isLetter (d := d - 1) (by omega) (m.1 am_tape x2.toNatClampNeg) m q_24 hq_24) ?_
      refine x_if_eq 129 dX10_cutAll_87 (by decide) (fun hc => ?_) (fun hc => ?_)
      · replace hf := x_ift hc hf
        exact hc129 _ _ _ hf
      · replace hf := x_iff hc hf
        refine x_iload_n dX10_cutAll_90 rfl ?_
        refine x_iload dX10_cutAll_91 rfl ?_
        refine x_isub dX10_cutAll_93 ?_
        refine x_bipush (v := 8) dX10_cutAll_94 (by decide) ?_
        refine x_icmp_ge 119 dX10_cutAll_96 (by decide) (fun hc => ?_) (fun hc => ?_)
        · replace hf := x_ift hc hf
          refine x_lload dX10_cutAll_119 rfl ?_
          refine x_lv (lv' := [(0, .ref (xB E + 87)), (1, .int (x1)), (2, .int (x2)), (4, .int (x4))]) [0, 1, 2, 3] rfl ?_
          exact pJ_X10_cutAll_121 hd out hR _ _ _ _ _ _ (fun y0 y1 m9 h9 => ih y0 y1 m9 h9) hc129 _ hf
        · replace hf := x_iff hc hf
          refine x_ldc2 (v := 37) dX10_cutAll_99 w_1096 ?_
          refine x_lload dX10_cutAll_102 rfl ?_
          refine x_lmul dX10_cutAll_104 ?_
          refine x_aload_n dX10_cutAll_105 rfl ?_
          refine f_getR (b := 88) dX10_cutAll_106 xcl_10 (by decide) fl_RX10_14 (by decide) sh_87 rfl ?_
          refine x_iload_n dX10_cutAll_109 rfl ?_
          have hg_25 := x_gd hf
          replace hf := hg_25.2
          refine f_iald dX10_cutAll_110 (by decide) sh_88 hg_25.1 ?_
          obtain ⟨q_26, hq_26, hf⟩ := Option.bind_eq_some_iff.mp hf
          refine f_cSi mX10_rank [.int (q_24.2.1 am_tape x2.toNatClampNeg)] [.long ((37 : Int64) * l5)] dX10_cutAll_111 cs_RX10_161 w_1098 rfl rfl (Nat.le_of_ble_eq_true rfl) (by omega) (c_X10_rank (d := d - 1) (by omega) (q_24.2.1 am_tape x2.toNatClampNeg) q_24.2 q_26 hq_26) ?_
          refine x_i2l dX10_cutAll_114 ?_
          refine x_ladd dX10_cutAll_115 ?_
          refine x_goto 121 dX10_cutAll_116 (by decide) ?_
          refine x_lv (lv' := [(0, .ref (xB E + 87)), (1, .int (x1)), (2, .int (x2)), (4, .int (x4))]) [0, 1, 2, 3] rfl ?_
          exact pJ_X10_cutAll_121 hd out hR _ _ _ _ _ _ (fun y0 y1 m9 h9 => ih y0 y1 m9 h9) hc129 _ hf
set_option maxHeartbeats 4000000 in
set_option maxRecDepth 100000 in
theorem pL_X10_cutAll_17 {E : xE} {d : Nat} {Q : Option Value → xS → Prop} (hd : 3 ≤ d) (out : Int32 × xMem) (hR : Q none (xf E out.2)) (c279 : Int32 → xMem → Option (Int32 × xMem)) (hc279 : ∀ (x1 : Int32) (m : xMem), c279 x1 m = some out → xX E mX10_cutAll d 0 0 0 0 Q 279 [(0, .ref (xB E + 87)), (1, .int (x1))] [] (xf E m)) : ∀ (fk : Nat) (x1 : Int32) (x2 : Int32) (m : xMem), L_X10_cutAll_17 c279 fk x1 x2 m = some out → xX E mX10_cutAll d 0 0 0 0 Q 17 [(0, .ref (xB E + 87)), (1, .int (x1)), (2, .int (x2))] [] (xf E m) := by
  intro fk
  induction fk with
  | zero => intro x1 x2 m hf; cases hf
  | succ fk ih =>
    intro x1 x2 m hf
    rw [L_X10_cutAll_17] at hf
    refine x_iload_n dX10_cutAll_17 rfl ?_
    refine x_aload_n dX10_cutAll_18 rfl ?_
    refine f_getI dX10_cutAll_19 xcl_10 (by decide) fl_RX10_156 (by decide) sh_87 rfl ?_
    refine x_icmp_ge 279 dX10_cutAll_22 (by decide) (fun hc => ?_) (fun hc => ?_)
    · replace hf := x_ift hc hf
      refine x_lv (lv' := [(0, .ref (xB E + 87)), (1, .int (x1))]) [0, 1] rfl ?_
      exact hc279 _ _ hf
    · replace hf := x_iff hc hf
      refine x_aload_n dX10_cutAll_25 rfl ?_
      refine f_getR (b := 88) dX10_cutAll_26 xcl_10 (by decide) fl_RX10_14 (by decide) sh_87 rfl ?_
      refine x_iload_n dX10_cutAll_29 rfl ?_
      have hg_1 := x_gd hf
      replace hf := hg_1.2
      refine f_iald dX10_cutAll_30 (by decide) sh_88 hg_1.1 ?_
      refine x_istore_n (lv' := [(0, .ref (xB E + 87)), (1, .int (x1)), (2, .int (x2)), (3, .int (m.1 am_tape x2.toNatClampNeg))]) dX10_cutAll_31 [1, 2, 3, 0] (by decide) rfl ?_
      refine x_iload_n dX10_cutAll_32 rfl ?_
      refine x_bipush (v := 10) dX10_cutAll_33 (by decide) ?_
      refine x_icmp_eq 44 dX10_cutAll_35 (by decide) (fun hc => ?_) (fun hc => ?_)
      · replace hf := x_ift hc hf
        refine x_lv (lv' := [(0, .ref (xB E + 87)), (1, .int (x1)), (2, .int (x2))]) [0, 1, 2] rfl ?_
        exact pJ_X10_cutAll_44 hd out hR _ _ _ _ (fun y0 y1 m9 h9 => ih y0 y1 m9 h9) hc279 _ hf
      · replace hf := x_iff hc hf
        refine x_iload_n dX10_cutAll_38 rfl ?_
        refine x_bipush (v := 32) dX10_cutAll_39 (by decide) ?_
        refine x_icmp_ne 50 dX10_cutAll_41 (by decide) (fun hc => ?_) (fun hc => ?_)
        · replace hf := x_iff hc hf
          refine x_iload_n dX10_cutAll_50 rfl ?_
          refine x_istore (lv' := [(0, .ref (xB E + 87)), (1, .int (x1)), (2, .int (x2)), (3, .int (m.1 am_tape x2.toNatClampNeg)), (4, .int (x2))]) dX10_cutAll_51 [1, 2, 3, 4, 0] (by decide) rfl ?_
          refine x_lconst (v := 0) dX10_cutAll_53 (by decide) ?_
          refine x_lstore (lv' := [(0, .ref (xB E + 87)), (1, .int (x1)), (2, .int (x2)), (3, .int (m.1 am_tape x2.toNatClampNeg)), (4, .int (x2)), (5, .long ((0 : Int64)))]) dX10_cutAll_54 [1, 2, 3, 4, 5, 0] (by decide) rfl ?_
          refine x_aload_n dX10_cutAll_56 rfl ?_
          refine f_getR (b := 90) dX10_cutAll_57 xcl_10 (by decide) fl_RX10_27 (by decide) sh_87 rfl ?_
          refine x_iload_n dX10_cutAll_60 rfl ?_
          refine x_iload_n dX10_cutAll_61 rfl ?_
          have hg_2 := x_gd hf
          replace hf := hg_2.2
          refine f_iast dX10_cutAll_62 (by decide) sh_90 hg_2.1 ?_
          refine x_iload_n dX10_cutAll_63 rfl ?_
          obtain ⟨q_3, hq_3, hf⟩ := Option.bind_eq_some_iff.mp hf
          refine f_cSi mX10_isLetter [.int (m.1 am_tape x2.toNatClampNeg)] [] dX10_cutAll_64 cs_RX10_152 w_1094 rfl rfl (Nat.le_of_ble_eq_true rfl) (by omega) (c_X10_isLetter (d := d - 1) (by omega) (m.1 am_tape x2.toNatClampNeg) (xst m.1 am_place x1.toNatClampNeg x2, m.2) q_3 hq_3) ?_
          refine x_if_eq 152 dX10_cutAll_67 (by decide) (fun hc => ?_) (fun hc => ?_)
          · replace hf := x_ift hc hf
            refine x_iload_n dX10_cutAll_152 rfl ?_
            obtain ⟨q_4, hq_4, hf⟩ := Option.bind_eq_some_iff.mp hf
            refine f_cSi mX10_isDigit [.int (m.1 am_tape x2.toNatClampNeg)] [] dX10_cutAll_153 cs_RX10_165 w_1101 rfl rfl (Nat.le_of_ble_eq_true rfl) (by omega) (c_X10_isDigit (d := d - 1) (by omega) (m.1 am_tape x2.toNatClampNeg) q_3.2 q_4 hq_4) ?_
            refine x_if_eq 240 dX10_cutAll_156 (by decide) (fun hc => ?_) (fun hc => ?_)
            · replace hf := x_ift hc hf
              refine x_iload_n dX10_cutAll_240 rfl ?_
              refine x_i2l dX10_cutAll_241 ?_
              refine x_lstore (lv' := [(0, .ref (xB E + 87)), (1, .int (x1)), (2, .int (x2)), (3, .int (m.1 am_tape x2.toNatClampNeg)), (5, .long ((m.1 am_tape x2.toNatClampNeg).toInt64))]) dX10_cutAll_242 [1, 2, 3, 4, 0] (by decide) rfl ?_
              refine x_aload_n dX10_cutAll_244 rfl ?_
              refine f_getR (b := 89) dX10_cutAll_245 xcl_10 (by decide) fl_RX10_24 (by decide) sh_87 rfl ?_
              refine x_iload_n dX10_cutAll_248 rfl ?_
              refine x_iload_n dX10_cutAll_249 rfl ?_
              obtain ⟨q_5, hq_5, hf⟩ := Option.bind_eq_some_iff.mp hf
              refine f_cSi mX10_isSignOf [.int (m.1 am_tape x2.toNatClampNeg)] [.int (x1), .ref (xB E + 89)] dX10_cutAll_250 cs_RX10_172 w_1106 rfl rfl (Nat.le_of_ble_eq_true rfl) (by omega) (c_X10_isSignOf (d := d - 1) (by omega) (m.1 am_tape x2.toNatClampNeg) q_4.2 q_5 hq_5) ?_
              refine x_if_eq 260 dX10_cutAll_253 (by decide) (fun hc => ?_) (fun hc => ?_)
              · replace hf := x_ift hc hf
                refine x_iconst (v := 4) dX10_cutAll_260 (by decide) ?_
                have hg_6 := x_gd hf
                replace hf := hg_6.2
                refine f_iast dX10_cutAll_261 (by decide) sh_89 hg_6.1 ?_
                refine x_iinc (v := x2 + 1) (lv' := [(0, .ref (xB E + 87)), (1, .int (x1)), (2, .int (x2 + 1)), (5, .long ((m.1 am_tape x2.toNatClampNeg).toInt64))]) dX10_cutAll_262 2 [1, 2, 0, 4] rfl rfl (by decide) rfl ?_
                exact pJ_X10_cutAll_265 hd out hR _ _ _ _ _ (fun y0 y1 m9 h9 => ih y0 y1 m9 h9) hc279 _ hf
              · replace hf := x_iff hc hf
                refine x_iconst (v := 3) dX10_cutAll_256 (by decide) ?_
                refine x_goto 261 dX10_cutAll_257 (by decide) ?_
                have hg_8 := x_gd hf
                replace hf := hg_8.2
                refine f_iast dX10_cutAll_261 (by decide) sh_89 hg_8.1 ?_
                refine x_iinc (v := x2 + 1) (lv' := [(0, .ref (xB E + 87)), (1, .int (x1)), (2, .int (x2 + 1)), (5, .long ((m.1 am_tape x2.toNatClampNeg).toInt64))]) dX10_cutAll_262 2 [1, 2, 0, 4] rfl rfl (by decide) rfl ?_
                exact pJ_X10_cutAll_265 hd out hR _ _ _ _ _ (fun y0 y1 m9 h9 => ih y0 y1 m9 h9) hc279 _ hf
            · replace hf := x_iff hc hf
              refine x_lv (lv' := [(0, .ref (xB E + 87)), (1, .int (x1)), (2, .int (x2)), (4, .int (x2)), (5, .long ((0 : Int64)))]) [0, 1, 2, 4, 5] rfl ?_
              refine pL_X10_cutAll_159 hd out hR _ _ _ (fun x2_18 l5_19 m_20 hf => ?_) xfuel _ _ _ hf
              refine x_aload_n dX10_cutAll_218 rfl ?_
              refine f_getR (b := 89) dX10_cutAll_219 xcl_10 (by decide) fl_RX10_24 (by decide) sh_87 rfl ?_
              refine x_iload_n dX10_cutAll_222 rfl ?_
              refine x_iload_n dX10_cutAll_223 rfl ?_
              refine x_iload dX10_cutAll_224 rfl ?_
              refine x_isub dX10_cutAll_226 ?_
              refine x_iconst (v := 4) dX10_cutAll_227 (by decide) ?_
              refine x_icmp_le 235 dX10_cutAll_228 (by decide) (fun hc => ?_) (fun hc => ?_)
              · replace hf := x_ift hc hf
                refine x_iconst (v := 2) dX10_cutAll_235 (by decide) ?_
                have hg_21 := x_gd hf
                replace hf := hg_21.2
                refine f_iast dX10_cutAll_236 (by decide) sh_89 hg_21.1 ?_
                refine x_goto 265 dX10_cutAll_237 (by decide) ?_
                refine x_lv (lv' := [(0, .ref (xB E + 87)), (1, .int (x1)), (2, .int (x2_18)), (5, .long (l5_19))]) [0, 1, 2, 4] rfl ?_
                exact pJ_X10_cutAll_265 hd out hR _ _ _ _ _ (fun y0 y1 m9 h9 => ih y0 y1 m9 h9) hc279 _ hf
              · replace hf := x_iff hc hf
                refine x_iconst (v := 4) dX10_cutAll_231 (by decide) ?_
                refine x_goto 236 dX10_cutAll_232 (by decide) ?_
                have hg_22 := x_gd hf
                replace hf := hg_22.2
                refine f_iast dX10_cutAll_236 (by decide) sh_89 hg_22.1 ?_
                refine x_goto 265 dX10_cutAll_237 (by decide) ?_
                refine x_lv (lv' := [(0, .ref (xB E + 87)), (1, .int (x1)), (2, .int (x2_18)), (5, .long (l5_19))]) [0, 1, 2, 4] rfl ?_
                exact pJ_X10_cutAll_265 hd out hR _ _ _ _ _ (fun y0 y1 m9 h9 => ih y0 y1 m9 h9) hc279 _ hf
          · replace hf := x_iff hc hf
            refine x_lv (lv' := [(0, .ref (xB E + 87)), (1, .int (x1)), (2, .int (x2)), (4, .int (x2)), (5, .long ((0 : Int64)))]) [0, 1, 2, 4, 5] rfl ?_
            refine pL_X10_cutAll_70 hd out hR _ _ _ (fun x2_33 l5_34 m_35 hf => ?_) xfuel _ _ _ hf
            refine x_aload_n dX10_cutAll_129 rfl ?_
            refine f_getR (b := 89) dX10_cutAll_130 xcl_10 (by decide) fl_RX10_24 (by decide) sh_87 rfl ?_
            refine x_iload_n dX10_cutAll_133 rfl ?_
            refine x_iload_n dX10_cutAll_134 rfl ?_
            refine x_iload dX10_cutAll_135 rfl ?_
            refine x_isub dX10_cutAll_137 ?_
            refine x_bipush (v := 8) dX10_cutAll_138 (by decide) ?_
            refine x_icmp_le 147 dX10_cutAll_140 (by decide) (fun hc => ?_) (fun hc => ?_)
            · replace hf := x_ift hc hf
              refine x_iconst (v := 1) dX10_cutAll_147 (by decide) ?_
              have hg_36 := x_gd hf
              replace hf := hg_36.2
              refine f_iast dX10_cutAll_148 (by decide) sh_89 hg_36.1 ?_
              refine x_goto 265 dX10_cutAll_149 (by decide) ?_
              refine x_lv (lv' := [(0, .ref (xB E + 87)), (1, .int (x1)), (2, .int (x2_33)), (5, .long (l5_34))]) [0, 1, 2, 4] rfl ?_
              exact pJ_X10_cutAll_265 hd out hR _ _ _ _ _ (fun y0 y1 m9 h9 => ih y0 y1 m9 h9) hc279 _ hf
            · replace hf := x_iff hc hf
              refine x_iconst (v := 4) dX10_cutAll_143 (by decide) ?_
              refine x_goto 148 dX10_cutAll_144 (by decide) ?_
              have hg_37 := x_gd hf
              replace hf := hg_37.2
              refine f_iast dX10_cutAll_148 (by decide) sh_89 hg_37.1 ?_
              refine x_goto 265 dX10_cutAll_149 (by decide) ?_
              refine x_lv (lv' := [(0, .ref (xB E + 87)), (1, .int (x1)), (2, .int (x2_33)), (5, .long (l5_34))]) [0, 1, 2, 4] rfl ?_
              exact pJ_X10_cutAll_265 hd out hR _ _ _ _ _ (fun y0 y1 m9 h9 => ih y0 y1 m9 h9) hc279 _ hf
        · replace hf := x_ift hc hf
          refine x_lv (lv' := [(0, .ref (xB E + 87)), (1, .int (x1)), (2, .int (x2))]) [0, 1, 2] rfl ?_
          exact pJ_X10_cutAll_44 hd out hR _ _ _ _ (fun y0 y1 m9 h9 => ih y0 y1 m9 h9) hc279 _ hf
set_option maxHeartbeats 4000000 in
set_option maxRecDepth 100000 in
theorem pF_X10_cutAll {E : xE} {d : Nat} {Q : Option Value → xS → Prop} (hd : 3 ≤ d) (out : Int32 × xMem) (hR : Q none (xf E out.2)) (m : xMem) (hf : F_X10_cutAll m = some out) : xX E mX10_cutAll d 0 0 0 0 Q 0 [(0, .ref (xB E + 87))] [] (xf E m) := by
  unfold F_X10_cutAll at hf
  refine x_aload_n dX10_cutAll_0 rfl ?_
  refine x_aload_n dX10_cutAll_1 rfl ?_
  refine f_getI dX10_cutAll_2 xcl_10 (by decide) fl_RX10_11 (by decide) sh_87 rfl ?_
  refine f_putI dX10_cutAll_5 xcl_10 (by decide) fl_RX10_156 rfl rfl (by decide) sh_87 rfl ?_
  refine x_aload_n dX10_cutAll_8 rfl ?_
  refine x_iconst (v := 0) dX10_cutAll_9 (by decide) ?_
  refine f_putI dX10_cutAll_10 xcl_10 (by decide) fl_RX10_11 rfl rfl (by decide) sh_87 rfl ?_
  refine x_iconst (v := 0) dX10_cutAll_13 (by decide) ?_
  refine x_istore_n (lv' := [(0, .ref (xB E + 87)), (1, .int ((0 : Int32)))]) dX10_cutAll_14 [1, 0] (by decide) rfl ?_
  refine x_iconst (v := 0) dX10_cutAll_15 (by decide) ?_
  refine x_istore_n (lv' := [(0, .ref (xB E + 87)), (1, .int ((0 : Int32))), (2, .int ((0 : Int32)))]) dX10_cutAll_16 [1, 2, 0] (by decide) rfl ?_
  refine pL_X10_cutAll_17 hd out hR _ (fun x1_62 m_63 hf => ?_) xfuel _ _ _ hf
  refine x_aload_n dX10_cutAll_279 rfl ?_
  refine f_getR (b := 89) dX10_cutAll_280 xcl_10 (by decide) fl_RX10_24 (by decide) sh_87 rfl ?_
  refine x_iload_n dX10_cutAll_283 rfl ?_
  refine x_iconst (v := 0) dX10_cutAll_284 (by decide) ?_
  have hg_64 := x_gd hf
  replace hf := hg_64.2
  refine f_iast dX10_cutAll_285 (by decide) sh_89 hg_64.1 ?_
  refine x_aload_n dX10_cutAll_286 rfl ?_
  refine f_getR (b := 90) dX10_cutAll_287 xcl_10 (by decide) fl_RX10_27 (by decide) sh_87 rfl ?_
  refine x_iload_n dX10_cutAll_290 rfl ?_
  refine x_aload_n dX10_cutAll_291 rfl ?_
  refine f_getI dX10_cutAll_292 xcl_10 (by decide) fl_RX10_156 (by decide) sh_87 rfl ?_
  have hg_65 := x_gd hf
  replace hf := hg_65.2
  refine f_iast dX10_cutAll_295 (by decide) sh_90 hg_65.1 ?_
  refine x_aload_n dX10_cutAll_296 rfl ?_
  refine x_iconst (v := 0) dX10_cutAll_297 (by decide) ?_
  refine f_putI dX10_cutAll_298 xcl_10 (by decide) fl_RX10_175 rfl rfl (by decide) sh_87 rfl ?_
  refine x_aload_n dX10_cutAll_301 rfl ?_
  refine x_iconst (v := 0) dX10_cutAll_302 (by decide) ?_
  refine f_putI dX10_cutAll_303 xcl_10 (by decide) fl_RX10_178 rfl rfl (by decide) sh_87 rfl ?_
  exact x_vret dX10_cutAll_306 rfl (by cases hf; exact hR)
theorem c_X10_cutAll {E : xE} {d : Nat} (hd : 3 ≤ d) (m : xMem) (out : Int32 × xMem) (h : F_X10_cutAll m = some out) : xCv E mX10_cutAll d [.ref (xB E + 87)] m out.2 :=
  x_enter (by decide +kernel) (Nat.le_of_ble_eq_true rfl) (pF_X10_cutAll hd (Q := _) out ⟨rfl, rfl⟩ m h)
-- X10_isWord
def F_X10_isWord (x1 : Int32) (m : xMem) : Option (Int32 × xMem) :=
  if (m.1 am fGuideBookModel_fault) = 0 then (
    if xin (m.1 am fGuideBookModel_at) 602 = true then (
    if (m.1 am_sort (m.1 am fGuideBookModel_at).toNatClampNeg) = (1 : Int32) then (
      if xin (m.1 am fGuideBookModel_at) 602 = true then (
      if xin x1 9 = true then (
      if (lg_cmp (m.2 am_value (m.1 am fGuideBookModel_at).toNatClampNeg) (m.2 am_words x1.toNatClampNeg)) = 0 then (
        some ((1 : Int32), m))
      else (
        some ((0 : Int32), m)))
      else none)
      else none)
    else (
      some ((0 : Int32), m)))
    else none)
  else (
    some ((0 : Int32), m))
set_option maxHeartbeats 4000000 in
set_option maxRecDepth 100000 in
theorem pF_X10_isWord {E : xE} {d : Nat} {Q : Option Value → xS → Prop} (hd : 1 ≤ d) (out : Int32 × xMem) (hR : Q (some (.int out.1)) (xf E out.2)) (x1 : Int32) (m : xMem) (hf : F_X10_isWord x1 m = some out) : xX E mX10_isWord d 0 0 0 0 Q 0 [(0, .ref (xB E + 87)), (1, .int (x1))] [] (xf E m) := by
  unfold F_X10_isWord at hf
  refine x_aload_n dX10_isWord_0 rfl ?_
  refine f_getI dX10_isWord_1 xcl_10 (by decide) fl_RX10_178 (by decide) sh_87 rfl ?_
  refine x_if_ne 43 dX10_isWord_4 (by decide) (fun hc => ?_) (fun hc => ?_)
  · replace hf := x_iff hc hf
    refine x_iconst (v := 0) dX10_isWord_43 (by decide) ?_
    exact x_zret dX10_isWord_44 rfl (by decide) (by cases hf; exact hR)
  · replace hf := x_ift hc hf
    refine x_aload_n dX10_isWord_7 rfl ?_
    refine f_getR (b := 89) dX10_isWord_8 xcl_10 (by decide) fl_RX10_24 (by decide) sh_87 rfl ?_
    refine x_aload_n dX10_isWord_11 rfl ?_
    refine f_getI dX10_isWord_12 xcl_10 (by decide) fl_RX10_175 (by decide) sh_87 rfl ?_
    have hg_1 := x_gd hf
    replace hf := hg_1.2
    refine f_iald dX10_isWord_15 (by decide) sh_89 hg_1.1 ?_
    refine x_iconst (v := 1) dX10_isWord_16 (by decide) ?_
    refine x_icmp_ne 43 dX10_isWord_17 (by decide) (fun hc => ?_) (fun hc => ?_)
    · replace hf := x_iff hc hf
      refine x_iconst (v := 0) dX10_isWord_43 (by decide) ?_
      exact x_zret dX10_isWord_44 rfl (by decide) (by cases hf; exact hR)
    · replace hf := x_ift hc hf
      refine x_aload_n dX10_isWord_20 rfl ?_
      refine f_getR (b := 91) dX10_isWord_21 xcl_10 (by decide) fl_RX10_30 (by decide) sh_87 rfl ?_
      refine x_aload_n dX10_isWord_24 rfl ?_
      refine f_getI dX10_isWord_25 xcl_10 (by decide) fl_RX10_175 (by decide) sh_87 rfl ?_
      have hg_2 := x_gd hf
      replace hf := hg_2.2
      refine f_lald dX10_isWord_28 (by decide) sh_91 hg_2.1 ?_
      refine x_aload_n dX10_isWord_29 rfl ?_
      refine f_getR (b := 92) dX10_isWord_30 xcl_10 (by decide) fl_RX10_52 (by decide) sh_87 rfl ?_
      refine x_iload_n dX10_isWord_33 rfl ?_
      have hg_3 := x_gd hf
      replace hf := hg_3.2
      refine f_lald dX10_isWord_34 (by decide) sh_92 hg_3.1 ?_
      refine x_lcmp dX10_isWord_35 ?_
      refine x_if_ne 43 dX10_isWord_36 (by decide) (fun hc => ?_) (fun hc => ?_)
      · replace hf := x_iff hc hf
        refine x_iconst (v := 0) dX10_isWord_43 (by decide) ?_
        exact x_zret dX10_isWord_44 rfl (by decide) (by cases hf; exact hR)
      · replace hf := x_ift hc hf
        refine x_iconst (v := 1) dX10_isWord_39 (by decide) ?_
        refine x_goto 44 dX10_isWord_40 (by decide) ?_
        exact x_zret dX10_isWord_44 rfl (by decide) (by cases hf; exact hR)
theorem c_X10_isWord {E : xE} {d : Nat} (hd : 1 ≤ d) (x1 : Int32) (m : xMem) (out : Int32 × xMem) (h : F_X10_isWord x1 m = some out) : xCi E mX10_isWord d [.ref (xB E + 87), .int x1] m out.1 out.2 :=
  x_enter (by decide +kernel) (Nat.le_of_ble_eq_true rfl) (pF_X10_isWord hd (Q := _) out ⟨rfl, rfl⟩ x1 m h)
-- X10_hasWord
def F_X10_hasWord (x1 : Int32) (m : xMem) : Option (Int32 × xMem) :=
  (F_X10_isWord (x1) m).bind fun q_1 => (
  if q_1.1 = 0 then (
    if xbb q_1.1 = true then (
    some (q_1.1, (xst q_1.2.1 am fGuideBookModel_at ((q_1.2.1 am fGuideBookModel_at) + (0 : Int32)), q_1.2.2)))
    else none)
  else (
    if xbb q_1.1 = true then (
    some (q_1.1, (xst q_1.2.1 am fGuideBookModel_at ((q_1.2.1 am fGuideBookModel_at) + (1 : Int32)), q_1.2.2)))
    else none))
set_option maxHeartbeats 4000000 in
set_option maxRecDepth 100000 in
theorem pF_X10_hasWord {E : xE} {d : Nat} {Q : Option Value → xS → Prop} (hd : 2 ≤ d) (out : Int32 × xMem) (hR : Q (some (.int out.1)) (xf E out.2)) (x1 : Int32) (m : xMem) (hf : F_X10_hasWord x1 m = some out) : xX E mX10_hasWord d 0 0 0 0 Q 0 [(0, .ref (xB E + 87)), (1, .int (x1))] [] (xf E m) := by
  unfold F_X10_hasWord at hf
  refine x_aload_n dX10_hasWord_0 rfl ?_
  refine x_iload_n dX10_hasWord_1 rfl ?_
  obtain ⟨q_1, hq_1, hf⟩ := Option.bind_eq_some_iff.mp hf
  refine f_cVi mX10_isWord [.int (x1)] [] dX10_hasWord_2 cs_RX10_188 ⟨w_1114, w_59⟩ (ci := 10) rfl (by decide) sh_87 rfl rfl (Nat.le_of_ble_eq_true rfl) (by omega) (c_X10_isWord (d := d - 1) (by omega) (x1) m q_1 hq_1) ?_
  refine x_istore_n (lv' := [(0, .ref (xB E + 87)), (2, .int (q_1.1))]) dX10_hasWord_5 [1, 0] (by decide) rfl ?_
  refine x_aload_n dX10_hasWord_6 rfl ?_
  refine x_dup dX10_hasWord_7 rfl ?_
  refine f_getI dX10_hasWord_8 xcl_10 (by decide) fl_RX10_175 (by decide) sh_87 rfl ?_
  refine x_iload_n dX10_hasWord_11 rfl ?_
  refine x_if_eq 19 dX10_hasWord_12 (by decide) (fun hc => ?_) (fun hc => ?_)
  · replace hf := x_ift hc hf
    refine x_iconst (v := 0) dX10_hasWord_19 (by decide) ?_
    refine x_iadd dX10_hasWord_20 ?_
    refine f_putI dX10_hasWord_21 xcl_10 (by decide) fl_RX10_175 rfl rfl (by decide) sh_87 rfl ?_
    refine x_iload_n dX10_hasWord_24 rfl ?_
    have hg_2 := x_gd hf
    replace hf := hg_2.2
    exact x_zret dX10_hasWord_25 rfl (xbb_n hg_2.1) (by cases hf; exact hR)
  · replace hf := x_iff hc hf
    refine x_iconst (v := 1) dX10_hasWord_15 (by decide) ?_
    refine x_goto 20 dX10_hasWord_16 (by decide) ?_
    refine x_iadd dX10_hasWord_20 ?_
    refine f_putI dX10_hasWord_21 xcl_10 (by decide) fl_RX10_175 rfl rfl (by decide) sh_87 rfl ?_
    refine x_iload_n dX10_hasWord_24 rfl ?_
    have hg_3 := x_gd hf
    replace hf := hg_3.2
    exact x_zret dX10_hasWord_25 rfl (xbb_n hg_3.1) (by cases hf; exact hR)
theorem c_X10_hasWord {E : xE} {d : Nat} (hd : 2 ≤ d) (x1 : Int32) (m : xMem) (out : Int32 × xMem) (h : F_X10_hasWord x1 m = some out) : xCi E mX10_hasWord d [.ref (xB E + 87), .int x1] m out.1 out.2 :=
  x_enter (by decide +kernel) (Nat.le_of_ble_eq_true rfl) (pF_X10_hasWord hd (Q := _) out ⟨rfl, rfl⟩ x1 m h)
-- X10_wrong
def F_X10_wrong (x1 : Int32) (m : xMem) : Option (Int32 × xMem) :=
  if (m.1 am fGuideBookModel_fault) = 0 then (
    if xin (m.1 am fGuideBookModel_at) 602 = true then (
    some (0, (xst m.1 am fGuideBookModel_fault (x1 + ((16 : Int32) * (m.1 am_place (m.1 am fGuideBookModel_at).toNatClampNeg))), m.2)))
    else none)
  else (
    some (0, m))
set_option maxHeartbeats 4000000 in
set_option maxRecDepth 100000 in
theorem pF_X10_wrong {E : xE} {d : Nat} {Q : Option Value → xS → Prop} (hd : 1 ≤ d) (out : Int32 × xMem) (hR : Q none (xf E out.2)) (x1 : Int32) (m : xMem) (hf : F_X10_wrong x1 m = some out) : xX E mX10_wrong d 0 0 0 0 Q 0 [(0, .ref (xB E + 87)), (1, .int (x1))] [] (xf E m) := by
  unfold F_X10_wrong at hf
  refine x_aload_n dX10_wrong_0 rfl ?_
  refine f_getI dX10_wrong_1 xcl_10 (by decide) fl_RX10_178 (by decide) sh_87 rfl ?_
  refine x_if_ne 25 dX10_wrong_4 (by decide) (fun hc => ?_) (fun hc => ?_)
  · replace hf := x_iff hc hf
    exact x_vret dX10_wrong_25 rfl (by cases hf; exact hR)
  · replace hf := x_ift hc hf
    refine x_aload_n dX10_wrong_7 rfl ?_
    refine x_iload_n dX10_wrong_8 rfl ?_
    refine x_bipush (v := 16) dX10_wrong_9 (by decide) ?_
    refine x_aload_n dX10_wrong_11 rfl ?_
    refine f_getR (b := 90) dX10_wrong_12 xcl_10 (by decide) fl_RX10_27 (by decide) sh_87 rfl ?_
    refine x_aload_n dX10_wrong_15 rfl ?_
    refine f_getI dX10_wrong_16 xcl_10 (by decide) fl_RX10_175 (by decide) sh_87 rfl ?_
    have hg_1 := x_gd hf
    replace hf := hg_1.2
    refine f_iald dX10_wrong_19 (by decide) sh_90 hg_1.1 ?_
    refine x_imul dX10_wrong_20 ?_
    refine x_iadd dX10_wrong_21 ?_
    refine f_putI dX10_wrong_22 xcl_10 (by decide) fl_RX10_178 rfl rfl (by decide) sh_87 rfl ?_
    exact x_vret dX10_wrong_25 rfl (by cases hf; exact hR)
theorem c_X10_wrong {E : xE} {d : Nat} (hd : 1 ≤ d) (x1 : Int32) (m : xMem) (out : Int32 × xMem) (h : F_X10_wrong x1 m = some out) : xCv E mX10_wrong d [.ref (xB E + 87), .int x1] m out.2 :=
  x_enter (by decide +kernel) (Nat.le_of_ble_eq_true rfl) (pF_X10_wrong hd (Q := _) out ⟨rfl, rfl⟩ x1 m h)
-- X10_takeWord
def F_X10_takeWord (x1 : Int32) (m : xMem) : Option (Int32 × xMem) :=
  (F_X10_hasWord (x1) m).bind fun q_1 => (
  if q_1.1 = 0 then (
    (F_X10_wrong ((1 : Int32)) q_1.2).bind fun q_2 => (
    some (0, q_2.2)))
  else (
    some (0, q_1.2)))
set_option maxHeartbeats 4000000 in
set_option maxRecDepth 100000 in
theorem pF_X10_takeWord {E : xE} {d : Nat} {Q : Option Value → xS → Prop} (hd : 3 ≤ d) (out : Int32 × xMem) (hR : Q none (xf E out.2)) (x1 : Int32) (m : xMem) (hf : F_X10_takeWord x1 m = some out) : xX E mX10_takeWord d 0 0 0 0 Q 0 [(0, .ref (xB E + 87)), (1, .int (x1))] [] (xf E m) := by
  unfold F_X10_takeWord at hf
  refine x_aload_n dX10_takeWord_0 rfl ?_
  refine x_iload_n dX10_takeWord_1 rfl ?_
  obtain ⟨q_1, hq_1, hf⟩ := Option.bind_eq_some_iff.mp hf
  refine f_cVi mX10_hasWord [.int (x1)] [] dX10_takeWord_2 cs_RX10_191 ⟨w_1127, w_62⟩ (ci := 10) rfl (by decide) sh_87 rfl rfl (Nat.le_of_ble_eq_true rfl) (by omega) (c_X10_hasWord (d := d - 1) (by omega) (x1) m q_1 hq_1) ?_
  refine x_if_ne 13 dX10_takeWord_5 (by decide) (fun hc => ?_) (fun hc => ?_)
  · replace hf := x_iff hc hf
    exact x_vret dX10_takeWord_13 rfl (by cases hf; exact hR)
  · replace hf := x_ift hc hf
    refine x_aload_n dX10_takeWord_8 rfl ?_
    refine x_iconst (v := 1) dX10_takeWord_9 (by decide) ?_
    obtain ⟨q_2, hq_2, hf⟩ := Option.bind_eq_some_iff.mp hf
    refine f_cVv mX10_wrong [.int ((1 : Int32))] [] dX10_takeWord_10 cs_RX10_184 ⟨w_1118, w_60⟩ (ci := 10) rfl (by decide) sh_87 rfl rfl (Nat.le_of_ble_eq_true rfl) (by omega) (c_X10_wrong (d := d - 1) (by omega) ((1 : Int32)) q_1.2 q_2 hq_2) ?_
    exact x_vret dX10_takeWord_13 rfl (by cases hf; exact hR)
theorem c_X10_takeWord {E : xE} {d : Nat} (hd : 3 ≤ d) (x1 : Int32) (m : xMem) (out : Int32 × xMem) (h : F_X10_takeWord x1 m = some out) : xCv E mX10_takeWord d [.ref (xB E + 87), .int x1] m out.2 :=
  x_enter (by decide +kernel) (Nat.le_of_ble_eq_true rfl) (pF_X10_takeWord hd (Q := _) out ⟨rfl, rfl⟩ x1 m h)
-- X10_opens
def F_X10_opens (m : xMem) : Option (Int32 × xMem) :=
  if xin (m.1 am fGuideBookModel_deep) 7 = true then (
  if xin ((xst m.1 am_sumWaits (m.1 am fGuideBookModel_deep).toNatClampNeg (0 : Int32)) am fGuideBookModel_deep) 7 = true then (
  if xin ((xst (xst m.1 am_sumWaits (m.1 am fGuideBookModel_deep).toNatClampNeg (0 : Int32)) am_signWaits ((xst m.1 am_sumWaits (m.1 am fGuideBookModel_deep).toNatClampNeg (0 : Int32)) am fGuideBookModel_deep).toNatClampNeg (0 : Int32)) am fGuideBookModel_deep) 7 = true then (
  some (0, (xst (xst (xst m.1 am_sumWaits (m.1 am fGuideBookModel_deep).toNatClampNeg (0 : Int32)) am_signWaits ((xst m.1 am_sumWaits (m.1 am fGuideBookModel_deep).toNatClampNeg (0 : Int32)) am fGuideBookModel_deep).toNatClampNeg (0 : Int32)) am_andWaits ((xst (xst m.1 am_sumWaits (m.1 am fGuideBookModel_deep).toNatClampNeg (0 : Int32)) am_signWaits ((xst m.1 am_sumWaits (m.1 am fGuideBookModel_deep).toNatClampNeg (0 : Int32)) am fGuideBookModel_deep).toNatClampNeg (0 : Int32)) am fGuideBookModel_deep).toNatClampNeg (0 : Int32), m.2)))
  else none)
  else none)
  else none
set_option maxHeartbeats 4000000 in
set_option maxRecDepth 100000 in
theorem pF_X10_opens {E : xE} {d : Nat} {Q : Option Value → xS → Prop} (hd : 1 ≤ d) (out : Int32 × xMem) (hR : Q none (xf E out.2)) (m : xMem) (hf : F_X10_opens m = some out) : xX E mX10_opens d 0 0 0 0 Q 0 [(0, .ref (xB E + 87))] [] (xf E m) := by
  unfold F_X10_opens at hf
  refine x_aload_n dX10_opens_0 rfl ?_
  refine f_getR (b := 98) dX10_opens_1 xcl_10 (by decide) fl_RX10_70 (by decide) sh_87 rfl ?_
  refine x_aload_n dX10_opens_4 rfl ?_
  refine f_getI dX10_opens_5 xcl_10 (by decide) fl_RX10_214 (by decide) sh_87 rfl ?_
  refine x_iconst (v := 0) dX10_opens_8 (by decide) ?_
  have hg_1 := x_gd hf
  replace hf := hg_1.2
  refine f_iast dX10_opens_9 (by decide) sh_98 hg_1.1 ?_
  refine x_aload_n dX10_opens_10 rfl ?_
  refine f_getR (b := 99) dX10_opens_11 xcl_10 (by decide) fl_RX10_73 (by decide) sh_87 rfl ?_
  refine x_aload_n dX10_opens_14 rfl ?_
  refine f_getI dX10_opens_15 xcl_10 (by decide) fl_RX10_214 (by decide) sh_87 rfl ?_
  refine x_iconst (v := 0) dX10_opens_18 (by decide) ?_
  have hg_2 := x_gd hf
  replace hf := hg_2.2
  refine f_iast dX10_opens_19 (by decide) sh_99 hg_2.1 ?_
  refine x_aload_n dX10_opens_20 rfl ?_
  refine f_getR (b := 100) dX10_opens_21 xcl_10 (by decide) fl_RX10_76 (by decide) sh_87 rfl ?_
  refine x_aload_n dX10_opens_24 rfl ?_
  refine f_getI dX10_opens_25 xcl_10 (by decide) fl_RX10_214 (by decide) sh_87 rfl ?_
  refine x_iconst (v := 0) dX10_opens_28 (by decide) ?_
  have hg_3 := x_gd hf
  replace hf := hg_3.2
  refine f_iast dX10_opens_29 (by decide) sh_100 hg_3.1 ?_
  exact x_vret dX10_opens_30 rfl (by cases hf; exact hR)
theorem c_X10_opens {E : xE} {d : Nat} (hd : 1 ≤ d) (m : xMem) (out : Int32 × xMem) (h : F_X10_opens m = some out) : xCv E mX10_opens d [.ref (xB E + 87)] m out.2 :=
  x_enter (by decide +kernel) (Nat.le_of_ble_eq_true rfl) (pF_X10_opens hd (Q := _) out ⟨rfl, rfl⟩ m h)
-- X10_partWord
def L_X10_partWord_2 : Nat → Int32 → xMem → Option (Int32 × xMem)
  | 0, _, _ => none
  | fk + 1, x1, m =>
    if (6 : Int32) ≤ x1 then (
      some ((-1 : Int32), m))
    else (
      (F_X10_isWord ((3 : Int32) + x1) m).bind fun q_1 => (
      if q_1.1 = 0 then (
        L_X10_partWord_2 fk (x1 + 1) q_1.2)
      else (
        some (x1, q_1.2))))
def F_X10_partWord (m : xMem) : Option (Int32 × xMem) :=
  L_X10_partWord_2 xfuel ((0 : Int32)) m
set_option maxHeartbeats 4000000 in
set_option maxRecDepth 100000 in
theorem pL_X10_partWord_2 {E : xE} {d : Nat} {Q : Option Value → xS → Prop} (hd : 2 ≤ d) (out : Int32 × xMem) (hR : Q (some (.int out.1)) (xf E out.2)) : ∀ (fk : Nat) (x1 : Int32) (m : xMem), L_X10_partWord_2 fk x1 m = some out → xX E mX10_partWord d 0 0 0 0 Q 2 [(0, .ref (xB E + 87)), (1, .int (x1))] [] (xf E m) := by
  intro fk
  induction fk with
  | zero => intro x1 m hf; cases hf
  | succ fk ih =>
    intro x1 m hf
    rw [L_X10_partWord_2] at hf
    refine x_iload_n dX10_partWord_2 rfl ?_
    refine x_bipush (v := 6) dX10_partWord_3 (by decide) ?_
    refine x_icmp_ge 26 dX10_partWord_5 (by decide) (fun hc => ?_) (fun hc => ?_)
    · replace hf := x_ift hc hf
      refine x_iconst (v := (-1)) dX10_partWord_26 (by decide) ?_
      exact x_iret dX10_partWord_27 rfl (by cases hf; exact hR)
    · replace hf := x_iff hc hf
      refine x_aload_n dX10_partWord_8 rfl ?_
      refine x_iconst (v := 3) dX10_partWord_9 (by decide) ?_
      refine x_iload_n dX10_partWord_10 rfl ?_
      refine x_iadd dX10_partWord_11 ?_
      obtain ⟨q_1, hq_1, hf⟩ := Option.bind_eq_some_iff.mp hf
      refine f_cVi mX10_isWord [.int ((3 : Int32) + x1)] [] dX10_partWord_12 cs_RX10_188 ⟨w_1114, w_59⟩ (ci := 10) rfl (by decide) sh_87 rfl rfl (Nat.le_of_ble_eq_true rfl) (by omega) (c_X10_isWord (d := d - 1) (by omega) ((3 : Int32) + x1) m q_1 hq_1) ?_
      refine x_if_eq 20 dX10_partWord_15 (by decide) (fun hc => ?_) (fun hc => ?_)
      · replace hf := x_ift hc hf
        refine x_iinc (v := x1 + 1) (lv' := [(0, .ref (xB E + 87)), (1, .int (x1 + 1))]) dX10_partWord_20 1 [1, 0] rfl rfl (by decide) rfl ?_
        refine x_goto 2 dX10_partWord_23 (by decide) ?_
        exact ih _ _ hf
      · replace hf := x_iff hc hf
        refine x_iload_n dX10_partWord_18 rfl ?_
        exact x_iret dX10_partWord_19 rfl (by cases hf; exact hR)
set_option maxHeartbeats 4000000 in
set_option maxRecDepth 100000 in
theorem pF_X10_partWord {E : xE} {d : Nat} {Q : Option Value → xS → Prop} (hd : 2 ≤ d) (out : Int32 × xMem) (hR : Q (some (.int out.1)) (xf E out.2)) (m : xMem) (hf : F_X10_partWord m = some out) : xX E mX10_partWord d 0 0 0 0 Q 0 [(0, .ref (xB E + 87))] [] (xf E m) := by
  unfold F_X10_partWord at hf
  refine x_iconst (v := 0) dX10_partWord_0 (by decide) ?_
  refine x_istore_n (lv' := [(0, .ref (xB E + 87)), (1, .int ((0 : Int32)))]) dX10_partWord_1 [1, 0] (by decide) rfl ?_
  refine pL_X10_partWord_2 hd out hR xfuel _ _ hf
theorem c_X10_partWord {E : xE} {d : Nat} (hd : 2 ≤ d) (m : xMem) (out : Int32 × xMem) (h : F_X10_partWord m = some out) : xCi E mX10_partWord d [.ref (xB E + 87)] m out.1 out.2 :=
  x_enter (by decide +kernel) (Nat.le_of_ble_eq_true rfl) (pF_X10_partWord hd (Q := _) out ⟨rfl, rfl⟩ m h)
-- X10_isSign
def F_X10_isSign (x1 : Int32) (m : xMem) : Option (Int32 × xMem) :=
  if (m.1 am fGuideBookModel_fault) = 0 then (
    if xin (m.1 am fGuideBookModel_at) 602 = true then (
    if (m.1 am_sort (m.1 am fGuideBookModel_at).toNatClampNeg) = (3 : Int32) then (
      if xin (m.1 am fGuideBookModel_at) 602 = true then (
      if (lg_cmp (m.2 am_value (m.1 am fGuideBookModel_at).toNatClampNeg) x1.toInt64) = 0 then (
        some ((1 : Int32), m))
      else (
        some ((0 : Int32), m)))
      else none)
    else (
      some ((0 : Int32), m)))
    else none)
  else (
    some ((0 : Int32), m))
set_option maxHeartbeats 4000000 in
set_option maxRecDepth 100000 in
theorem pF_X10_isSign {E : xE} {d : Nat} {Q : Option Value → xS → Prop} (hd : 1 ≤ d) (out : Int32 × xMem) (hR : Q (some (.int out.1)) (xf E out.2)) (x1 : Int32) (m : xMem) (hf : F_X10_isSign x1 m = some out) : xX E mX10_isSign d 0 0 0 0 Q 0 [(0, .ref (xB E + 87)), (1, .int (x1))] [] (xf E m) := by
  unfold F_X10_isSign at hf
  refine x_aload_n dX10_isSign_0 rfl ?_
  refine f_getI dX10_isSign_1 xcl_10 (by decide) fl_RX10_178 (by decide) sh_87 rfl ?_
  refine x_if_ne 39 dX10_isSign_4 (by decide) (fun hc => ?_) (fun hc => ?_)
  · replace hf := x_iff hc hf
    refine x_iconst (v := 0) dX10_isSign_39 (by decide) ?_
    exact x_zret dX10_isSign_40 rfl (by decide) (by cases hf; exact hR)
  · replace hf := x_ift hc hf
    refine x_aload_n dX10_isSign_7 rfl ?_
    refine f_getR (b := 89) dX10_isSign_8 xcl_10 (by decide) fl_RX10_24 (by decide) sh_87 rfl ?_
    refine x_aload_n dX10_isSign_11 rfl ?_
    refine f_getI dX10_isSign_12 xcl_10 (by decide) fl_RX10_175 (by decide) sh_87 rfl ?_
    have hg_1 := x_gd hf
    replace hf := hg_1.2
    refine f_iald dX10_isSign_15 (by decide) sh_89 hg_1.1 ?_
    refine x_iconst (v := 3) dX10_isSign_16 (by decide) ?_
    refine x_icmp_ne 39 dX10_isSign_17 (by decide) (fun hc => ?_) (fun hc => ?_)
    · replace hf := x_iff hc hf
      refine x_iconst (v := 0) dX10_isSign_39 (by decide) ?_
      exact x_zret dX10_isSign_40 rfl (by decide) (by cases hf; exact hR)
    · replace hf := x_ift hc hf
      refine x_aload_n dX10_isSign_20 rfl ?_
      refine f_getR (b := 91) dX10_isSign_21 xcl_10 (by decide) fl_RX10_30 (by decide) sh_87 rfl ?_
      refine x_aload_n dX10_isSign_24 rfl ?_
      refine f_getI dX10_isSign_25 xcl_10 (by decide) fl_RX10_175 (by decide) sh_87 rfl ?_
      have hg_2 := x_gd hf
      replace hf := hg_2.2
      refine f_lald dX10_isSign_28 (by decide) sh_91 hg_2.1 ?_
      refine x_iload_n dX10_isSign_29 rfl ?_
      refine x_i2l dX10_isSign_30 ?_
      refine x_lcmp dX10_isSign_31 ?_
      refine x_if_ne 39 dX10_isSign_32 (by decide) (fun hc => ?_) (fun hc => ?_)
      · replace hf := x_iff hc hf
        refine x_iconst (v := 0) dX10_isSign_39 (by decide) ?_
        exact x_zret dX10_isSign_40 rfl (by decide) (by cases hf; exact hR)
      · replace hf := x_ift hc hf
        refine x_iconst (v := 1) dX10_isSign_35 (by decide) ?_
        refine x_goto 40 dX10_isSign_36 (by decide) ?_
        exact x_zret dX10_isSign_40 rfl (by decide) (by cases hf; exact hR)
theorem c_X10_isSign {E : xE} {d : Nat} (hd : 1 ≤ d) (x1 : Int32) (m : xMem) (out : Int32 × xMem) (h : F_X10_isSign x1 m = some out) : xCi E mX10_isSign d [.ref (xB E + 87), .int x1] m out.1 out.2 :=
  x_enter (by decide +kernel) (Nat.le_of_ble_eq_true rfl) (pF_X10_isSign hd (Q := _) out ⟨rfl, rfl⟩ x1 m h)
