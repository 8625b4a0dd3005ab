def KF_X2_init_1 (E : xE) : List va_E := [.inr (2, [.ref (xB E + 2), .ref (xB E + 3), .ref (xB E + 4), .ref (xB E + 5), .ref (xB E + 6), .ref (xB E + 7), .ref (xB E + 8), .ref (xB E + 9), .int 0, .int 0]), .inl (E.2.2.2 0, 60, .inl (fun _ => 0)), .inl (E.2.2.2 0, 60, .inl (fun _ => 0)), .inl (E.2.2.2 0, 60, .inl (fun _ => 0)), .inl (E.2.2.2 0, 60, .inl (fun _ => 0)), .inl (E.2.2.2 0, 60, .inl (fun _ => 0)), .inl (E.2.2.2 0, 60, .inl (fun _ => 0)), .inl (E.2.2.2 0, 6, .inl (fun _ => 0)), .inl (E.2.2.2 0, 6, .inl (fun _ => 0))]
set_option maxHeartbeats 40000000 in
set_option maxRecDepth 100000 in
theorem k_X2_init_1 {E : xE} (hAO : xAO E) {d : Nat} (hd : 1 ≤ d) {P : List va_E} (hP : P.length = 1) : xC E mX2_init d 8 372 [.ref (xB E + 1)] (xq 1 P [.inr (2, [.null, .null, .null, .null, .null, .null, .null, .null, .int 0, .int 0])]) (fun r S => r = none ∧ S = xq 1 P (KF_X2_init_1 E)) := by
  refine x_enter (by decide +kernel) (Nat.le_of_ble_eq_true rfl) ?_
  refine x_aload_n dX2_init_0 rfl ?_
  refine x_obj dX2_init_1 ko_RX2_3 ko_i ko_c (Nat.le_of_ble_eq_true rfl) ?_
  refine x_aload_n dX2_init_4 rfl ?_
  refine x_bipush (v := (60 : Int32)) dX2_init_5 (by decide) ?_
  refine l_newa 0 (60, .inl fun _ => 0) 2 hP dX2_init_7 ka_int rfl (fun _ => rfl) (by decide) (by decide) (by decide) (by omega) (by omega) rfl ?_
  refine l_Q ([.inr (2, [.null, .null, .null, .null, .null, .null, .null, .null, .int 0, .int 0]), .inl (E.2.2.2 0, 60, .inl (fun _ => 0))]) rfl ?_
  refine l_putF (k := 0) 0 1 hP dX2_init_9 xcl_2 (by decide) kf_RX2_9 rfl rfl rfl rfl rfl rfl rfl (Nat.le_of_ble_eq_true rfl) ?_
  refine l_Q ([.inr (2, [.ref (xB E + 2), .null, .null, .null, .null, .null, .null, .null, .int 0, .int 0]), .inl (E.2.2.2 0, 60, .inl (fun _ => 0))]) rfl ?_
  refine x_aload_n dX2_init_12 rfl ?_
  refine x_bipush (v := (60 : Int32)) dX2_init_13 (by decide) ?_
  refine l_newa 0 (60, .inl fun _ => 0) 3 hP dX2_init_15 ka_int rfl (fun _ => rfl) (by decide) (by decide) (by decide) (by omega) (by omega) rfl ?_
  refine l_Q ([.inr (2, [.ref (xB E + 2), .null, .null, .null, .null, .null, .null, .null, .int 0, .int 0]), .inl (E.2.2.2 0, 60, .inl (fun _ => 0)), .inl (E.2.2.2 0, 60, .inl (fun _ => 0))]) rfl ?_
  refine l_putF (k := 1) 0 1 hP dX2_init_17 xcl_2 (by decide) kf_RX2_15 rfl rfl rfl rfl rfl rfl rfl (Nat.le_of_ble_eq_true rfl) ?_
  refine l_Q ([.inr (2, [.ref (xB E + 2), .ref (xB E + 3), .null, .null, .null, .null, .null, .null, .int 0, .int 0]), .inl (E.2.2.2 0, 60, .inl (fun _ => 0)), .inl (E.2.2.2 0, 60, .inl (fun _ => 0))]) rfl ?_
  refine x_aload_n dX2_init_20 rfl ?_
  refine x_bipush (v := (60 : Int32)) dX2_init_21 (by decide) ?_
  refine l_newa 0 (60, .inl fun _ => 0) 4 hP dX2_init_23 ka_int rfl (fun _ => rfl) (by decide) (by decide) (by decide) (by omega) (by omega) rfl ?_
  refine l_Q ([.inr (2, [.ref (xB E + 2), .ref (xB E + 3), .null, .null, .null, .null, .null, .null, .int 0, .int 0]), .inl (E.2.2.2 0, 60, .inl (fun _ => 0)), .inl (E.2.2.2 0, 60, .inl (fun _ => 0)), .inl (E.2.2.2 0, 60, .inl (fun _ => 0))]) rfl ?_
  refine l_putF (k := 2) 0 1 hP dX2_init_25 xcl_2 (by decide) kf_RX2_18 rfl rfl rfl rfl rfl rfl rfl (Nat.le_of_ble_eq_true rfl) ?_
  refine l_Q ([.inr (2, [.ref (xB E + 2), .ref (xB E + 3), .ref (xB E + 4), .null, .null, .null, .null, .null, .int 0, .int 0]), .inl (E.2.2.2 0, 60, .inl (fun _ => 0)), .inl (E.2.2.2 0, 60, .inl (fun _ => 0)), .inl (E.2.2.2 0, 60, .inl (fun _ => 0))]) rfl ?_
  refine x_aload_n dX2_init_28 rfl ?_
  refine x_bipush (v := (60 : Int32)) dX2_init_29 (by decide) ?_
  refine l_newa 0 (60, .inl fun _ => 0) 5 hP dX2_init_31 ka_int rfl (fun _ => rfl) (by decide) (by decide) (by decide) (by omega) (by omega) rfl ?_
  refine l_Q ([.inr (2, [.ref (xB E + 2), .ref (xB E + 3), .ref (xB E + 4), .null, .null, .null, .null, .null, .int 0, .int 0]), .inl (E.2.2.2 0, 60, .inl (fun _ => 0)), .inl (E.2.2.2 0, 60, .inl (fun _ => 0)), .inl (E.2.2.2 0, 60, .inl (fun _ => 0)), .inl (E.2.2.2 0, 60, .inl (fun _ => 0))]) rfl ?_
  refine l_putF (k := 3) 0 1 hP dX2_init_33 xcl_2 (by decide) kf_RX2_21 rfl rfl rfl rfl rfl rfl rfl (Nat.le_of_ble_eq_true rfl) ?_
  refine l_Q ([.inr (2, [.ref (xB E + 2), .ref (xB E + 3), .ref (xB E + 4), .ref (xB E + 5), .null, .null, .null, .null, .int 0, .int 0]), .inl (E.2.2.2 0, 60, .inl (fun _ => 0)), .inl (E.2.2.2 0, 60, .inl (fun _ => 0)), .inl (E.2.2.2 0, 60, .inl (fun _ => 0)), .inl (E.2.2.2 0, 60, .inl (fun _ => 0))]) rfl ?_
  refine x_aload_n dX2_init_36 rfl ?_
  refine x_bipush (v := (60 : Int32)) dX2_init_37 (by decide) ?_
  refine l_newa 0 (60, .inl fun _ => 0) 6 hP dX2_init_39 ka_int rfl (fun _ => rfl) (by decide) (by decide) (by decide) (by omega) (by omega) rfl ?_
  refine l_Q ([.inr (2, [.ref (xB E + 2), .ref (xB E + 3), .ref (xB E + 4), .ref (xB E + 5), .null, .null, .null, .null, .int 0, .int 0]), .inl (E.2.2.2 0, 60, .inl (fun _ => 0)), .inl (E.2.2.2 0, 60, .inl (fun _ => 0)), .inl (E.2.2.2 0, 60, .inl (fun _ => 0)), .inl (E.2.2.2 0, 60, .inl (fun _ => 0)), .inl (E.2.2.2 0, 60, .inl (fun _ => 0))]) rfl ?_
  refine l_putF (k := 4) 0 1 hP dX2_init_41 xcl_2 (by decide) kf_RX2_24 rfl rfl rfl rfl rfl rfl rfl (Nat.le_of_ble_eq_true rfl) ?_
  refine l_Q ([.inr (2, [.ref (xB E + 2), .ref (xB E + 3), .ref (xB E + 4), .ref (xB E + 5), .ref (xB E + 6), .null, .null, .null, .int 0, .int 0]), .inl (E.2.2.2 0, 60, .inl (fun _ => 0)), .inl (E.2.2.2 0, 60, .inl (fun _ => 0)), .inl (E.2.2.2 0, 60, .inl (fun _ => 0)), .inl (E.2.2.2 0, 60, .inl (fun _ => 0)), .inl (E.2.2.2 0, 60, .inl (fun _ => 0))]) rfl ?_
  refine x_aload_n dX2_init_44 rfl ?_
  refine x_bipush (v := (60 : Int32)) dX2_init_45 (by decide) ?_
  refine l_newa 0 (60, .inl fun _ => 0) 7 hP dX2_init_47 ka_int rfl (fun _ => rfl) (by decide) (by decide) (by decide) (by omega) (by omega) rfl ?_
  refine l_Q ([.inr (2, [.ref (xB E + 2), .ref (xB E + 3), .ref (xB E + 4), .ref (xB E + 5), .ref (xB E + 6), .null, .null, .null, .int 0, .int 0]), .inl (E.2.2.2 0, 60, .inl (fun _ => 0)), .inl (E.2.2.2 0, 60, .inl (fun _ => 0)), .inl (E.2.2.2 0, 60, .inl (fun _ => 0)), .inl (E.2.2.2 0, 60, .inl (fun _ => 0)), .inl (E.2.2.2 0, 60, .inl (fun _ => 0)), .inl (E.2.2.2 0, 60, .inl (fun _ => 0))]) rfl ?_
  refine l_putF (k := 5) 0 1 hP dX2_init_49 xcl_2 (by decide) kf_RX2_27 rfl rfl rfl rfl rfl rfl rfl (Nat.le_of_ble_eq_true rfl) ?_
  refine l_Q ([.inr (2, [.ref (xB E + 2), .ref (xB E + 3), .ref (xB E + 4), .ref (xB E + 5), .ref (xB E + 6), .ref (xB E + 7), .null, .null, .int 0, .int 0]), .inl (E.2.2.2 0, 60, .inl (fun _ => 0)), .inl (E.2.2.2 0, 60, .inl (fun _ => 0)), .inl (E.2.2.2 0, 60, .inl (fun _ => 0)), .inl (E.2.2.2 0, 60, .inl (fun _ => 0)), .inl (E.2.2.2 0, 60, .inl (fun _ => 0)), .inl (E.2.2.2 0, 60, .inl (fun _ => 0))]) rfl ?_
  refine x_aload_n dX2_init_52 rfl ?_
  refine x_bipush (v := (6 : Int32)) dX2_init_53 (by decide) ?_
  refine l_newa 0 (6, .inl fun _ => 0) 8 hP dX2_init_55 ka_int rfl (fun _ => rfl) (by decide) (by decide) (by decide) (by omega) (by omega) rfl ?_
  refine l_Q ([.inr (2, [.ref (xB E + 2), .ref (xB E + 3), .ref (xB E + 4), .ref (xB E + 5), .ref (xB E + 6), .ref (xB E + 7), .null, .null, .int 0, .int 0]), .inl (E.2.2.2 0, 60, .inl (fun _ => 0)), .inl (E.2.2.2 0, 60, .inl (fun _ => 0)), .inl (E.2.2.2 0, 60, .inl (fun _ => 0)), .inl (E.2.2.2 0, 60, .inl (fun _ => 0)), .inl (E.2.2.2 0, 60, .inl (fun _ => 0)), .inl (E.2.2.2 0, 60, .inl (fun _ => 0)), .inl (E.2.2.2 0, 6, .inl (fun _ => 0))]) rfl ?_
  refine l_putF (k := 6) 0 1 hP dX2_init_57 xcl_2 (by decide) kf_RX2_30 rfl rfl rfl rfl rfl rfl rfl (Nat.le_of_ble_eq_true rfl) ?_
  refine l_Q ([.inr (2, [.ref (xB E + 2), .ref (xB E + 3), .ref (xB E + 4), .ref (xB E + 5), .ref (xB E + 6), .ref (xB E + 7), .ref (xB E + 8), .null, .int 0, .int 0]), .inl (E.2.2.2 0, 60, .inl (fun _ => 0)), .inl (E.2.2.2 0, 60, .inl (fun _ => 0)), .inl (E.2.2.2 0, 60, .inl (fun _ => 0)), .inl (E.2.2.2 0, 60, .inl (fun _ => 0)), .inl (E.2.2.2 0, 60, .inl (fun _ => 0)), .inl (E.2.2.2 0, 60, .inl (fun _ => 0)), .inl (E.2.2.2 0, 6, .inl (fun _ => 0))]) rfl ?_
  refine x_aload_n dX2_init_60 rfl ?_
  refine x_bipush (v := (6 : Int32)) dX2_init_61 (by decide) ?_
  refine l_newa 0 (6, .inl fun _ => 0) 9 hP dX2_init_63 ka_int rfl (fun _ => rfl) (by decide) (by decide) (by decide) (by omega) (by omega) rfl ?_
  refine l_Q ([.inr (2, [.ref (xB E + 2), .ref (xB E + 3), .ref (xB E + 4), .ref (xB E + 5), .ref (xB E + 6), .ref (xB E + 7), .ref (xB E + 8), .null, .int 0, .int 0]), .inl (E.2.2.2 0, 60, .inl (fun _ => 0)), .inl (E.2.2.2 0, 60, .inl (fun _ => 0)), .inl (E.2.2.2 0, 60, .inl (fun _ => 0)), .inl (E.2.2.2 0, 60, .inl (fun _ => 0)), .inl (E.2.2.2 0, 60, .inl (fun _ => 0)), .inl (E.2.2.2 0, 60, .inl (fun _ => 0)), .inl (E.2.2.2 0, 6, .inl (fun _ => 0)), .inl (E.2.2.2 0, 6, .inl (fun _ => 0))]) rfl ?_
  refine l_putF (k := 7) 0 1 hP dX2_init_65 xcl_2 (by decide) kf_RX2_33 rfl rfl rfl rfl rfl rfl rfl (Nat.le_of_ble_eq_true rfl) ?_
  refine l_Q ([.inr (2, [.ref (xB E + 2), .ref (xB E + 3), .ref (xB E + 4), .ref (xB E + 5), .ref (xB E + 6), .ref (xB E + 7), .ref (xB E + 8), .ref (xB E + 9), .int 0, .int 0]), .inl (E.2.2.2 0, 60, .inl (fun _ => 0)), .inl (E.2.2.2 0, 60, .inl (fun _ => 0)), .inl (E.2.2.2 0, 60, .inl (fun _ => 0)), .inl (E.2.2.2 0, 60, .inl (fun _ => 0)), .inl (E.2.2.2 0, 60, .inl (fun _ => 0)), .inl (E.2.2.2 0, 60, .inl (fun _ => 0)), .inl (E.2.2.2 0, 6, .inl (fun _ => 0)), .inl (E.2.2.2 0, 6, .inl (fun _ => 0))]) rfl ?_
  exact x_vret dX2_init_68 rfl ⟨rfl, rfl⟩
def KF_X3_init_10 (E : xE) : List va_E := [.inr (3, [.ref (xB E + 11), .ref (xB E + 12), .ref (xB E + 13), .ref (xB E + 14), .ref (xB E + 15), .ref (xB E + 16), .int 0, .int 0]), .inl (E.2.2.2 0, 100, .inl (fun _ => 0)), .inl (E.2.2.2 0, 100, .inl (fun _ => 0)), .inl (E.2.2.2 0, 100, .inl (fun _ => 0)), .inl (E.2.2.2 0, 100, .inl (fun _ => 0)), .inl (E.2.2.2 0, 20, .inl (fun _ => 0)), .inl (E.2.2.2 0, 20, .inl (fun _ => 0))]
set_option maxHeartbeats 40000000 in
set_option maxRecDepth 100000 in
theorem k_X3_init_10 {E : xE} (hAO : xAO E) {d : Nat} (hd : 1 ≤ d) {P : List va_E} (hP : P.length = 10) : xC E mX3_init d 6 440 [.ref (xB E + 10)] (xq 10 P [.inr (3, [.null, .null, .null, .null, .null, .null, .int 0, .int 0])]) (fun r S => r = none ∧ S = xq 10 P (KF_X3_init_10 E)) := by
  refine x_enter (by decide +kernel) (Nat.le_of_ble_eq_true rfl) ?_
  refine x_aload_n dX3_init_0 rfl ?_
  refine x_obj dX3_init_1 ko_RX3_3 ko_i ko_c (Nat.le_of_ble_eq_true rfl) ?_
  refine x_aload_n dX3_init_4 rfl ?_
  refine x_bipush (v := (100 : Int32)) dX3_init_5 (by decide) ?_
  refine l_newa 0 (100, .inl fun _ => 0) 11 hP dX3_init_7 ka_int rfl (fun _ => rfl) (by decide) (by decide) (by decide) (by omega) (by omega) rfl ?_
  refine l_Q ([.inr (3, [.null, .null, .null, .null, .null, .null, .int 0, .int 0]), .inl (E.2.2.2 0, 100, .inl (fun _ => 0))]) rfl ?_
  refine l_putF (k := 0) 0 10 hP dX3_init_9 xcl_3 (by decide) kf_RX3_9 rfl rfl rfl rfl rfl rfl rfl (Nat.le_of_ble_eq_true rfl) ?_
  refine l_Q ([.inr (3, [.ref (xB E + 11), .null, .null, .null, .null, .null, .int 0, .int 0]), .inl (E.2.2.2 0, 100, .inl (fun _ => 0))]) rfl ?_
  refine x_aload_n dX3_init_12 rfl ?_
  refine x_bipush (v := (100 : Int32)) dX3_init_13 (by decide) ?_
  refine l_newa 0 (100, .inl fun _ => 0) 12 hP dX3_init_15 ka_int rfl (fun _ => rfl) (by decide) (by decide) (by decide) (by omega) (by omega) rfl ?_
  refine l_Q ([.inr (3, [.ref (xB E + 11), .null, .null, .null, .null, .null, .int 0, .int 0]), .inl (E.2.2.2 0, 100, .inl (fun _ => 0)), .inl (E.2.2.2 0, 100, .inl (fun _ => 0))]) rfl ?_
  refine l_putF (k := 1) 0 10 hP dX3_init_17 xcl_3 (by decide) kf_RX3_15 rfl rfl rfl rfl rfl rfl rfl (Nat.le_of_ble_eq_true rfl) ?_
  refine l_Q ([.inr (3, [.ref (xB E + 11), .ref (xB E + 12), .null, .null, .null, .null, .int 0, .int 0]), .inl (E.2.2.2 0, 100, .inl (fun _ => 0)), .inl (E.2.2.2 0, 100, .inl (fun _ => 0))]) rfl ?_
  refine x_aload_n dX3_init_20 rfl ?_
  refine x_bipush (v := (100 : Int32)) dX3_init_21 (by decide) ?_
  refine l_newa 0 (100, .inl fun _ => 0) 13 hP dX3_init_23 ka_int rfl (fun _ => rfl) (by decide) (by decide) (by decide) (by omega) (by omega) rfl ?_
  refine l_Q ([.inr (3, [.ref (xB E + 11), .ref (xB E + 12), .null, .null, .null, .null, .int 0, .int 0]), .inl (E.2.2.2 0, 100, .inl (fun _ => 0)), .inl (E.2.2.2 0, 100, .inl (fun _ => 0)), .inl (E.2.2.2 0, 100, .inl (fun _ => 0))]) rfl ?_
  refine l_putF (k := 2) 0 10 hP dX3_init_25 xcl_3 (by decide) kf_RX3_18 rfl rfl rfl rfl rfl rfl rfl (Nat.le_of_ble_eq_true rfl) ?_
  refine l_Q ([.inr (3, [.ref (xB E + 11), .ref (xB E + 12), .ref (xB E + 13), .null, .null, .null, .int 0, .int 0]), .inl (E.2.2.2 0, 100, .inl (fun _ => 0)), .inl (E.2.2.2 0, 100, .inl (fun _ => 0)), .inl (E.2.2.2 0, 100, .inl (fun _ => 0))]) rfl ?_
  refine x_aload_n dX3_init_28 rfl ?_
  refine x_bipush (v := (100 : Int32)) dX3_init_29 (by decide) ?_
  refine l_newa 0 (100, .inl fun _ => 0) 14 hP dX3_init_31 ka_int rfl (fun _ => rfl) (by decide) (by decide) (by decide) (by omega) (by omega) rfl ?_
  refine l_Q ([.inr (3, [.ref (xB E + 11), .ref (xB E + 12), .ref (xB E + 13), .null, .null, .null, .int 0, .int 0]), .inl (E.2.2.2 0, 100, .inl (fun _ => 0)), .inl (E.2.2.2 0, 100, .inl (fun _ => 0)), .inl (E.2.2.2 0, 100, .inl (fun _ => 0)), .inl (E.2.2.2 0, 100, .inl (fun _ => 0))]) rfl ?_
  refine l_putF (k := 3) 0 10 hP dX3_init_33 xcl_3 (by decide) kf_RX3_21 rfl rfl rfl rfl rfl rfl rfl (Nat.le_of_ble_eq_true rfl) ?_
  refine l_Q ([.inr (3, [.ref (xB E + 11), .ref (xB E + 12), .ref (xB E + 13), .ref (xB E + 14), .null, .null, .int 0, .int 0]), .inl (E.2.2.2 0, 100, .inl (fun _ => 0)), .inl (E.2.2.2 0, 100, .inl (fun _ => 0)), .inl (E.2.2.2 0, 100, .inl (fun _ => 0)), .inl (E.2.2.2 0, 100, .inl (fun _ => 0))]) rfl ?_
  refine x_aload_n dX3_init_36 rfl ?_
  refine x_bipush (v := (20 : Int32)) dX3_init_37 (by decide) ?_
  refine l_newa 0 (20, .inl fun _ => 0) 15 hP dX3_init_39 ka_int rfl (fun _ => rfl) (by decide) (by decide) (by decide) (by omega) (by omega) rfl ?_
  refine l_Q ([.inr (3, [.ref (xB E + 11), .ref (xB E + 12), .ref (xB E + 13), .ref (xB E + 14), .null, .null, .int 0, .int 0]), .inl (E.2.2.2 0, 100, .inl (fun _ => 0)), .inl (E.2.2.2 0, 100, .inl (fun _ => 0)), .inl (E.2.2.2 0, 100, .inl (fun _ => 0)), .inl (E.2.2.2 0, 100, .inl (fun _ => 0)), .inl (E.2.2.2 0, 20, .inl (fun _ => 0))]) rfl ?_
  refine l_putF (k := 4) 0 10 hP dX3_init_41 xcl_3 (by decide) kf_RX3_24 rfl rfl rfl rfl rfl rfl rfl (Nat.le_of_ble_eq_true rfl) ?_
  refine l_Q ([.inr (3, [.ref (xB E + 11), .ref (xB E + 12), .ref (xB E + 13), .ref (xB E + 14), .ref (xB E + 15), .null, .int 0, .int 0]), .inl (E.2.2.2 0, 100, .inl (fun _ => 0)), .inl (E.2.2.2 0, 100, .inl (fun _ => 0)), .inl (E.2.2.2 0, 100, .inl (fun _ => 0)), .inl (E.2.2.2 0, 100, .inl (fun _ => 0)), .inl (E.2.2.2 0, 20, .inl (fun _ => 0))]) rfl ?_
  refine x_aload_n dX3_init_44 rfl ?_
  refine x_bipush (v := (20 : Int32)) dX3_init_45 (by decide) ?_
  refine l_newa 0 (20, .inl fun _ => 0) 16 hP dX3_init_47 ka_int rfl (fun _ => rfl) (by decide) (by decide) (by decide) (by omega) (by omega) rfl ?_
  refine l_Q ([.inr (3, [.ref (xB E + 11), .ref (xB E + 12), .ref (xB E + 13), .ref (xB E + 14), .ref (xB E + 15), .null, .int 0, .int 0]), .inl (E.2.2.2 0, 100, .inl (fun _ => 0)), .inl (E.2.2.2 0, 100, .inl (fun _ => 0)), .inl (E.2.2.2 0, 100, .inl (fun _ => 0)), .inl (E.2.2.2 0, 100, .inl (fun _ => 0)), .inl (E.2.2.2 0, 20, .inl (fun _ => 0)), .inl (E.2.2.2 0, 20, .inl (fun _ => 0))]) rfl ?_
  refine l_putF (k := 5) 0 10 hP dX3_init_49 xcl_3 (by decide) kf_RX3_27 rfl rfl rfl rfl rfl rfl rfl (Nat.le_of_ble_eq_true rfl) ?_
  refine l_Q ([.inr (3, [.ref (xB E + 11), .ref (xB E + 12), .ref (xB E + 13), .ref (xB E + 14), .ref (xB E + 15), .ref (xB E + 16), .int 0, .int 0]), .inl (E.2.2.2 0, 100, .inl (fun _ => 0)), .inl (E.2.2.2 0, 100, .inl (fun _ => 0)), .inl (E.2.2.2 0, 100, .inl (fun _ => 0)), .inl (E.2.2.2 0, 100, .inl (fun _ => 0)), .inl (E.2.2.2 0, 20, .inl (fun _ => 0)), .inl (E.2.2.2 0, 20, .inl (fun _ => 0))]) rfl ?_
  exact x_vret dX3_init_52 rfl ⟨rfl, rfl⟩
def KF_X4_init_17 (E : xE) : List va_E := [.inr (4, [.ref (xB E + 18)]), .inl (E.2.2.2 4, 10, .inr (.inr (.inr (.inr (fun i => if i < 10 then some (xB E + (18 + 1 + i)) else none))))), .inl (E.2.2.2 0, 5, .inl (xfl (fun _ => 0) 5 (-1))), .inl (E.2.2.2 0, 5, .inl (xfl (fun _ => 0) 5 (-1))), .inl (E.2.2.2 0, 5, .inl (xfl (fun _ => 0) 5 (-1))), .inl (E.2.2.2 0, 5, .inl (xfl (fun _ => 0) 5 (-1))), .inl (E.2.2.2 0, 5, .inl (xfl (fun _ => 0) 5 (-1))), .inl (E.2.2.2 0, 5, .inl (xfl (fun _ => 0) 5 (-1))), .inl (E.2.2.2 0, 5, .inl (xfl (fun _ => 0) 5 (-1))), .inl (E.2.2.2 0, 5, .inl (xfl (fun _ => 0) 5 (-1))), .inl (E.2.2.2 0, 5, .inl (xfl (fun _ => 0) 5 (-1))), .inl (E.2.2.2 0, 5, .inl (xfl (fun _ => 0) 5 (-1)))]
set_option maxHeartbeats 40000000 in
set_option maxRecDepth 100000 in
theorem k_X4_init_17 {E : xE} (hAO : xAO E) {d : Nat} (hd : 2 ≤ d) {P : List va_E} (hP : P.length = 17) : xC E mX4_init d 11 60 [.ref (xB E + 17)] (xq 17 P [.inr (4, [.null])]) (fun r S => r = none ∧ S = xq 17 P (KF_X4_init_17 E)) := by
  refine x_enter (by decide +kernel) (Nat.le_of_ble_eq_true rfl) ?_
  refine x_aload_n dX4_init_0 rfl ?_
  refine x_obj dX4_init_1 ko_RX4_3 ko_i ko_c (Nat.le_of_ble_eq_true rfl) ?_
  refine x_aload_n dX4_init_4 rfl ?_
  refine x_bipush (v := (10 : Int32)) dX4_init_5 (by decide) ?_
  refine x_iconst (v := (5 : Int32)) dX4_init_7 (by decide) ?_
  refine l_mna (N' := 10) (K' := 5) 18 hP dX4_init_8 km_RX4_9 hAO ka_int (by decide) (by decide) (by decide) (by decide) (by decide) (by decide) (by omega) (by omega) rfl ?_
  refine l_Q ([.inr (4, [.null]), .inl (E.2.2.2 4, 10, .inr (.inr (.inr (.inr (fun i => if i < 10 then some (xB E + (18 + 1 + i)) else none))))), .inl (E.2.2.2 0, 5, .inl (fun _ => 0)), .inl (E.2.2.2 0, 5, .inl (fun _ => 0)), .inl (E.2.2.2 0, 5, .inl (fun _ => 0)), .inl (E.2.2.2 0, 5, .inl (fun _ => 0)), .inl (E.2.2.2 0, 5, .inl (fun _ => 0)), .inl (E.2.2.2 0, 5, .inl (fun _ => 0)), .inl (E.2.2.2 0, 5, .inl (fun _ => 0)), .inl (E.2.2.2 0, 5, .inl (fun _ => 0)), .inl (E.2.2.2 0, 5, .inl (fun _ => 0)), .inl (E.2.2.2 0, 5, .inl (fun _ => 0))]) rfl ?_
  refine l_putF (k := 0) 0 17 hP dX4_init_12 xcl_4 (by decide) kf_RX4_11 rfl rfl rfl rfl rfl rfl rfl (Nat.le_of_ble_eq_true rfl) ?_
  refine l_Q ([.inr (4, [.ref (xB E + 18)]), .inl (E.2.2.2 4, 10, .inr (.inr (.inr (.inr (fun i => if i < 10 then some (xB E + (18 + 1 + i)) else none))))), .inl (E.2.2.2 0, 5, .inl (fun _ => 0)), .inl (E.2.2.2 0, 5, .inl (fun _ => 0)), .inl (E.2.2.2 0, 5, .inl (fun _ => 0)), .inl (E.2.2.2 0, 5, .inl (fun _ => 0)), .inl (E.2.2.2 0, 5, .inl (fun _ => 0)), .inl (E.2.2.2 0, 5, .inl (fun _ => 0)), .inl (E.2.2.2 0, 5, .inl (fun _ => 0)), .inl (E.2.2.2 0, 5, .inl (fun _ => 0)), .inl (E.2.2.2 0, 5, .inl (fun _ => 0)), .inl (E.2.2.2 0, 5, .inl (fun _ => 0))]) rfl ?_
  refine x_iconst (v := (0 : Int32)) dX4_init_15 (by decide) ?_
  refine x_istore_n (lv' := [(0, .ref (xB E + 17)), (1, .int (0 : Int32))]) dX4_init_16 [1, 0] (Nat.le_of_ble_eq_true rfl) rfl ?_
  refine x_iload_n dX4_init_17 rfl ?_
  refine x_bipush (v := (10 : Int32)) dX4_init_18 (by decide) ?_
  refine x_icmp_ge 39 dX4_init_20 (by decide) (fun hc => absurd hc (by decide)) (fun _ => ?_)
  refine x_aload_n dX4_init_23 rfl ?_
  refine l_get (k := 0) (v := .ref (xB E + 18)) 0 17 hP dX4_init_24 xcl_4 (by decide) fl_RX4_11 rfl rfl rfl ?_
  refine x_iload_n dX4_init_27 rfl ?_
  refine l_aald (b := 19) 1 18 hP dX4_init_28 rfl rfl (by decide) rfl ?_
  refine x_iconst (v := (-1 : Int32)) dX4_init_29 (by decide) ?_
  refine l_cfill 2 19 hP dX4_init_30 cs_RX4_16 w_208 (by decide) rfl rfl (Nat.le_of_ble_eq_true rfl) (by omega) ?_
  refine l_Q ([.inr (4, [.ref (xB E + 18)]), .inl (E.2.2.2 4, 10, .inr (.inr (.inr (.inr (fun i => if i < 10 then some (xB E + (18 + 1 + i)) else none))))), .inl (E.2.2.2 0, 5, .inl (xfl (fun _ => 0) 5 (-1))), .inl (E.2.2.2 0, 5, .inl (fun _ => 0)), .inl (E.2.2.2 0, 5, .inl (fun _ => 0)), .inl (E.2.2.2 0, 5, .inl (fun _ => 0)), .inl (E.2.2.2 0, 5, .inl (fun _ => 0)), .inl (E.2.2.2 0, 5, .inl (fun _ => 0)), .inl (E.2.2.2 0, 5, .inl (fun _ => 0)), .inl (E.2.2.2 0, 5, .inl (fun _ => 0)), .inl (E.2.2.2 0, 5, .inl (fun _ => 0)), .inl (E.2.2.2 0, 5, .inl (fun _ => 0))]) rfl ?_
  refine x_iinc (v := (1 : Int32)) (lv' := [(0, .ref (xB E + 17)), (1, .int (1 : Int32))]) dX4_init_33 1 [1, 0] rfl rfl (Nat.le_of_ble_eq_true rfl) rfl ?_
  refine x_goto 17 dX4_init_36 (by decide) ?_
  refine x_iload_n dX4_init_17 rfl ?_
  refine x_bipush (v := (10 : Int32)) dX4_init_18 (by decide) ?_
  refine x_icmp_ge 39 dX4_init_20 (by decide) (fun hc => absurd hc (by decide)) (fun _ => ?_)
  refine x_aload_n dX4_init_23 rfl ?_
  refine l_get (k := 0) (v := .ref (xB E + 18)) 0 17 hP dX4_init_24 xcl_4 (by decide) fl_RX4_11 rfl rfl rfl ?_
  refine x_iload_n dX4_init_27 rfl ?_
  refine l_aald (b := 20) 1 18 hP dX4_init_28 rfl rfl (by decide) rfl ?_
  refine x_iconst (v := (-1 : Int32)) dX4_init_29 (by decide) ?_
  refine l_cfill 3 20 hP dX4_init_30 cs_RX4_16 w_208 (by decide) rfl rfl (Nat.le_of_ble_eq_true rfl) (by omega) ?_
  refine l_Q ([.inr (4, [.ref (xB E + 18)]), .inl (E.2.2.2 4, 10, .inr (.inr (.inr (.inr (fun i => if i < 10 then some (xB E + (18 + 1 + i)) else none))))), .inl (E.2.2.2 0, 5, .inl (xfl (fun _ => 0) 5 (-1))), .inl (E.2.2.2 0, 5, .inl (xfl (fun _ => 0) 5 (-1))), .inl (E.2.2.2 0, 5, .inl (fun _ => 0)), .inl (E.2.2.2 0, 5, .inl (fun _ => 0)), .inl (E.2.2.2 0, 5, .inl (fun _ => 0)), .inl (E.2.2.2 0, 5, .inl (fun _ => 0)), .inl (E.2.2.2 0, 5, .inl (fun _ => 0)), .inl (E.2.2.2 0, 5, .inl (fun _ => 0)), .inl (E.2.2.2 0, 5, .inl (fun _ => 0)), .inl (E.2.2.2 0, 5, .inl (fun _ => 0))]) rfl ?_
  refine x_iinc (v := (2 : Int32)) (lv' := [(0, .ref (xB E + 17)), (1, .int (2 : Int32))]) dX4_init_33 1 [1, 0] rfl rfl (Nat.le_of_ble_eq_true rfl) rfl ?_
  refine x_goto 17 dX4_init_36 (by decide) ?_
  refine x_iload_n dX4_init_17 rfl ?_
  refine x_bipush (v := (10 : Int32)) dX4_init_18 (by decide) ?_
  refine x_icmp_ge 39 dX4_init_20 (by decide) (fun hc => absurd hc (by decide)) (fun _ => ?_)
  refine x_aload_n dX4_init_23 rfl ?_
  refine l_get (k := 0) (v := .ref (xB E + 18)) 0 17 hP dX4_init_24 xcl_4 (by decide) fl_RX4_11 rfl rfl rfl ?_
  refine x_iload_n dX4_init_27 rfl ?_
  refine l_aald (b := 21) 1 18 hP dX4_init_28 rfl rfl (by decide) rfl ?_
  refine x_iconst (v := (-1 : Int32)) dX4_init_29 (by decide) ?_
  refine l_cfill 4 21 hP dX4_init_30 cs_RX4_16 w_208 (by decide) rfl rfl (Nat.le_of_ble_eq_true rfl) (by omega) ?_
  refine l_Q ([.inr (4, [.ref (xB E + 18)]), .inl (E.2.2.2 4, 10, .inr (.inr (.inr (.inr (fun i => if i < 10 then some (xB E + (18 + 1 + i)) else none))))), .inl (E.2.2.2 0, 5, .inl (xfl (fun _ => 0) 5 (-1))), .inl (E.2.2.2 0, 5, .inl (xfl (fun _ => 0) 5 (-1))), .inl (E.2.2.2 0, 5, .inl (xfl (fun _ => 0) 5 (-1))), .inl (E.2.2.2 0, 5, .inl (fun _ => 0)), .inl (E.2.2.2 0, 5, .inl (fun _ => 0)), .inl (E.2.2.2 0, 5, .inl (fun _ => 0)), .inl (E.2.2.2 0, 5, .inl (fun _ => 0)), .inl (E.2.2.2 0, 5, .inl (fun _ => 0)), .inl (E.2.2.2 0, 5, .inl (fun _ => 0)), .inl (E.2.2.2 0, 5, .inl (fun _ => 0))]) rfl ?_
  refine x_iinc (v := (3 : Int32)) (lv' := [(0, .ref (xB E + 17)), (1, .int (3 : Int32))]) dX4_init_33 1 [1, 0] rfl rfl (Nat.le_of_ble_eq_true rfl) rfl ?_
  refine x_goto 17 dX4_init_36 (by decide) ?_
  refine x_iload_n dX4_init_17 rfl ?_
  refine x_bipush (v := (10 : Int32)) dX4_init_18 (by decide) ?_
  refine x_icmp_ge 39 dX4_init_20 (by decide) (fun hc => absurd hc (by decide)) (fun _ => ?_)
  refine x_aload_n dX4_init_23 rfl ?_
  refine l_get (k := 0) (v := .ref (xB E + 18)) 0 17 hP dX4_init_24 xcl_4 (by decide) fl_RX4_11 rfl rfl rfl ?_
  refine x_iload_n dX4_init_27 rfl ?_
  refine l_aald (b := 22) 1 18 hP dX4_init_28 rfl rfl (by decide) rfl ?_
  refine x_iconst (v := (-1 : Int32)) dX4_init_29 (by decide) ?_
  refine l_cfill 5 22 hP dX4_init_30 cs_RX4_16 w_208 (by decide) rfl rfl (Nat.le_of_ble_eq_true rfl) (by omega) ?_
  refine l_Q ([.inr (4, [.ref (xB E + 18)]), .inl (E.2.2.2 4, 10, .inr (.inr (.inr (.inr (fun i => if i < 10 then some (xB E + (18 + 1 + i)) else none))))), .inl (E.2.2.2 0, 5, .inl (xfl (fun _ => 0) 5 (-1))), .inl (E.2.2.2 0, 5, .inl (xfl (fun _ => 0) 5 (-1))), .inl (E.2.2.2 0, 5, .inl (xfl (fun _ => 0) 5 (-1))), .inl (E.2.2.2 0, 5, .inl (xfl (fun _ => 0) 5 (-1))), .inl (E.2.2.2 0, 5, .inl (fun _ => 0)), .inl (E.2.2.2 0, 5, .inl (fun _ => 0)), .inl (E.2.2.2 0, 5, .inl (fun _ => 0)), .inl (E.2.2.2 0, 5, .inl (fun _ => 0)), .inl (E.2.2.2 0, 5, .inl (fun _ => 0)), .inl (E.2.2.2 0, 5, .inl (fun _ => 0))]) rfl ?_
  refine x_iinc (v := (4 : Int32)) (lv' := [(0, .ref (xB E + 17)), (1, .int (4 : Int32))]) dX4_init_33 1 [1, 0] rfl rfl (Nat.le_of_ble_eq_true rfl) rfl ?_
  refine x_goto 17 dX4_init_36 (by decide) ?_
  refine x_iload_n dX4_init_17 rfl ?_
  refine x_bipush (v := (10 : Int32)) dX4_init_18 (by decide) ?_
  refine x_icmp_ge 39 dX4_init_20 (by decide) (fun hc => absurd hc (by decide)) (fun _ => ?_)
  refine x_aload_n dX4_init_23 rfl ?_
  refine l_get (k := 0) (v := .ref (xB E + 18)) 0 17 hP dX4_init_24 xcl_4 (by decide) fl_RX4_11 rfl rfl rfl ?_
  refine x_iload_n dX4_init_27 rfl ?_
  refine l_aald (b := 23) 1 18 hP dX4_init_28 rfl rfl (by decide) rfl ?_
  refine x_iconst (v := (-1 : Int32)) dX4_init_29 (by decide) ?_
  refine l_cfill 6 23 hP dX4_init_30 cs_RX4_16 w_208 (by decide) rfl rfl (Nat.le_of_ble_eq_true rfl) (by omega) ?_
  refine l_Q ([.inr (4, [.ref (xB E + 18)]), .inl (E.2.2.2 4, 10, .inr (.inr (.inr (.inr (fun i => if i < 10 then some (xB E + (18 + 1 + i)) else none))))), .inl (E.2.2.2 0, 5, .inl (xfl (fun _ => 0) 5 (-1))), .inl (E.2.2.2 0, 5, .inl (xfl (fun _ => 0) 5 (-1))), .inl (E.2.2.2 0, 5, .inl (xfl (fun _ => 0) 5 (-1))), .inl (E.2.2.2 0, 5, .inl (xfl (fun _ => 0) 5 (-1))), .inl (E.2.2.2 0, 5, .inl (xfl (fun _ => 0) 5 (-1))), .inl (E.2.2.2 0, 5, .inl (fun _ => 0)), .inl (E.2.2.2 0, 5, .inl (fun _ => 0)), .inl (E.2.2.2 0, 5, .inl (fun _ => 0)), .inl (E.2.2.2 0, 5, .inl (fun _ => 0)), .inl (E.2.2.2 0, 5, .inl (fun _ => 0))]) rfl ?_
  refine x_iinc (v := (5 : Int32)) (lv' := [(0, .ref (xB E + 17)), (1, .int (5 : Int32))]) dX4_init_33 1 [1, 0] rfl rfl (Nat.le_of_ble_eq_true rfl) rfl ?_
  refine x_goto 17 dX4_init_36 (by decide) ?_
  refine x_iload_n dX4_init_17 rfl ?_
  refine x_bipush (v := (10 : Int32)) dX4_init_18 (by decide) ?_
  refine x_icmp_ge 39 dX4_init_20 (by decide) (fun hc => absurd hc (by decide)) (fun _ => ?_)
  refine x_aload_n dX4_init_23 rfl ?_
  refine l_get (k := 0) (v := .ref (xB E + 18)) 0 17 hP dX4_init_24 xcl_4 (by decide) fl_RX4_11 rfl rfl rfl ?_
  refine x_iload_n dX4_init_27 rfl ?_
  refine l_aald (b := 24) 1 18 hP dX4_init_28 rfl rfl (by decide) rfl ?_
  refine x_iconst (v := (-1 : Int32)) dX4_init_29 (by decide) ?_
  refine l_cfill 7 24 hP dX4_init_30 cs_RX4_16 w_208 (by decide) rfl rfl (Nat.le_of_ble_eq_true rfl) (by omega) ?_
  refine l_Q ([.inr (4, [.ref (xB E + 18)]), .inl (E.2.2.2 4, 10, .inr (.inr (.inr (.inr (fun i => if i < 10 then some (xB E + (18 + 1 + i)) else none))))), .inl (E.2.2.2 0, 5, .inl (xfl (fun _ => 0) 5 (-1))), .inl (E.2.2.2 0, 5, .inl (xfl (fun _ => 0) 5 (-1))), .inl (E.2.2.2 0, 5, .inl (xfl (fun _ => 0) 5 (-1))), .inl (E.2.2.2 0, 5, .inl (xfl (fun _ => 0) 5 (-1))), .inl (E.2.2.2 0, 5, .inl (xfl (fun _ => 0) 5 (-1))), .inl (E.2.2.2 0, 5, .inl (xfl (fun _ => 0) 5 (-1))), .inl (E.2.2.2 0, 5, .inl (fun _ => 0)), .inl (E.2.2.2 0, 5, .inl (fun _ => 0)), .inl (E.2.2.2 0, 5, .inl (fun _ => 0)), .inl (E.2.2.2 0, 5, .inl (fun _ => 0))]) rfl ?_
  refine x_iinc (v := (6 : Int32)) (lv' := [(0, .ref (xB E + 17)), (1, .int (6 : Int32))]) dX4_init_33 1 [1, 0] rfl rfl (Nat.le_of_ble_eq_true rfl) rfl ?_
  refine x_goto 17 dX4_init_36 (by decide) ?_
  refine x_iload_n dX4_init_17 rfl ?_
  refine x_bipush (v := (10 : Int32)) dX4_init_18 (by decide) ?_
  refine x_icmp_ge 39 dX4_init_20 (by decide) (fun hc => absurd hc (by decide)) (fun _ => ?_)
  refine x_aload_n dX4_init_23 rfl ?_
  refine l_get (k := 0) (v := .ref (xB E + 18)) 0 17 hP dX4_init_24 xcl_4 (by decide) fl_RX4_11 rfl rfl rfl ?_
  refine x_iload_n dX4_init_27 rfl ?_
  refine l_aald (b := 25) 1 18 hP dX4_init_28 rfl rfl (by decide) rfl ?_
  refine x_iconst (v := (-1 : Int32)) dX4_init_29 (by decide) ?_
  refine l_cfill 8 25 hP dX4_init_30 cs_RX4_16 w_208 (by decide) rfl rfl (Nat.le_of_ble_eq_true rfl) (by omega) ?_
  refine l_Q ([.inr (4, [.ref (xB E + 18)]), .inl (E.2.2.2 4, 10, .inr (.inr (.inr (.inr (fun i => if i < 10 then some (xB E + (18 + 1 + i)) else none))))), .inl (E.2.2.2 0, 5, .inl (xfl (fun _ => 0) 5 (-1))), .inl (E.2.2.2 0, 5, .inl (xfl (fun _ => 0) 5 (-1))), .inl (E.2.2.2 0, 5, .inl (xfl (fun _ => 0) 5 (-1))), .inl (E.2.2.2 0, 5, .inl (xfl (fun _ => 0) 5 (-1))), .inl (E.2.2.2 0, 5, .inl (xfl (fun _ => 0) 5 (-1))), .inl (E.2.2.2 0, 5, .inl (xfl (fun _ => 0) 5 (-1))), .inl (E.2.2.2 0, 5, .inl (xfl (fun _ => 0) 5 (-1))), .inl (E.2.2.2 0, 5, .inl (fun _ => 0)), .inl (E.2.2.2 0, 5, .inl (fun _ => 0)), .inl (E.2.2.2 0, 5, .inl (fun _ => 0))]) rfl ?_
  refine x_iinc (v := (7 : Int32)) (lv' := [(0, .ref (xB E + 17)), (1, .int (7 : Int32))]) dX4_init_33 1 [1, 0] rfl rfl (Nat.le_of_ble_eq_true rfl) rfl ?_
  refine x_goto 17 dX4_init_36 (by decide) ?_
  refine x_iload_n dX4_init_17 rfl ?_
  refine x_bipush (v := (10 : Int32)) dX4_init_18 (by decide) ?_
  refine x_icmp_ge 39 dX4_init_20 (by decide) (fun hc => absurd hc (by decide)) (fun _ => ?_)
  refine x_aload_n dX4_init_23 rfl ?_
  refine l_get (k := 0) (v := .ref (xB E + 18)) 0 17 hP dX4_init_24 xcl_4 (by decide) fl_RX4_11 rfl rfl rfl ?_
  refine x_iload_n dX4_init_27 rfl ?_
  refine l_aald (b := 26) 1 18 hP dX4_init_28 rfl rfl (by decide) rfl ?_
  refine x_iconst (v := (-1 : Int32)) dX4_init_29 (by decide) ?_
  refine l_cfill 9 26 hP dX4_init_30 cs_RX4_16 w_208 (by decide) rfl rfl (Nat.le_of_ble_eq_true rfl) (by omega) ?_
  refine l_Q ([.inr (4, [.ref (xB E + 18)]), .inl (E.2.2.2 4, 10, .inr (.inr (.inr (.inr (fun i => if i < 10 then some (xB E + (18 + 1 + i)) else none))))), .inl (E.2.2.2 0, 5, .inl (xfl (fun _ => 0) 5 (-1))), .inl (E.2.2.2 0, 5, .inl (xfl (fun _ => 0) 5 (-1))), .inl (E.2.2.2 0, 5, .inl (xfl (fun _ => 0) 5 (-1))), .inl (E.2.2.2 0, 5, .inl (xfl (fun _ => 0) 5 (-1))), .inl (E.2.2.2 0, 5, .inl (xfl (fun _ => 0) 5 (-1))), .inl (E.2.2.2 0, 5, .inl (xfl (fun _ => 0) 5 (-1))), .inl (E.2.2.2 0, 5, .inl (xfl (fun _ => 0) 5 (-1))), .inl (E.2.2.2 0, 5, .inl (xfl (fun _ => 0) 5 (-1))), .inl (E.2.2.2 0, 5, .inl (fun _ => 0)), .inl (E.2.2.2 0, 5, .inl (fun _ => 0))]) rfl ?_
  refine x_iinc (v := (8 : Int32)) (lv' := [(0, .ref (xB E + 17)), (1, .int (8 : Int32))]) dX4_init_33 1 [1, 0] rfl rfl (Nat.le_of_ble_eq_true rfl) rfl ?_
  refine x_goto 17 dX4_init_36 (by decide) ?_
  refine x_iload_n dX4_init_17 rfl ?_
  refine x_bipush (v := (10 : Int32)) dX4_init_18 (by decide) ?_
  refine x_icmp_ge 39 dX4_init_20 (by decide) (fun hc => absurd hc (by decide)) (fun _ => ?_)
  refine x_aload_n dX4_init_23 rfl ?_
  refine l_get (k := 0) (v := .ref (xB E + 18)) 0 17 hP dX4_init_24 xcl_4 (by decide) fl_RX4_11 rfl rfl rfl ?_
  refine x_iload_n dX4_init_27 rfl ?_
  refine l_aald (b := 27) 1 18 hP dX4_init_28 rfl rfl (by decide) rfl ?_
  refine x_iconst (v := (-1 : Int32)) dX4_init_29 (by decide) ?_
  refine l_cfill 10 27 hP dX4_init_30 cs_RX4_16 w_208 (by decide) rfl rfl (Nat.le_of_ble_eq_true rfl) (by omega) ?_
  refine l_Q ([.inr (4, [.ref (xB E + 18)]), .inl (E.2.2.2 4, 10, .inr (.inr (.inr (.inr (fun i => if i < 10 then some (xB E + (18 + 1 + i)) else none))))), .inl (E.2.2.2 0, 5, .inl (xfl (fun _ => 0) 5 (-1))), .inl (E.2.2.2 0, 5, .inl (xfl (fun _ => 0) 5 (-1))), .inl (E.2.2.2 0, 5, .inl (xfl (fun _ => 0) 5 (-1))), .inl (E.2.2.2 0, 5, .inl (xfl (fun _ => 0) 5 (-1))), .inl (E.2.2.2 0, 5, .inl (xfl (fun _ => 0) 5 (-1))), .inl (E.2.2.2 0, 5, .inl (xfl (fun _ => 0) 5 (-1))), .inl (E.2.2.2 0, 5, .inl (xfl (fun _ => 0) 5 (-1))), .inl (E.2.2.2 0, 5, .inl (xfl (fun _ => 0) 5 (-1))), .inl (E.2.2.2 0, 5, .inl (xfl (fun _ => 0) 5 (-1))), .inl (E.2.2.2 0, 5, .inl (fun _ => 0))]) rfl ?_
  refine x_iinc (v := (9 : Int32)) (lv' := [(0, .ref (xB E + 17)), (1, .int (9 : Int32))]) dX4_init_33 1 [1, 0] rfl rfl (Nat.le_of_ble_eq_true rfl) rfl ?_
  refine x_goto 17 dX4_init_36 (by decide) ?_
  refine x_iload_n dX4_init_17 rfl ?_
  refine x_bipush (v := (10 : Int32)) dX4_init_18 (by decide) ?_
  refine x_icmp_ge 39 dX4_init_20 (by decide) (fun hc => absurd hc (by decide)) (fun _ => ?_)
  refine x_aload_n dX4_init_23 rfl ?_
  refine l_get (k := 0) (v := .ref (xB E + 18)) 0 17 hP dX4_init_24 xcl_4 (by decide) fl_RX4_11 rfl rfl rfl ?_
  refine x_iload_n dX4_init_27 rfl ?_
  refine l_aald (b := 28) 1 18 hP dX4_init_28 rfl rfl (by decide) rfl ?_
  refine x_iconst (v := (-1 : Int32)) dX4_init_29 (by decide) ?_
  refine l_cfill 11 28 hP dX4_init_30 cs_RX4_16 w_208 (by decide) rfl rfl (Nat.le_of_ble_eq_true rfl) (by omega) ?_
  refine l_Q ([.inr (4, [.ref (xB E + 18)]), .inl (E.2.2.2 4, 10, .inr (.inr (.inr (.inr (fun i => if i < 10 then some (xB E + (18 + 1 + i)) else none))))), .inl (E.2.2.2 0, 5, .inl (xfl (fun _ => 0) 5 (-1))), .inl (E.2.2.2 0, 5, .inl (xfl (fun _ => 0) 5 (-1))), .inl (E.2.2.2 0, 5, .inl (xfl (fun _ => 0) 5 (-1))), .inl (E.2.2.2 0, 5, .inl (xfl (fun _ => 0) 5 (-1))), .inl (E.2.2.2 0, 5, .inl (xfl (fun _ => 0) 5 (-1))), .inl (E.2.2.2 0, 5, .inl (xfl (fun _ => 0) 5 (-1))), .inl (E.2.2.2 0, 5, .inl (xfl (fun _ => 0) 5 (-1))), .inl (E.2.2.2 0, 5, .inl (xfl (fun _ => 0) 5 (-1))), .inl (E.2.2.2 0, 5, .inl (xfl (fun _ => 0) 5 (-1))), .inl (E.2.2.2 0, 5, .inl (xfl (fun _ => 0) 5 (-1)))]) rfl ?_
  refine x_iinc (v := (10 : Int32)) (lv' := [(0, .ref (xB E + 17)), (1, .int (10 : Int32))]) dX4_init_33 1 [1, 0] rfl rfl (Nat.le_of_ble_eq_true rfl) rfl ?_
  refine x_goto 17 dX4_init_36 (by decide) ?_
  refine x_iload_n dX4_init_17 rfl ?_
  refine x_bipush (v := (10 : Int32)) dX4_init_18 (by decide) ?_
  refine x_icmp_ge 39 dX4_init_20 (by decide) (fun _ => ?_) (fun hc => absurd (by decide) hc)
  exact x_vret dX4_init_39 rfl ⟨rfl, rfl⟩
def KF_X7_init_29 (E : xE) : List va_E := [.inr (7, [.ref (xB E + 30), .int 0]), .inl (E.2.2.2 1, 600, .inl (fun _ => 0))]
set_option maxHeartbeats 40000000 in
set_option maxRecDepth 100000 in
theorem k_X7_init_29 {E : xE} (hAO : xAO E) {d : Nat} (hd : 1 ≤ d) {P : List va_E} (hP : P.length = 29) : xC E mX7_init d 1 600 [.ref (xB E + 29)] (xq 29 P [.inr (7, [.null, .int 0])]) (fun r S => r = none ∧ S = xq 29 P (KF_X7_init_29 E)) := by
  refine x_enter (by decide +kernel) (Nat.le_of_ble_eq_true rfl) ?_
  refine x_aload_n dX7_init_0 rfl ?_
  refine x_obj dX7_init_1 ko_RX7_3 ko_i ko_c (Nat.le_of_ble_eq_true rfl) ?_
  refine x_aload_n dX7_init_4 rfl ?_
  refine x_sipush (v := (600 : Int32)) dX7_init_5 (by decide) ?_
  refine l_newa 1 (600, .inl fun _ => 0) 30 hP dX7_init_8 ka_byte rfl (fun _ => rfl) (by decide) (by decide) (by decide) (by omega) (by omega) rfl ?_
  refine l_Q ([.inr (7, [.null, .int 0]), .inl (E.2.2.2 1, 600, .inl (fun _ => 0))]) rfl ?_
  refine l_putF (k := 0) 0 29 hP dX7_init_10 xcl_7 (by decide) kf_RX7_9 rfl rfl rfl rfl rfl rfl rfl (Nat.le_of_ble_eq_true rfl) ?_
  refine l_Q ([.inr (7, [.ref (xB E + 30), .int 0]), .inl (E.2.2.2 1, 600, .inl (fun _ => 0))]) rfl ?_
  exact x_vret dX7_init_13 rfl ⟨rfl, rfl⟩
def KF_X8_init_32 (E : xE) : List va_E := [.inr (8, [.ref (xB E + 33), .ref (xB E + 34), .ref (xB E + 35), .int 0]), .inl (E.2.2.2 0, 601, .inl (fun _ => 0)), .inl (E.2.2.2 0, 601, .inl (fun _ => 0)), .inl (E.2.2.2 0, 601, .inl (fun _ => 0))]
set_option maxHeartbeats 40000000 in
set_option maxRecDepth 100000 in
theorem k_X8_init_32 {E : xE} (hAO : xAO E) {d : Nat} (hd : 1 ≤ d) {P : List va_E} (hP : P.length = 32) : xC E mX8_init d 3 1803 [.ref (xB E + 32)] (xq 32 P [.inr (8, [.null, .null, .null, .int 0])]) (fun r S => r = none ∧ S = xq 32 P (KF_X8_init_32 E)) := by
  refine x_enter (by decide +kernel) (Nat.le_of_ble_eq_true rfl) ?_
  refine x_aload_n dX8_init_0 rfl ?_
  refine x_obj dX8_init_1 ko_RX8_3 ko_i ko_c (Nat.le_of_ble_eq_true rfl) ?_
  refine x_aload_n dX8_init_4 rfl ?_
  refine x_sipush (v := (601 : Int32)) dX8_init_5 (by decide) ?_
  refine l_newa 0 (601, .inl fun _ => 0) 33 hP dX8_init_8 ka_int rfl (fun _ => rfl) (by decide) (by decide) (by decide) (by omega) (by omega) rfl ?_
  refine l_Q ([.inr (8, [.null, .null, .null, .int 0]), .inl (E.2.2.2 0, 601, .inl (fun _ => 0))]) rfl ?_
  refine l_putF (k := 0) 0 32 hP dX8_init_10 xcl_8 (by decide) kf_RX8_9 rfl rfl rfl rfl rfl rfl rfl (Nat.le_of_ble_eq_true rfl) ?_
  refine l_Q ([.inr (8, [.ref (xB E + 33), .null, .null, .int 0]), .inl (E.2.2.2 0, 601, .inl (fun _ => 0))]) rfl ?_
  refine x_aload_n dX8_init_13 rfl ?_
  refine x_sipush (v := (601 : Int32)) dX8_init_14 (by decide) ?_
  refine l_newa 0 (601, .inl fun _ => 0) 34 hP dX8_init_17 ka_int rfl (fun _ => rfl) (by decide) (by decide) (by decide) (by omega) (by omega) rfl ?_
  refine l_Q ([.inr (8, [.ref (xB E + 33), .null, .null, .int 0]), .inl (E.2.2.2 0, 601, .inl (fun _ => 0)), .inl (E.2.2.2 0, 601, .inl (fun _ => 0))]) rfl ?_
  refine l_putF (k := 1) 0 32 hP dX8_init_19 xcl_8 (by decide) kf_RX8_15 rfl rfl rfl rfl rfl rfl rfl (Nat.le_of_ble_eq_true rfl) ?_
  refine l_Q ([.inr (8, [.ref (xB E + 33), .ref (xB E + 34), .null, .int 0]), .inl (E.2.2.2 0, 601, .inl (fun _ => 0)), .inl (E.2.2.2 0, 601, .inl (fun _ => 0))]) rfl ?_
  refine x_aload_n dX8_init_22 rfl ?_
  refine x_sipush (v := (601 : Int32)) dX8_init_23 (by decide) ?_
  refine l_newa 0 (601, .inl fun _ => 0) 35 hP dX8_init_26 ka_int rfl (fun _ => rfl) (by decide) (by decide) (by decide) (by omega) (by omega) rfl ?_
  refine l_Q ([.inr (8, [.ref (xB E + 33), .ref (xB E + 34), .null, .int 0]), .inl (E.2.2.2 0, 601, .inl (fun _ => 0)), .inl (E.2.2.2 0, 601, .inl (fun _ => 0)), .inl (E.2.2.2 0, 601, .inl (fun _ => 0))]) rfl ?_
  refine l_putF (k := 2) 0 32 hP dX8_init_28 xcl_8 (by decide) kf_RX8_18 rfl rfl rfl rfl rfl rfl rfl (Nat.le_of_ble_eq_true rfl) ?_
  refine l_Q ([.inr (8, [.ref (xB E + 33), .ref (xB E + 34), .ref (xB E + 35), .int 0]), .inl (E.2.2.2 0, 601, .inl (fun _ => 0)), .inl (E.2.2.2 0, 601, .inl (fun _ => 0)), .inl (E.2.2.2 0, 601, .inl (fun _ => 0))]) rfl ?_
  exact x_vret dX8_init_31 rfl ⟨rfl, rfl⟩
def KF_X6_init_36 (E : xE) : List va_E := [.inr (6, [.ref (xB E + 37), .ref (xB E + 38), .ref (xB E + 39), .ref (xB E + 40), .int 0, .int 0]), .inl (E.2.2.2 0, 600, .inl (fun _ => 0)), .inl (E.2.2.2 0, 16, .inl (fun _ => 0)), .inl (E.2.2.2 0, 16, .inl (fun _ => 0)), .inl (E.2.2.2 0, 32, .inl (fun _ => 0))]
set_option maxHeartbeats 40000000 in
set_option maxRecDepth 100000 in
theorem k_X6_init_36 {E : xE} (hAO : xAO E) {d : Nat} (hd : 1 ≤ d) {P : List va_E} (hP : P.length = 36) : xC E mX6_init d 4 664 [.ref (xB E + 36)] (xq 36 P [.inr (6, [.null, .null, .null, .null, .int 0, .int 0])]) (fun r S => r = none ∧ S = xq 36 P (KF_X6_init_36 E)) := by
  refine x_enter (by decide +kernel) (Nat.le_of_ble_eq_true rfl) ?_
  refine x_aload_n dX6_init_0 rfl ?_
  refine x_obj dX6_init_1 ko_RX6_3 ko_i ko_c (Nat.le_of_ble_eq_true rfl) ?_
  refine x_aload_n dX6_init_4 rfl ?_
  refine x_sipush (v := (600 : Int32)) dX6_init_5 (by decide) ?_
  refine l_newa 0 (600, .inl fun _ => 0) 37 hP dX6_init_8 ka_int rfl (fun _ => rfl) (by decide) (by decide) (by decide) (by omega) (by omega) rfl ?_
  refine l_Q ([.inr (6, [.null, .null, .null, .null, .int 0, .int 0]), .inl (E.2.2.2 0, 600, .inl (fun _ => 0))]) rfl ?_
  refine l_putF (k := 0) 0 36 hP dX6_init_10 xcl_6 (by decide) kf_RX6_9 rfl rfl rfl rfl rfl rfl rfl (Nat.le_of_ble_eq_true rfl) ?_
  refine l_Q ([.inr (6, [.ref (xB E + 37), .null, .null, .null, .int 0, .int 0]), .inl (E.2.2.2 0, 600, .inl (fun _ => 0))]) rfl ?_
  refine x_aload_n dX6_init_13 rfl ?_
  refine x_bipush (v := (16 : Int32)) dX6_init_14 (by decide) ?_
  refine l_newa 0 (16, .inl fun _ => 0) 38 hP dX6_init_16 ka_int rfl (fun _ => rfl) (by decide) (by decide) (by decide) (by omega) (by omega) rfl ?_
  refine l_Q ([.inr (6, [.ref (xB E + 37), .null, .null, .null, .int 0, .int 0]), .inl (E.2.2.2 0, 600, .inl (fun _ => 0)), .inl (E.2.2.2 0, 16, .inl (fun _ => 0))]) rfl ?_
  refine l_putF (k := 1) 0 36 hP dX6_init_18 xcl_6 (by decide) kf_RX6_15 rfl rfl rfl rfl rfl rfl rfl (Nat.le_of_ble_eq_true rfl) ?_
  refine l_Q ([.inr (6, [.ref (xB E + 37), .ref (xB E + 38), .null, .null, .int 0, .int 0]), .inl (E.2.2.2 0, 600, .inl (fun _ => 0)), .inl (E.2.2.2 0, 16, .inl (fun _ => 0))]) rfl ?_
  refine x_aload_n dX6_init_21 rfl ?_
  refine x_bipush (v := (16 : Int32)) dX6_init_22 (by decide) ?_
  refine l_newa 0 (16, .inl fun _ => 0) 39 hP dX6_init_24 ka_int rfl (fun _ => rfl) (by decide) (by decide) (by decide) (by omega) (by omega) rfl ?_
  refine l_Q ([.inr (6, [.ref (xB E + 37), .ref (xB E + 38), .null, .null, .int 0, .int 0]), .inl (E.2.2.2 0, 600, .inl (fun _ => 0)), .inl (E.2.2.2 0, 16, .inl (fun _ => 0)), .inl (E.2.2.2 0, 16, .inl (fun _ => 0))]) rfl ?_
  refine l_putF (k := 2) 0 36 hP dX6_init_26 xcl_6 (by decide) kf_RX6_18 rfl rfl rfl rfl rfl rfl rfl (Nat.le_of_ble_eq_true rfl) ?_
  refine l_Q ([.inr (6, [.ref (xB E + 37), .ref (xB E + 38), .ref (xB E + 39), .null, .int 0, .int 0]), .inl (E.2.2.2 0, 600, .inl (fun _ => 0)), .inl (E.2.2.2 0, 16, .inl (fun _ => 0)), .inl (E.2.2.2 0, 16, .inl (fun _ => 0))]) rfl ?_
  refine x_aload_n dX6_init_29 rfl ?_
  refine x_bipush (v := (32 : Int32)) dX6_init_30 (by decide) ?_
  refine l_newa 0 (32, .inl fun _ => 0) 40 hP dX6_init_32 ka_int rfl (fun _ => rfl) (by decide) (by decide) (by decide) (by omega) (by omega) rfl ?_
  refine l_Q ([.inr (6, [.ref (xB E + 37), .ref (xB E + 38), .ref (xB E + 39), .null, .int 0, .int 0]), .inl (E.2.2.2 0, 600, .inl (fun _ => 0)), .inl (E.2.2.2 0, 16, .inl (fun _ => 0)), .inl (E.2.2.2 0, 16, .inl (fun _ => 0)), .inl (E.2.2.2 0, 32, .inl (fun _ => 0))]) rfl ?_
  refine l_putF (k := 3) 0 36 hP dX6_init_34 xcl_6 (by decide) kf_RX6_21 rfl rfl rfl rfl rfl rfl rfl (Nat.le_of_ble_eq_true rfl) ?_
  refine l_Q ([.inr (6, [.ref (xB E + 37), .ref (xB E + 38), .ref (xB E + 39), .ref (xB E + 40), .int 0, .int 0]), .inl (E.2.2.2 0, 600, .inl (fun _ => 0)), .inl (E.2.2.2 0, 16, .inl (fun _ => 0)), .inl (E.2.2.2 0, 16, .inl (fun _ => 0)), .inl (E.2.2.2 0, 32, .inl (fun _ => 0))]) rfl ?_
  exact x_vret dX6_init_37 rfl ⟨rfl, rfl⟩
def KF_X5_init_31 (E : xE) : List va_E := (.inr (5, [.ref (xB E + 32), .ref (xB E + 36), .int 0, .int 0]) : va_E) :: (KF_X8_init_32 E ++ (KF_X6_init_36 E ++ ([])))
set_option maxHeartbeats 40000000 in
set_option maxRecDepth 100000 in
theorem k_X5_init_31 {E : xE} (hAO : xAO E) {d : Nat} (hd : 2 ≤ d) {P : List va_E} (hP : P.length = 31) : xC E mX5_init d 9 2477 [.ref (xB E + 31)] (xq 31 P [.inr (5, [.null, .null, .int 0, .int 0])]) (fun r S => r = none ∧ S = xq 31 P (KF_X5_init_31 E)) := by
  refine x_enter (by decide +kernel) (Nat.le_of_ble_eq_true rfl) ?_
  refine x_aload_n dX5_init_0 rfl ?_
  refine x_obj dX5_init_1 ko_RX5_3 ko_i ko_c (Nat.le_of_ble_eq_true rfl) ?_
  refine x_aload_n dX5_init_4 rfl ?_
  refine l_new [.null, .null, .null, .int 0] 32 hP dX5_init_5 xcl_8 kc_RX5_9 kn_8 w_94 kd_8 (by omega) (by omega) rfl ?_
  refine x_dup dX5_init_8 rfl ?_
  refine l_callI mX8_init (d' := d - 1) (KF_X8_init_32 E) hP (k := 1) rfl rfl dX5_init_9 cs_RX5_11 w_241 rfl rfl rfl (Nat.le_of_ble_eq_true rfl) (by omega) (by omega) (by omega) (fun h => k_X8_init_32 hAO (d := d - 1) (by omega) h) ?_
  refine l_Q ((.inr (5, [.null, .null, .int 0, .int 0]) : va_E) :: (KF_X8_init_32 E ++ ([]))) rfl ?_
  refine l_putF (k := 0) 0 31 hP dX5_init_12 xcl_5 (by decide) kf_RX5_12 rfl rfl rfl rfl rfl rfl rfl (Nat.le_of_ble_eq_true rfl) ?_
  refine l_Q ((.inr (5, [.ref (xB E + 32), .null, .int 0, .int 0]) : va_E) :: (KF_X8_init_32 E ++ ([]))) rfl ?_
  refine x_aload_n dX5_init_15 rfl ?_
  refine l_new [.null, .null, .null, .null, .int 0, .int 0] 36 hP dX5_init_16 xcl_6 kc_RX5_18 kn_6 w_95 kd_6 (by omega) (by omega) rfl ?_
  refine x_dup dX5_init_19 rfl ?_
  refine l_callI mX6_init (d' := d - 1) (KF_X6_init_36 E) hP (k := 5) rfl rfl dX5_init_20 cs_RX5_20 w_264 rfl rfl rfl (Nat.le_of_ble_eq_true rfl) (by omega) (by omega) (by omega) (fun h => k_X6_init_36 hAO (d := d - 1) (by omega) h) ?_
  refine l_Q ((.inr (5, [.ref (xB E + 32), .null, .int 0, .int 0]) : va_E) :: (KF_X8_init_32 E ++ (KF_X6_init_36 E ++ ([])))) rfl ?_
  refine l_putF (k := 1) 0 31 hP dX5_init_23 xcl_5 (by decide) kf_RX5_21 rfl rfl rfl rfl rfl rfl rfl (Nat.le_of_ble_eq_true rfl) ?_
  refine l_Q ((.inr (5, [.ref (xB E + 32), .ref (xB E + 36), .int 0, .int 0]) : va_E) :: (KF_X8_init_32 E ++ (KF_X6_init_36 E ++ ([])))) rfl ?_
  exact x_vret dX5_init_26 rfl ⟨rfl, rfl⟩
def KF_X6_init_41 (E : xE) : List va_E := [.inr (6, [.ref (xB E + 42), .ref (xB E + 43), .ref (xB E + 44), .ref (xB E + 45), .int 0, .int 0]), .inl (E.2.2.2 0, 600, .inl (fun _ => 0)), .inl (E.2.2.2 0, 16, .inl (fun _ => 0)), .inl (E.2.2.2 0, 16, .inl (fun _ => 0)), .inl (E.2.2.2 0, 32, .inl (fun _ => 0))]
set_option maxHeartbeats 40000000 in
set_option maxRecDepth 100000 in
theorem k_X6_init_41 {E : xE} (hAO : xAO E) {d : Nat} (hd : 1 ≤ d) {P : List va_E} (hP : P.length = 41) : xC E mX6_init d 4 664 [.ref (xB E + 41)] (xq 41 P [.inr (6, [.null, .null, .null, .null, .int 0, .int 0])]) (fun r S => r = none ∧ S = xq 41 P (KF_X6_init_41 E)) := by
  refine x_enter (by decide +kernel) (Nat.le_of_ble_eq_true rfl) ?_
  refine x_aload_n dX6_init_0 rfl ?_
  refine x_obj dX6_init_1 ko_RX6_3 ko_i ko_c (Nat.le_of_ble_eq_true rfl) ?_
  refine x_aload_n dX6_init_4 rfl ?_
  refine x_sipush (v := (600 : Int32)) dX6_init_5 (by decide) ?_
  refine l_newa 0 (600, .inl fun _ => 0) 42 hP dX6_init_8 ka_int rfl (fun _ => rfl) (by decide) (by decide) (by decide) (by omega) (by omega) rfl ?_
  refine l_Q ([.inr (6, [.null, .null, .null, .null, .int 0, .int 0]), .inl (E.2.2.2 0, 600, .inl (fun _ => 0))]) rfl ?_
  refine l_putF (k := 0) 0 41 hP dX6_init_10 xcl_6 (by decide) kf_RX6_9 rfl rfl rfl rfl rfl rfl rfl (Nat.le_of_ble_eq_true rfl) ?_
  refine l_Q ([.inr (6, [.ref (xB E + 42), .null, .null, .null, .int 0, .int 0]), .inl (E.2.2.2 0, 600, .inl (fun _ => 0))]) rfl ?_
  refine x_aload_n dX6_init_13 rfl ?_
  refine x_bipush (v := (16 : Int32)) dX6_init_14 (by decide) ?_
  refine l_newa 0 (16, .inl fun _ => 0) 43 hP dX6_init_16 ka_int rfl (fun _ => rfl) (by decide) (by decide) (by decide) (by omega) (by omega) rfl ?_
  refine l_Q ([.inr (6, [.ref (xB E + 42), .null, .null, .null, .int 0, .int 0]), .inl (E.2.2.2 0, 600, .inl (fun _ => 0)), .inl (E.2.2.2 0, 16, .inl (fun _ => 0))]) rfl ?_
  refine l_putF (k := 1) 0 41 hP dX6_init_18 xcl_6 (by decide) kf_RX6_15 rfl rfl rfl rfl rfl rfl rfl (Nat.le_of_ble_eq_true rfl) ?_
  refine l_Q ([.inr (6, [.ref (xB E + 42), .ref (xB E + 43), .null, .null, .int 0, .int 0]), .inl (E.2.2.2 0, 600, .inl (fun _ => 0)), .inl (E.2.2.2 0, 16, .inl (fun _ => 0))]) rfl ?_
  refine x_aload_n dX6_init_21 rfl ?_
  refine x_bipush (v := (16 : Int32)) dX6_init_22 (by decide) ?_
  refine l_newa 0 (16, .inl fun _ => 0) 44 hP dX6_init_24 ka_int rfl (fun _ => rfl) (by decide) (by decide) (by decide) (by omega) (by omega) rfl ?_
  refine l_Q ([.inr (6, [.ref (xB E + 42), .ref (xB E + 43), .null, .null, .int 0, .int 0]), .inl (E.2.2.2 0, 600, .inl (fun _ => 0)), .inl (E.2.2.2 0, 16, .inl (fun _ => 0)), .inl (E.2.2.2 0, 16, .inl (fun _ => 0))]) rfl ?_
  refine l_putF (k := 2) 0 41 hP dX6_init_26 xcl_6 (by decide) kf_RX6_18 rfl rfl rfl rfl rfl rfl rfl (Nat.le_of_ble_eq_true rfl) ?_
  refine l_Q ([.inr (6, [.ref (xB E + 42), .ref (xB E + 43), .ref (xB E + 44), .null, .int 0, .int 0]), .inl (E.2.2.2 0, 600, .inl (fun _ => 0)), .inl (E.2.2.2 0, 16, .inl (fun _ => 0)), .inl (E.2.2.2 0, 16, .inl (fun _ => 0))]) rfl ?_
  refine x_aload_n dX6_init_29 rfl ?_
  refine x_bipush (v := (32 : Int32)) dX6_init_30 (by decide) ?_
  refine l_newa 0 (32, .inl fun _ => 0) 45 hP dX6_init_32 ka_int rfl (fun _ => rfl) (by decide) (by decide) (by decide) (by omega) (by omega) rfl ?_
  refine l_Q ([.inr (6, [.ref (xB E + 42), .ref (xB E + 43), .ref (xB E + 44), .null, .int 0, .int 0]), .inl (E.2.2.2 0, 600, .inl (fun _ => 0)), .inl (E.2.2.2 0, 16, .inl (fun _ => 0)), .inl (E.2.2.2 0, 16, .inl (fun _ => 0)), .inl (E.2.2.2 0, 32, .inl (fun _ => 0))]) rfl ?_
  refine l_putF (k := 3) 0 41 hP dX6_init_34 xcl_6 (by decide) kf_RX6_21 rfl rfl rfl rfl rfl rfl rfl (Nat.le_of_ble_eq_true rfl) ?_
  refine l_Q ([.inr (6, [.ref (xB E + 42), .ref (xB E + 43), .ref (xB E + 44), .ref (xB E + 45), .int 0, .int 0]), .inl (E.2.2.2 0, 600, .inl (fun _ => 0)), .inl (E.2.2.2 0, 16, .inl (fun _ => 0)), .inl (E.2.2.2 0, 16, .inl (fun _ => 0)), .inl (E.2.2.2 0, 32, .inl (fun _ => 0))]) rfl ?_
  exact x_vret dX6_init_37 rfl ⟨rfl, rfl⟩
def KF_X1_init_46 (E : xE) : List va_E := [.inr (1, [.ref (xB E + 47), .ref (xB E + 58), .ref (xB E + 69), .ref (xB E + 80), .int 0]), .inl (E.2.2.2 4, 10, .inr (.inr (.inr (.inr (fun i => if i < 10 then some (xB E + (47 + 1 + i)) else none))))), .inl (E.2.2.2 0, 60, .inl (fun _ => 0)), .inl (E.2.2.2 0, 60, .inl (fun _ => 0)), .inl (E.2.2.2 0, 60, .inl (fun _ => 0)), .inl (E.2.2.2 0, 60, .inl (fun _ => 0)), .inl (E.2.2.2 0, 60, .inl (fun _ => 0)), .inl (E.2.2.2 0, 60, .inl (fun _ => 0)), .inl (E.2.2.2 0, 60, .inl (fun _ => 0)), .inl (E.2.2.2 0, 60, .inl (fun _ => 0)), .inl (E.2.2.2 0, 60, .inl (fun _ => 0)), .inl (E.2.2.2 0, 60, .inl (fun _ => 0)), .inl (E.2.2.2 4, 10, .inr (.inr (.inr (.inr (fun i => if i < 10 then some (xB E + (58 + 1 + i)) else none))))), .inl (E.2.2.2 0, 60, .inl (fun _ => 0)), .inl (E.2.2.2 0, 60, .inl (fun _ => 0)), .inl (E.2.2.2 0, 60, .inl (fun _ => 0)), .inl (E.2.2.2 0, 60, .inl (fun _ => 0)), .inl (E.2.2.2 0, 60, .inl (fun _ => 0)), .inl (E.2.2.2 0, 60, .inl (fun _ => 0)), .inl (E.2.2.2 0, 60, .inl (fun _ => 0)), .inl (E.2.2.2 0, 60, .inl (fun _ => 0)), .inl (E.2.2.2 0, 60, .inl (fun _ => 0)), .inl (E.2.2.2 0, 60, .inl (fun _ => 0)), .inl (E.2.2.2 4, 10, .inr (.inr (.inr (.inr (fun i => if i < 10 then some (xB E + (69 + 1 + i)) else none))))), .inl (E.2.2.2 0, 10, .inl (fun _ => 0)), .inl (E.2.2.2 0, 10, .inl (fun _ => 0)), .inl (E.2.2.2 0, 10, .inl (fun _ => 0)), .inl (E.2.2.2 0, 10, .inl (fun _ => 0)), .inl (E.2.2.2 0, 10, .inl (fun _ => 0)), .inl (E.2.2.2 0, 10, .inl (fun _ => 0)), .inl (E.2.2.2 0, 10, .inl (fun _ => 0)), .inl (E.2.2.2 0, 10, .inl (fun _ => 0)), .inl (E.2.2.2 0, 10, .inl (fun _ => 0)), .inl (E.2.2.2 0, 10, .inl (fun _ => 0)), .inl (E.2.2.2 0, 10, .inl (fun _ => 0))]
set_option maxHeartbeats 40000000 in
set_option maxRecDepth 100000 in
theorem k_X1_init_46 {E : xE} (hAO : xAO E) {d : Nat} (hd : 1 ≤ d) {P : List va_E} (hP : P.length = 46) : xC E mX1_init d 34 1340 [.ref (xB E + 46)] (xq 46 P [.inr (1, [.null, .null, .null, .null, .int 0])]) (fun r S => r = none ∧ S = xq 46 P (KF_X1_init_46 E)) := by
  refine x_enter (by decide +kernel) (Nat.le_of_ble_eq_true rfl) ?_
  refine x_aload_n dX1_init_0 rfl ?_
  refine x_obj dX1_init_1 ko_RX1_3 ko_i ko_c (Nat.le_of_ble_eq_true rfl) ?_
  refine x_aload_n dX1_init_4 rfl ?_
  refine x_bipush (v := (10 : Int32)) dX1_init_5 (by decide) ?_
  refine x_bipush (v := (60 : Int32)) dX1_init_7 (by decide) ?_
  refine l_mna (N' := 10) (K' := 60) 47 hP dX1_init_9 km_RX1_9 hAO ka_int (by decide) (by decide) (by decide) (by decide) (by decide) (by decide) (by omega) (by omega) rfl ?_
  refine l_Q ([.inr (1, [.null, .null, .null, .null, .int 0]), .inl (E.2.2.2 4, 10, .inr (.inr (.inr (.inr (fun i => if i < 10 then some (xB E + (47 + 1 + i)) else none))))), .inl (E.2.2.2 0, 60, .inl (fun _ => 0)), .inl (E.2.2.2 0, 60, .inl (fun _ => 0)), .inl (E.2.2.2 0, 60, .inl (fun _ => 0)), .inl (E.2.2.2 0, 60, .inl (fun _ => 0)), .inl (E.2.2.2 0, 60, .inl (fun _ => 0)), .inl (E.2.2.2 0, 60, .inl (fun _ => 0)), .inl (E.2.2.2 0, 60, .inl (fun _ => 0)), .inl (E.2.2.2 0, 60, .inl (fun _ => 0)), .inl (E.2.2.2 0, 60, .inl (fun _ => 0)), .inl (E.2.2.2 0, 60, .inl (fun _ => 0))]) rfl ?_
  refine l_putF (k := 0) 0 46 hP dX1_init_13 xcl_1 (by decide) kf_RX1_11 rfl rfl rfl rfl rfl rfl rfl (Nat.le_of_ble_eq_true rfl) ?_
  refine l_Q ([.inr (1, [.ref (xB E + 47), .null, .null, .null, .int 0]), .inl (E.2.2.2 4, 10, .inr (.inr (.inr (.inr (fun i => if i < 10 then some (xB E + (47 + 1 + i)) else none))))), .inl (E.2.2.2 0, 60, .inl (fun _ => 0)), .inl (E.2.2.2 0, 60, .inl (fun _ => 0)), .inl (E.2.2.2 0, 60, .inl (fun _ => 0)), .inl (E.2.2.2 0, 60, .inl (fun _ => 0)), .inl (E.2.2.2 0, 60, .inl (fun _ => 0)), .inl (E.2.2.2 0, 60, .inl (fun _ => 0)), .inl (E.2.2.2 0, 60, .inl (fun _ => 0)), .inl (E.2.2.2 0, 60, .inl (fun _ => 0)), .inl (E.2.2.2 0, 60, .inl (fun _ => 0)), .inl (E.2.2.2 0, 60, .inl (fun _ => 0))]) rfl ?_
  refine x_aload_n dX1_init_16 rfl ?_
  refine x_bipush (v := (10 : Int32)) dX1_init_17 (by decide) ?_
  refine x_bipush (v := (60 : Int32)) dX1_init_19 (by decide) ?_
  refine l_mna (N' := 10) (K' := 60) 58 hP dX1_init_21 km_RX1_9 hAO ka_int (by decide) (by decide) (by decide) (by decide) (by decide) (by decide) (by omega) (by omega) rfl ?_
  refine l_Q ([.inr (1, [.ref (xB E + 47), .null, .null, .null, .int 0]), .inl (E.2.2.2 4, 10, .inr (.inr (.inr (.inr (fun i => if i < 10 then some (xB E + (47 + 1 + i)) else none))))), .inl (E.2.2.2 0, 60, .inl (fun _ => 0)), .inl (E.2.2.2 0, 60, .inl (fun _ => 0)), .inl (E.2.2.2 0, 60, .inl (fun _ => 0)), .inl (E.2.2.2 0, 60, .inl (fun _ => 0)), .inl (E.2.2.2 0, 60, .inl (fun _ => 0)), .inl (E.2.2.2 0, 60, .inl (fun _ => 0)), .inl (E.2.2.2 0, 60, .inl (fun _ => 0)), .inl (E.2.2.2 0, 60, .inl (fun _ => 0)), .inl (E.2.2.2 0, 60, .inl (fun _ => 0)), .inl (E.2.2.2 0, 60, .inl (fun _ => 0)), .inl (E.2.2.2 4, 10, .inr (.inr (.inr (.inr (fun i => if i < 10 then some (xB E + (58 + 1 + i)) else none))))), .inl (E.2.2.2 0, 60, .inl (fun _ => 0)), .inl (E.2.2.2 0, 60, .inl (fun _ => 0)), .inl (E.2.2.2 0, 60, .inl (fun _ => 0)), .inl (E.2.2.2 0, 60, .inl (fun _ => 0)), .inl (E.2.2.2 0, 60, .inl (fun _ => 0)), .inl (E.2.2.2 0, 60, .inl (fun _ => 0)), .inl (E.2.2.2 0, 60, .inl (fun _ => 0)), .inl (E.2.2.2 0, 60, .inl (fun _ => 0)), .inl (E.2.2.2 0, 60, .inl (fun _ => 0)), .inl (E.2.2.2 0, 60, .inl (fun _ => 0))]) rfl ?_
  refine l_putF (k := 1) 0 46 hP dX1_init_25 xcl_1 (by decide) kf_RX1_16 rfl rfl rfl rfl rfl rfl rfl (Nat.le_of_ble_eq_true rfl) ?_
  refine l_Q ([.inr (1, [.ref (xB E + 47), .ref (xB E + 58), .null, .null, .int 0]), .inl (E.2.2.2 4, 10, .inr (.inr (.inr (.inr (fun i => if i < 10 then some (xB E + (47 + 1 + i)) else none))))), .inl (E.2.2.2 0, 60, .inl (fun _ => 0)), .inl (E.2.2.2 0, 60, .inl (fun _ => 0)), .inl (E.2.2.2 0, 60, .inl (fun _ => 0)), .inl (E.2.2.2 0, 60, .inl (fun _ => 0)), .inl (E.2.2.2 0, 60, .inl (fun _ => 0)), .inl (E.2.2.2 0, 60, .inl (fun _ => 0)), .inl (E.2.2.2 0, 60, .inl (fun _ => 0)), .inl (E.2.2.2 0, 60, .inl (fun _ => 0)), .inl (E.2.2.2 0, 60, .inl (fun _ => 0)), .inl (E.2.2.2 0, 60, .inl (fun _ => 0)), .inl (E.2.2.2 4, 10, .inr (.inr (.inr (.inr (fun i => if i < 10 then some (xB E + (58 + 1 + i)) else none))))), .inl (E.2.2.2 0, 60, .inl (fun _ => 0)), .inl (E.2.2.2 0, 60, .inl (fun _ => 0)), .inl (E.2.2.2 0, 60, .inl (fun _ => 0)), .inl (E.2.2.2 0, 60, .inl (fun _ => 0)), .inl (E.2.2.2 0, 60, .inl (fun _ => 0)), .inl (E.2.2.2 0, 60, .inl (fun _ => 0)), .inl (E.2.2.2 0, 60, .inl (fun _ => 0)), .inl (E.2.2.2 0, 60, .inl (fun _ => 0)), .inl (E.2.2.2 0, 60, .inl (fun _ => 0)), .inl (E.2.2.2 0, 60, .inl (fun _ => 0))]) rfl ?_
  refine x_aload_n dX1_init_28 rfl ?_
  refine x_bipush (v := (10 : Int32)) dX1_init_29 (by decide) ?_
  refine x_bipush (v := (10 : Int32)) dX1_init_31 (by decide) ?_
  refine l_mna (N' := 10) (K' := 10) 69 hP dX1_init_33 km_RX1_9 hAO ka_int (by decide) (by decide) (by decide) (by decide) (by decide) (by decide) (by omega) (by omega) rfl ?_
  refine l_Q ([.inr (1, [.ref (xB E + 47), .ref (xB E + 58), .null, .null, .int 0]), .inl (E.2.2.2 4, 10, .inr (.inr (.inr (.inr (fun i => if i < 10 then some (xB E + (47 + 1 + i)) else none))))), .inl (E.2.2.2 0, 60, .inl (fun _ => 0)), .inl (E.2.2.2 0, 60, .inl (fun _ => 0)), .inl (E.2.2.2 0, 60, .inl (fun _ => 0)), .inl (E.2.2.2 0, 60, .inl (fun _ => 0)), .inl (E.2.2.2 0, 60, .inl (fun _ => 0)), .inl (E.2.2.2 0, 60, .inl (fun _ => 0)), .inl (E.2.2.2 0, 60, .inl (fun _ => 0)), .inl (E.2.2.2 0, 60, .inl (fun _ => 0)), .inl (E.2.2.2 0, 60, .inl (fun _ => 0)), .inl (E.2.2.2 0, 60, .inl (fun _ => 0)), .inl (E.2.2.2 4, 10, .inr (.inr (.inr (.inr (fun i => if i < 10 then some (xB E + (58 + 1 + i)) else none))))), .inl (E.2.2.2 0, 60, .inl (fun _ => 0)), .inl (E.2.2.2 0, 60, .inl (fun _ => 0)), .inl (E.2.2.2 0, 60, .inl (fun _ => 0)), .inl (E.2.2.2 0, 60, .inl (fun _ => 0)), .inl (E.2.2.2 0, 60, .inl (fun _ => 0)), .inl (E.2.2.2 0, 60, .inl (fun _ => 0)), .inl (E.2.2.2 0, 60, .inl (fun _ => 0)), .inl (E.2.2.2 0, 60, .inl (fun _ => 0)), .inl (E.2.2.2 0, 60, .inl (fun _ => 0)), .inl (E.2.2.2 0, 60, .inl (fun _ => 0)), .inl (E.2.2.2 4, 10, .inr (.inr (.inr (.inr (fun i => if i < 10 then some (xB E + (69 + 1 + i)) else none))))), .inl (E.2.2.2 0, 10, .inl (fun _ => 0)), .inl (E.2.2.2 0, 10, .inl (fun _ => 0)), .inl (E.2.2.2 0, 10, .inl (fun _ => 0)), .inl (E.2.2.2 0, 10, .inl (fun _ => 0)), .inl (E.2.2.2 0, 10, .inl (fun _ => 0)), .inl (E.2.2.2 0, 10, .inl (fun _ => 0)), .inl (E.2.2.2 0, 10, .inl (fun _ => 0)), .inl (E.2.2.2 0, 10, .inl (fun _ => 0)), .inl (E.2.2.2 0, 10, .inl (fun _ => 0)), .inl (E.2.2.2 0, 10, .inl (fun _ => 0))]) rfl ?_
  refine l_putF (k := 2) 0 46 hP dX1_init_37 xcl_1 (by decide) kf_RX1_19 rfl rfl rfl rfl rfl rfl rfl (Nat.le_of_ble_eq_true rfl) ?_
  refine l_Q ([.inr (1, [.ref (xB E + 47), .ref (xB E + 58), .ref (xB E + 69), .null, .int 0]), .inl (E.2.2.2 4, 10, .inr (.inr (.inr (.inr (fun i => if i < 10 then some (xB E + (47 + 1 + i)) else none))))), .inl (E.2.2.2 0, 60, .inl (fun _ => 0)), .inl (E.2.2.2 0, 60, .inl (fun _ => 0)), .inl (E.2.2.2 0, 60, .inl (fun _ => 0)), .inl (E.2.2.2 0, 60, .inl (fun _ => 0)), .inl (E.2.2.2 0, 60, .inl (fun _ => 0)), .inl (E.2.2.2 0, 60, .inl (fun _ => 0)), .inl (E.2.2.2 0, 60, .inl (fun _ => 0)), .inl (E.2.2.2 0, 60, .inl (fun _ => 0)), .inl (E.2.2.2 0, 60, .inl (fun _ => 0)), .inl (E.2.2.2 0, 60, .inl (fun _ => 0)), .inl (E.2.2.2 4, 10, .inr (.inr (.inr (.inr (fun i => if i < 10 then some (xB E + (58 + 1 + i)) else none))))), .inl (E.2.2.2 0, 60, .inl (fun _ => 0)), .inl (E.2.2.2 0, 60, .inl (fun _ => 0)), .inl (E.2.2.2 0, 60, .inl (fun _ => 0)), .inl (E.2.2.2 0, 60, .inl (fun _ => 0)), .inl (E.2.2.2 0, 60, .inl (fun _ => 0)), .inl (E.2.2.2 0, 60, .inl (fun _ => 0)), .inl (E.2.2.2 0, 60, .inl (fun _ => 0)), .inl (E.2.2.2 0, 60, .inl (fun _ => 0)), .inl (E.2.2.2 0, 60, .inl (fun _ => 0)), .inl (E.2.2.2 0, 60, .inl (fun _ => 0)), .inl (E.2.2.2 4, 10, .inr (.inr (.inr (.inr (fun i => if i < 10 then some (xB E + (69 + 1 + i)) else none))))), .inl (E.2.2.2 0, 10, .inl (fun _ => 0)), .inl (E.2.2.2 0, 10, .inl (fun _ => 0)), .inl (E.2.2.2 0, 10, .inl (fun _ => 0)), .inl (E.2.2.2 0, 10, .inl (fun _ => 0)), .inl (E.2.2.2 0, 10, .inl (fun _ => 0)), .inl (E.2.2.2 0, 10, .inl (fun _ => 0)), .inl (E.2.2.2 0, 10, .inl (fun _ => 0)), .inl (E.2.2.2 0, 10, .inl (fun _ => 0)), .inl (E.2.2.2 0, 10, .inl (fun _ => 0)), .inl (E.2.2.2 0, 10, .inl (fun _ => 0))]) rfl ?_
  refine x_aload_n dX1_init_40 rfl ?_
  refine x_bipush (v := (10 : Int32)) dX1_init_41 (by decide) ?_
  refine l_newa 0 (10, .inl fun _ => 0) 80 hP dX1_init_43 ka_int rfl (fun _ => rfl) (by decide) (by decide) (by decide) (by omega) (by omega) rfl ?_
  refine l_Q ([.inr (1, [.ref (xB E + 47), .ref (xB E + 58), .ref (xB E + 69), .null, .int 0]), .inl (E.2.2.2 4, 10, .inr (.inr (.inr (.inr (fun i => if i < 10 then some (xB E + (47 + 1 + i)) else none))))), .inl (E.2.2.2 0, 60, .inl (fun _ => 0)), .inl (E.2.2.2 0, 60, .inl (fun _ => 0)), .inl (E.2.2.2 0, 60, .inl (fun _ => 0)), .inl (E.2.2.2 0, 60, .inl (fun _ => 0)), .inl (E.2.2.2 0, 60, .inl (fun _ => 0)), .inl (E.2.2.2 0, 60, .inl (fun _ => 0)), .inl (E.2.2.2 0, 60, .inl (fun _ => 0)), .inl (E.2.2.2 0, 60, .inl (fun _ => 0)), .inl (E.2.2.2 0, 60, .inl (fun _ => 0)), .inl (E.2.2.2 0, 60, .inl (fun _ => 0)), .inl (E.2.2.2 4, 10, .inr (.inr (.inr (.inr (fun i => if i < 10 then some (xB E + (58 + 1 + i)) else none))))), .inl (E.2.2.2 0, 60, .inl (fun _ => 0)), .inl (E.2.2.2 0, 60, .inl (fun _ => 0)), .inl (E.2.2.2 0, 60, .inl (fun _ => 0)), .inl (E.2.2.2 0, 60, .inl (fun _ => 0)), .inl (E.2.2.2 0, 60, .inl (fun _ => 0)), .inl (E.2.2.2 0, 60, .inl (fun _ => 0)), .inl (E.2.2.2 0, 60, .inl (fun _ => 0)), .inl (E.2.2.2 0, 60, .inl (fun _ => 0)), .inl (E.2.2.2 0, 60, .inl (fun _ => 0)), .inl (E.2.2.2 0, 60, .inl (fun _ => 0)), .inl (E.2.2.2 4, 10, .inr (.inr (.inr (.inr (fun i => if i < 10 then some (xB E + (69 + 1 + i)) else none))))), .inl (E.2.2.2 0, 10, .inl (fun _ => 0)), .inl (E.2.2.2 0, 10, .inl (fun _ => 0)), .inl (E.2.2.2 0, 10, .inl (fun _ => 0)), .inl (E.2.2.2 0, 10, .inl (fun _ => 0)), .inl (E.2.2.2 0, 10, .inl (fun _ => 0)), .inl (E.2.2.2 0, 10, .inl (fun _ => 0)), .inl (E.2.2.2 0, 10, .inl (fun _ => 0)), .inl (E.2.2.2 0, 10, .inl (fun _ => 0)), .inl (E.2.2.2 0, 10, .inl (fun _ => 0)), .inl (E.2.2.2 0, 10, .inl (fun _ => 0)), .inl (E.2.2.2 0, 10, .inl (fun _ => 0))]) rfl ?_
  refine l_putF (k := 3) 0 46 hP dX1_init_45 xcl_1 (by decide) kf_RX1_22 rfl rfl rfl rfl rfl rfl rfl (Nat.le_of_ble_eq_true rfl) ?_
  refine l_Q ([.inr (1, [.ref (xB E + 47), .ref (xB E + 58), .ref (xB E + 69), .ref (xB E + 80), .int 0]), .inl (E.2.2.2 4, 10, .inr (.inr (.inr (.inr (fun i => if i < 10 then some (xB E + (47 + 1 + i)) else none))))), .inl (E.2.2.2 0, 60, .inl (fun _ => 0)), .inl (E.2.2.2 0, 60, .inl (fun _ => 0)), .inl (E.2.2.2 0, 60, .inl (fun _ => 0)), .inl (E.2.2.2 0, 60, .inl (fun _ => 0)), .inl (E.2.2.2 0, 60, .inl (fun _ => 0)), .inl (E.2.2.2 0, 60, .inl (fun _ => 0)), .inl (E.2.2.2 0, 60, .inl (fun _ => 0)), .inl (E.2.2.2 0, 60, .inl (fun _ => 0)), .inl (E.2.2.2 0, 60, .inl (fun _ => 0)), .inl (E.2.2.2 0, 60, .inl (fun _ => 0)), .inl (E.2.2.2 4, 10, .inr (.inr (.inr (.inr (fun i => if i < 10 then some (xB E + (58 + 1 + i)) else none))))), .inl (E.2.2.2 0, 60, .inl (fun _ => 0)), .inl (E.2.2.2 0, 60, .inl (fun _ => 0)), .inl (E.2.2.2 0, 60, .inl (fun _ => 0)), .inl (E.2.2.2 0, 60, .inl (fun _ => 0)), .inl (E.2.2.2 0, 60, .inl (fun _ => 0)), .inl (E.2.2.2 0, 60, .inl (fun _ => 0)), .inl (E.2.2.2 0, 60, .inl (fun _ => 0)), .inl (E.2.2.2 0, 60, .inl (fun _ => 0)), .inl (E.2.2.2 0, 60, .inl (fun _ => 0)), .inl (E.2.2.2 0, 60, .inl (fun _ => 0)), .inl (E.2.2.2 4, 10, .inr (.inr (.inr (.inr (fun i => if i < 10 then some (xB E + (69 + 1 + i)) else none))))), .inl (E.2.2.2 0, 10, .inl (fun _ => 0)), .inl (E.2.2.2 0, 10, .inl (fun _ => 0)), .inl (E.2.2.2 0, 10, .inl (fun _ => 0)), .inl (E.2.2.2 0, 10, .inl (fun _ => 0)), .inl (E.2.2.2 0, 10, .inl (fun _ => 0)), .inl (E.2.2.2 0, 10, .inl (fun _ => 0)), .inl (E.2.2.2 0, 10, .inl (fun _ => 0)), .inl (E.2.2.2 0, 10, .inl (fun _ => 0)), .inl (E.2.2.2 0, 10, .inl (fun _ => 0)), .inl (E.2.2.2 0, 10, .inl (fun _ => 0)), .inl (E.2.2.2 0, 10, .inl (fun _ => 0))]) rfl ?_
  exact x_vret dX1_init_48 rfl ⟨rfl, rfl⟩
def KF_X0_init_81 (E : xE) : List va_E := [.inr (0, [.ref (xB E + 82), .ref (xB E + 83), .int 0]), .inl (E.2.2.2 3, 100, .inr (.inl (fun _ => 0))), .inl (E.2.2.2 3, 100, .inr (.inl (fun _ => 0)))]
set_option maxHeartbeats 40000000 in
set_option maxRecDepth 100000 in
theorem k_X0_init_81 {E : xE} (hAO : xAO E) {d : Nat} (hd : 1 ≤ d) {P : List va_E} (hP : P.length = 81) : xC E mX0_init d 2 200 [.ref (xB E + 81)] (xq 81 P [.inr (0, [.null, .null, .int 0])]) (fun r S => r = none ∧ S = xq 81 P (KF_X0_init_81 E)) := by
  refine x_enter (by decide +kernel) (Nat.le_of_ble_eq_true rfl) ?_
  refine x_aload_n dX0_init_0 rfl ?_
  refine x_obj dX0_init_1 ko_RX0_3 ko_i ko_c (Nat.le_of_ble_eq_true rfl) ?_
  refine x_aload_n dX0_init_4 rfl ?_
  refine x_bipush (v := (100 : Int32)) dX0_init_5 (by decide) ?_
  refine l_newa 3 (100, .inr (.inl fun _ => 0)) 82 hP dX0_init_7 ka_long rfl (fun _ => rfl) (by decide) (by decide) (by decide) (by omega) (by omega) rfl ?_
  refine l_Q ([.inr (0, [.null, .null, .int 0]), .inl (E.2.2.2 3, 100, .inr (.inl (fun _ => 0)))]) rfl ?_
  refine l_putF (k := 0) 0 81 hP dX0_init_9 xcl_0 (by decide) kf_RX0_9 rfl rfl rfl rfl rfl rfl rfl (Nat.le_of_ble_eq_true rfl) ?_
  refine l_Q ([.inr (0, [.ref (xB E + 82), .null, .int 0]), .inl (E.2.2.2 3, 100, .inr (.inl (fun _ => 0)))]) rfl ?_
  refine x_aload_n dX0_init_12 rfl ?_
  refine x_bipush (v := (100 : Int32)) dX0_init_13 (by decide) ?_
  refine l_newa 3 (100, .inr (.inl fun _ => 0)) 83 hP dX0_init_15 ka_long rfl (fun _ => rfl) (by decide) (by decide) (by decide) (by omega) (by omega) rfl ?_
  refine l_Q ([.inr (0, [.ref (xB E + 82), .null, .int 0]), .inl (E.2.2.2 3, 100, .inr (.inl (fun _ => 0))), .inl (E.2.2.2 3, 100, .inr (.inl (fun _ => 0)))]) rfl ?_
  refine l_putF (k := 1) 0 81 hP dX0_init_17 xcl_0 (by decide) kf_RX0_15 rfl rfl rfl rfl rfl rfl rfl (Nat.le_of_ble_eq_true rfl) ?_
  refine l_Q ([.inr (0, [.ref (xB E + 82), .ref (xB E + 83), .int 0]), .inl (E.2.2.2 3, 100, .inr (.inl (fun _ => 0))), .inl (E.2.2.2 3, 100, .inr (.inl (fun _ => 0)))]) rfl ?_
  exact x_vret dX0_init_20 rfl ⟨rfl, rfl⟩
def KF_X9_init_0 (E : xE) : List va_E := (.inr (9, [.ref (xB E + 1), .ref (xB E + 10), .ref (xB E + 17), .ref (xB E + 29), .ref (xB E + 31), .ref (xB E + 41), .ref (xB E + 46), .ref (xB E + 81), .ref (xB E + 84), .ref (xB E + 85), .ref (xB E + 86)]) : va_E) :: (KF_X2_init_1 E ++ (KF_X3_init_10 E ++ (KF_X4_init_17 E ++ (KF_X7_init_29 E ++ (KF_X5_init_31 E ++ (KF_X6_init_41 E ++ (KF_X1_init_46 E ++ (KF_X0_init_81 E ++ ((.inl (E.2.2.2 0, 10, .inl (xfl (fun _ => 0) 10 (1))) : va_E) :: ((.inl (E.2.2.2 2, 10, .inl (fun _ => 0)) : va_E) :: ((.inl (E.2.2.2 0, 6, .inl (fun _ => 0)) : va_E) :: ([]))))))))))))
set_option maxHeartbeats 40000000 in
set_option maxRecDepth 100000 in
theorem k_X9_init_0 {E : xE} (hAO : xAO E) {d : Nat} (hd : 3 ≤ d) {P : List va_E} (hP : P.length = 0) : xC E mX9_init d 86 6218 [.ref (xB E + 0)] (xq 0 P [.inr (9, [.null, .null, .null, .null, .null, .null, .null, .null, .null, .null, .null])]) (fun r S => r = none ∧ S = xq 0 P (KF_X9_init_0 E)) := by
  refine x_enter (by decide +kernel) (Nat.le_of_ble_eq_true rfl) ?_
  refine x_aload_n dX9_init_0 rfl ?_
  refine x_obj dX9_init_1 ko_RX9_3 ko_i ko_c (Nat.le_of_ble_eq_true rfl) ?_
  refine x_aload_n dX9_init_4 rfl ?_
  refine l_new [.null, .null, .null, .null, .null, .null, .null, .null, .int 0, .int 0] 1 hP dX9_init_5 xcl_2 kc_RX9_9 kn_2 w_88 kd_2 (by omega) (by omega) rfl ?_
  refine x_dup dX9_init_8 rfl ?_
  refine l_callI mX2_init (d' := d - 1) (KF_X2_init_1 E) hP (k := 1) rfl rfl dX9_init_9 cs_RX9_11 w_121 rfl rfl rfl (Nat.le_of_ble_eq_true rfl) (by omega) (by omega) (by omega) (fun h => k_X2_init_1 hAO (d := d - 1) (by omega) h) ?_
  refine l_Q ((.inr (9, [.null, .null, .null, .null, .null, .null, .null, .null, .null, .null, .null]) : va_E) :: (KF_X2_init_1 E ++ ([]))) rfl ?_
  refine l_putF (k := 0) 0 0 hP dX9_init_12 xcl_9 (by decide) kf_RX9_12 rfl rfl rfl rfl rfl rfl rfl (Nat.le_of_ble_eq_true rfl) ?_
  refine l_Q ((.inr (9, [.ref (xB E + 1), .null, .null, .null, .null, .null, .null, .null, .null, .null, .null]) : va_E) :: (KF_X2_init_1 E ++ ([]))) rfl ?_
  refine x_aload_n dX9_init_15 rfl ?_
  refine l_new [.null, .null, .null, .null, .null, .null, .int 0, .int 0] 10 hP dX9_init_16 xcl_3 kc_RX9_16 kn_3 w_89 kd_3 (by omega) (by omega) rfl ?_
  refine x_dup dX9_init_19 rfl ?_
  refine l_callI mX3_init (d' := d - 1) (KF_X3_init_10 E) hP (k := 10) rfl rfl dX9_init_20 cs_RX9_18 w_167 rfl rfl rfl (Nat.le_of_ble_eq_true rfl) (by omega) (by omega) (by omega) (fun h => k_X3_init_10 hAO (d := d - 1) (by omega) h) ?_
  refine l_Q ((.inr (9, [.ref (xB E + 1), .null, .null, .null, .null, .null, .null, .null, .null, .null, .null]) : va_E) :: (KF_X2_init_1 E ++ (KF_X3_init_10 E ++ ([])))) rfl ?_
  refine l_putF (k := 1) 0 0 hP dX9_init_23 xcl_9 (by decide) kf_RX9_19 rfl rfl rfl rfl rfl rfl rfl (Nat.le_of_ble_eq_true rfl) ?_
  refine l_Q ((.inr (9, [.ref (xB E + 1), .ref (xB E + 10), .null, .null, .null, .null, .null, .null, .null, .null, .null]) : va_E) :: (KF_X2_init_1 E ++ (KF_X3_init_10 E ++ ([])))) rfl ?_
  refine x_aload_n dX9_init_26 rfl ?_
  refine l_new [.null] 17 hP dX9_init_27 xcl_4 kc_RX9_23 kn_4 w_90 kd_4 (by omega) (by omega) rfl ?_
  refine x_dup dX9_init_30 rfl ?_
  refine l_callI mX4_init (d' := d - 1) (KF_X4_init_17 E) hP (k := 17) rfl rfl dX9_init_31 cs_RX9_25 w_202 rfl rfl rfl (Nat.le_of_ble_eq_true rfl) (by omega) (by omega) (by omega) (fun h => k_X4_init_17 hAO (d := d - 1) (by omega) h) ?_
  refine l_Q ((.inr (9, [.ref (xB E + 1), .ref (xB E + 10), .null, .null, .null, .null, .null, .null, .null, .null, .null]) : va_E) :: (KF_X2_init_1 E ++ (KF_X3_init_10 E ++ (KF_X4_init_17 E ++ ([]))))) rfl ?_
  refine l_putF (k := 2) 0 0 hP dX9_init_34 xcl_9 (by decide) kf_RX9_26 rfl rfl rfl rfl rfl rfl rfl (Nat.le_of_ble_eq_true rfl) ?_
  refine l_Q ((.inr (9, [.ref (xB E + 1), .ref (xB E + 10), .ref (xB E + 17), .null, .null, .null, .null, .null, .null, .null, .null]) : va_E) :: (KF_X2_init_1 E ++ (KF_X3_init_10 E ++ (KF_X4_init_17 E ++ ([]))))) rfl ?_
  refine x_aload_n dX9_init_37 rfl ?_
  refine l_new [.null, .int 0] 29 hP dX9_init_38 xcl_7 kc_RX9_30 kn_7 w_92 kd_7 (by omega) (by omega) rfl ?_
  refine x_dup dX9_init_41 rfl ?_
  refine l_callI mX7_init (d' := d - 1) (KF_X7_init_29 E) hP (k := 29) rfl rfl dX9_init_42 cs_RX9_32 w_218 rfl rfl rfl (Nat.le_of_ble_eq_true rfl) (by omega) (by omega) (by omega) (fun h => k_X7_init_29 hAO (d := d - 1) (by omega) h) ?_
  refine l_Q ((.inr (9, [.ref (xB E + 1), .ref (xB E + 10), .ref (xB E + 17), .null, .null, .null, .null, .null, .null, .null, .null]) : va_E) :: (KF_X2_init_1 E ++ (KF_X3_init_10 E ++ (KF_X4_init_17 E ++ (KF_X7_init_29 E ++ ([])))))) rfl ?_
  refine l_putF (k := 3) 0 0 hP dX9_init_45 xcl_9 (by decide) kf_RX9_33 rfl rfl rfl rfl rfl rfl rfl (Nat.le_of_ble_eq_true rfl) ?_
  refine l_Q ((.inr (9, [.ref (xB E + 1), .ref (xB E + 10), .ref (xB E + 17), .ref (xB E + 29), .null, .null, .null, .null, .null, .null, .null]) : va_E) :: (KF_X2_init_1 E ++ (KF_X3_init_10 E ++ (KF_X4_init_17 E ++ (KF_X7_init_29 E ++ ([])))))) rfl ?_
  refine x_aload_n dX9_init_48 rfl ?_
  refine l_new [.null, .null, .int 0, .int 0] 31 hP dX9_init_49 xcl_5 kc_RX9_37 kn_5 w_93 kd_5 (by omega) (by omega) rfl ?_
  refine x_dup dX9_init_52 rfl ?_
  refine l_callI mX5_init (d' := d - 1) (KF_X5_init_31 E) hP (k := 31) rfl rfl dX9_init_53 cs_RX9_39 w_235 rfl rfl rfl (Nat.le_of_ble_eq_true rfl) (by omega) (by omega) (by omega) (fun h => k_X5_init_31 hAO (d := d - 1) (by omega) h) ?_
  refine l_Q ((.inr (9, [.ref (xB E + 1), .ref (xB E + 10), .ref (xB E + 17), .ref (xB E + 29), .null, .null, .null, .null, .null, .null, .null]) : va_E) :: (KF_X2_init_1 E ++ (KF_X3_init_10 E ++ (KF_X4_init_17 E ++ (KF_X7_init_29 E ++ (KF_X5_init_31 E ++ ([]))))))) rfl ?_
  refine l_putF (k := 4) 0 0 hP dX9_init_56 xcl_9 (by decide) kf_RX9_40 rfl rfl rfl rfl rfl rfl rfl (Nat.le_of_ble_eq_true rfl) ?_
  refine l_Q ((.inr (9, [.ref (xB E + 1), .ref (xB E + 10), .ref (xB E + 17), .ref (xB E + 29), .ref (xB E + 31), .null, .null, .null, .null, .null, .null]) : va_E) :: (KF_X2_init_1 E ++ (KF_X3_init_10 E ++ (KF_X4_init_17 E ++ (KF_X7_init_29 E ++ (KF_X5_init_31 E ++ ([]))))))) rfl ?_
  refine x_aload_n dX9_init_59 rfl ?_
  refine l_new [.null, .null, .null, .null, .int 0, .int 0] 41 hP dX9_init_60 xcl_6 kc_RX9_44 kn_6 w_95 kd_6 (by omega) (by omega) rfl ?_
  refine x_dup dX9_init_63 rfl ?_
  refine l_callI mX6_init (d' := d - 1) (KF_X6_init_41 E) hP (k := 41) rfl rfl dX9_init_64 cs_RX9_46 w_264 rfl rfl rfl (Nat.le_of_ble_eq_true rfl) (by omega) (by omega) (by omega) (fun h => k_X6_init_41 hAO (d := d - 1) (by omega) h) ?_
  refine l_Q ((.inr (9, [.ref (xB E + 1), .ref (xB E + 10), .ref (xB E + 17), .ref (xB E + 29), .ref (xB E + 31), .null, .null, .null, .null, .null, .null]) : va_E) :: (KF_X2_init_1 E ++ (KF_X3_init_10 E ++ (KF_X4_init_17 E ++ (KF_X7_init_29 E ++ (KF_X5_init_31 E ++ (KF_X6_init_41 E ++ ([])))))))) rfl ?_
  refine l_putF (k := 5) 0 0 hP dX9_init_67 xcl_9 (by decide) kf_RX9_47 rfl rfl rfl rfl rfl rfl rfl (Nat.le_of_ble_eq_true rfl) ?_
  refine l_Q ((.inr (9, [.ref (xB E + 1), .ref (xB E + 10), .ref (xB E + 17), .ref (xB E + 29), .ref (xB E + 31), .ref (xB E + 41), .null, .null, .null, .null, .null]) : va_E) :: (KF_X2_init_1 E ++ (KF_X3_init_10 E ++ (KF_X4_init_17 E ++ (KF_X7_init_29 E ++ (KF_X5_init_31 E ++ (KF_X6_init_41 E ++ ([])))))))) rfl ?_
  refine x_aload_n dX9_init_70 rfl ?_
  refine l_new [.null, .null, .null, .null, .int 0] 46 hP dX9_init_71 xcl_1 kc_RX9_51 kn_1 w_96 kd_1 (by omega) (by omega) rfl ?_
  refine x_dup dX9_init_74 rfl ?_
  refine l_callI mX1_init (d' := d - 1) (KF_X1_init_46 E) hP (k := 46) rfl rfl dX9_init_75 cs_RX9_53 w_306 rfl rfl rfl (Nat.le_of_ble_eq_true rfl) (by omega) (by omega) (by omega) (fun h => k_X1_init_46 hAO (d := d - 1) (by omega) h) ?_
  refine l_Q ((.inr (9, [.ref (xB E + 1), .ref (xB E + 10), .ref (xB E + 17), .ref (xB E + 29), .ref (xB E + 31), .ref (xB E + 41), .null, .null, .null, .null, .null]) : va_E) :: (KF_X2_init_1 E ++ (KF_X3_init_10 E ++ (KF_X4_init_17 E ++ (KF_X7_init_29 E ++ (KF_X5_init_31 E ++ (KF_X6_init_41 E ++ (KF_X1_init_46 E ++ ([]))))))))) rfl ?_
  refine l_putF (k := 6) 0 0 hP dX9_init_78 xcl_9 (by decide) kf_RX9_54 rfl rfl rfl rfl rfl rfl rfl (Nat.le_of_ble_eq_true rfl) ?_
  refine l_Q ((.inr (9, [.ref (xB E + 1), .ref (xB E + 10), .ref (xB E + 17), .ref (xB E + 29), .ref (xB E + 31), .ref (xB E + 41), .ref (xB E + 46), .null, .null, .null, .null]) : va_E) :: (KF_X2_init_1 E ++ (KF_X3_init_10 E ++ (KF_X4_init_17 E ++ (KF_X7_init_29 E ++ (KF_X5_init_31 E ++ (KF_X6_init_41 E ++ (KF_X1_init_46 E ++ ([]))))))))) rfl ?_
  refine x_aload_n dX9_init_81 rfl ?_
  refine l_new [.null, .null, .int 0] 81 hP dX9_init_82 xcl_0 kc_RX9_58 kn_0 w_97 kd_0 (by omega) (by omega) rfl ?_
  refine x_dup dX9_init_85 rfl ?_
  refine l_callI mX0_init (d' := d - 1) (KF_X0_init_81 E) hP (k := 81) rfl rfl dX9_init_86 cs_RX9_60 w_334 rfl rfl rfl (Nat.le_of_ble_eq_true rfl) (by omega) (by omega) (by omega) (fun h => k_X0_init_81 hAO (d := d - 1) (by omega) h) ?_
  refine l_Q ((.inr (9, [.ref (xB E + 1), .ref (xB E + 10), .ref (xB E + 17), .ref (xB E + 29), .ref (xB E + 31), .ref (xB E + 41), .ref (xB E + 46), .null, .null, .null, .null]) : va_E) :: (KF_X2_init_1 E ++ (KF_X3_init_10 E ++ (KF_X4_init_17 E ++ (KF_X7_init_29 E ++ (KF_X5_init_31 E ++ (KF_X6_init_41 E ++ (KF_X1_init_46 E ++ (KF_X0_init_81 E ++ ([])))))))))) rfl ?_
  refine l_putF (k := 7) 0 0 hP dX9_init_89 xcl_9 (by decide) kf_RX9_61 rfl rfl rfl rfl rfl rfl rfl (Nat.le_of_ble_eq_true rfl) ?_
  refine l_Q ((.inr (9, [.ref (xB E + 1), .ref (xB E + 10), .ref (xB E + 17), .ref (xB E + 29), .ref (xB E + 31), .ref (xB E + 41), .ref (xB E + 46), .ref (xB E + 81), .null, .null, .null]) : va_E) :: (KF_X2_init_1 E ++ (KF_X3_init_10 E ++ (KF_X4_init_17 E ++ (KF_X7_init_29 E ++ (KF_X5_init_31 E ++ (KF_X6_init_41 E ++ (KF_X1_init_46 E ++ (KF_X0_init_81 E ++ ([])))))))))) rfl ?_
  refine x_aload_n dX9_init_92 rfl ?_
  refine x_bipush (v := (10 : Int32)) dX9_init_93 (by decide) ?_
  refine l_newa 0 (10, .inl fun _ => 0) 84 hP dX9_init_95 ka_int rfl (fun _ => rfl) (by decide) (by decide) (by decide) (by omega) (by omega) rfl ?_
  refine l_Q ((.inr (9, [.ref (xB E + 1), .ref (xB E + 10), .ref (xB E + 17), .ref (xB E + 29), .ref (xB E + 31), .ref (xB E + 41), .ref (xB E + 46), .ref (xB E + 81), .null, .null, .null]) : va_E) :: (KF_X2_init_1 E ++ (KF_X3_init_10 E ++ (KF_X4_init_17 E ++ (KF_X7_init_29 E ++ (KF_X5_init_31 E ++ (KF_X6_init_41 E ++ (KF_X1_init_46 E ++ (KF_X0_init_81 E ++ ((.inl (E.2.2.2 0, 10, .inl (fun _ => 0)) : va_E) :: ([]))))))))))) rfl ?_
  refine l_putF (k := 8) 0 0 hP dX9_init_97 xcl_9 (by decide) kf_RX9_65 rfl rfl rfl rfl rfl rfl rfl (Nat.le_of_ble_eq_true rfl) ?_
  refine l_Q ((.inr (9, [.ref (xB E + 1), .ref (xB E + 10), .ref (xB E + 17), .ref (xB E + 29), .ref (xB E + 31), .ref (xB E + 41), .ref (xB E + 46), .ref (xB E + 81), .ref (xB E + 84), .null, .null]) : va_E) :: (KF_X2_init_1 E ++ (KF_X3_init_10 E ++ (KF_X4_init_17 E ++ (KF_X7_init_29 E ++ (KF_X5_init_31 E ++ (KF_X6_init_41 E ++ (KF_X1_init_46 E ++ (KF_X0_init_81 E ++ ((.inl (E.2.2.2 0, 10, .inl (fun _ => 0)) : va_E) :: ([]))))))))))) rfl ?_
  refine x_aload_n dX9_init_100 rfl ?_
  refine x_bipush (v := (10 : Int32)) dX9_init_101 (by decide) ?_
  refine l_newa 2 (10, .inl fun _ => 0) 85 hP dX9_init_103 ka_boolean rfl (fun _ => rfl) (by decide) (by decide) (by decide) (by omega) (by omega) rfl ?_
  refine l_Q ((.inr (9, [.ref (xB E + 1), .ref (xB E + 10), .ref (xB E + 17), .ref (xB E + 29), .ref (xB E + 31), .ref (xB E + 41), .ref (xB E + 46), .ref (xB E + 81), .ref (xB E + 84), .null, .null]) : va_E) :: (KF_X2_init_1 E ++ (KF_X3_init_10 E ++ (KF_X4_init_17 E ++ (KF_X7_init_29 E ++ (KF_X5_init_31 E ++ (KF_X6_init_41 E ++ (KF_X1_init_46 E ++ (KF_X0_init_81 E ++ ((.inl (E.2.2.2 0, 10, .inl (fun _ => 0)) : va_E) :: ((.inl (E.2.2.2 2, 10, .inl (fun _ => 0)) : va_E) :: ([])))))))))))) rfl ?_
  refine l_putF (k := 9) 0 0 hP dX9_init_105 xcl_9 (by decide) kf_RX9_69 rfl rfl rfl rfl rfl rfl rfl (Nat.le_of_ble_eq_true rfl) ?_
  refine l_Q ((.inr (9, [.ref (xB E + 1), .ref (xB E + 10), .ref (xB E + 17), .ref (xB E + 29), .ref (xB E + 31), .ref (xB E + 41), .ref (xB E + 46), .ref (xB E + 81), .ref (xB E + 84), .ref (xB E + 85), .null]) : va_E) :: (KF_X2_init_1 E ++ (KF_X3_init_10 E ++ (KF_X4_init_17 E ++ (KF_X7_init_29 E ++ (KF_X5_init_31 E ++ (KF_X6_init_41 E ++ (KF_X1_init_46 E ++ (KF_X0_init_81 E ++ ((.inl (E.2.2.2 0, 10, .inl (fun _ => 0)) : va_E) :: ((.inl (E.2.2.2 2, 10, .inl (fun _ => 0)) : va_E) :: ([])))))))))))) rfl ?_
  refine x_aload_n dX9_init_108 rfl ?_
  refine x_bipush (v := (6 : Int32)) dX9_init_109 (by decide) ?_
  refine l_newa 0 (6, .inl fun _ => 0) 86 hP dX9_init_111 ka_int rfl (fun _ => rfl) (by decide) (by decide) (by decide) (by omega) (by omega) rfl ?_
  refine l_Q ((.inr (9, [.ref (xB E + 1), .ref (xB E + 10), .ref (xB E + 17), .ref (xB E + 29), .ref (xB E + 31), .ref (xB E + 41), .ref (xB E + 46), .ref (xB E + 81), .ref (xB E + 84), .ref (xB E + 85), .null]) : va_E) :: (KF_X2_init_1 E ++ (KF_X3_init_10 E ++ (KF_X4_init_17 E ++ (KF_X7_init_29 E ++ (KF_X5_init_31 E ++ (KF_X6_init_41 E ++ (KF_X1_init_46 E ++ (KF_X0_init_81 E ++ ((.inl (E.2.2.2 0, 10, .inl (fun _ => 0)) : va_E) :: ((.inl (E.2.2.2 2, 10, .inl (fun _ => 0)) : va_E) :: ((.inl (E.2.2.2 0, 6, .inl (fun _ => 0)) : va_E) :: ([]))))))))))))) rfl ?_
  refine l_putF (k := 10) 0 0 hP dX9_init_113 xcl_9 (by decide) kf_RX9_73 rfl rfl rfl rfl rfl rfl rfl (Nat.le_of_ble_eq_true rfl) ?_
  refine l_Q ((.inr (9, [.ref (xB E + 1), .ref (xB E + 10), .ref (xB E + 17), .ref (xB E + 29), .ref (xB E + 31), .ref (xB E + 41), .ref (xB E + 46), .ref (xB E + 81), .ref (xB E + 84), .ref (xB E + 85), .ref (xB E + 86)]) : va_E) :: (KF_X2_init_1 E ++ (KF_X3_init_10 E ++ (KF_X4_init_17 E ++ (KF_X7_init_29 E ++ (KF_X5_init_31 E ++ (KF_X6_init_41 E ++ (KF_X1_init_46 E ++ (KF_X0_init_81 E ++ ((.inl (E.2.2.2 0, 10, .inl (fun _ => 0)) : va_E) :: ((.inl (E.2.2.2 2, 10, .inl (fun _ => 0)) : va_E) :: ((.inl (E.2.2.2 0, 6, .inl (fun _ => 0)) : va_E) :: ([]))))))))))))) rfl ?_
  refine x_aload_n dX9_init_116 rfl ?_
  refine l_get (k := 8) (v := .ref (xB E + 84)) 0 0 hP dX9_init_117 xcl_9 (by decide) fl_RX9_65 rfl rfl rfl ?_
  refine x_iconst (v := (1 : Int32)) dX9_init_120 (by decide) ?_
  refine l_cfill 84 84 hP dX9_init_121 cs_RX9_76 w_208 (by decide) rfl rfl (Nat.le_of_ble_eq_true rfl) (by omega) ?_
  refine l_Q ((.inr (9, [.ref (xB E + 1), .ref (xB E + 10), .ref (xB E + 17), .ref (xB E + 29), .ref (xB E + 31), .ref (xB E + 41), .ref (xB E + 46), .ref (xB E + 81), .ref (xB E + 84), .ref (xB E + 85), .ref (xB E + 86)]) : va_E) :: (KF_X2_init_1 E ++ (KF_X3_init_10 E ++ (KF_X4_init_17 E ++ (KF_X7_init_29 E ++ (KF_X5_init_31 E ++ (KF_X6_init_41 E ++ (KF_X1_init_46 E ++ (KF_X0_init_81 E ++ ((.inl (E.2.2.2 0, 10, .inl (xfl (fun _ => 0) 10 (1))) : va_E) :: ((.inl (E.2.2.2 2, 10, .inl (fun _ => 0)) : va_E) :: ((.inl (E.2.2.2 0, 6, .inl (fun _ => 0)) : va_E) :: ([]))))))))))))) rfl ?_
  exact x_vret dX9_init_124 rfl ⟨rfl, rfl⟩
