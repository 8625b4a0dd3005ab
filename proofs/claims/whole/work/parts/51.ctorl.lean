def xFin (E : xE) : List va_E := KF_X9_init_0 E ++ (KF_X10_init_87 E ++ ((.inl (E.2.2.2 3, 1, .inr (.inl (fun _ => 0))) : va_E) :: ([])))
def xm0 : xMem := (fun a => match a with
  | 19 => xfl (fun _ => 0) 5 (-1)
  | 20 => xfl (fun _ => 0) 5 (-1)
  | 21 => xfl (fun _ => 0) 5 (-1)
  | 22 => xfl (fun _ => 0) 5 (-1)
  | 23 => xfl (fun _ => 0) 5 (-1)
  | 24 => xfl (fun _ => 0) 5 (-1)
  | 25 => xfl (fun _ => 0) 5 (-1)
  | 26 => xfl (fun _ => 0) 5 (-1)
  | 27 => xfl (fun _ => 0) 5 (-1)
  | 28 => xfl (fun _ => 0) 5 (-1)
  | 84 => xfl (fun _ => 0) 10 (1)
  | 111 => xfl (fun _ => 0) 10 1
  | 117 => xfl (fun _ => 0) 50 (-1)
  | _ => fun _ => 0, fun a => match a with
  | 92 => vp_updL (vp_updL (vp_updL (vp_updL (vp_updL (vp_updL (vp_updL (vp_updL (vp_updL (fun _ => 0) 0 (989842)) 1 (1176170)) 2 (1891)) 3 (24439814)) 4 (665385)) 5 (22745289)) 6 (711055829867)) 7 (11300485)) 8 (812154)
  | _ => fun _ => 0)
theorem xini_0 (E : xE) : xlh ([] ++ xFin E) 0 = xhp E xm0 0 := rfl
theorem xini_1 (E : xE) : xlh ([] ++ xFin E) 1 = xhp E xm0 1 := rfl
theorem xini_2 (E : xE) : xlh ([] ++ xFin E) 2 = xhp E xm0 2 := rfl
theorem xini_3 (E : xE) : xlh ([] ++ xFin E) 3 = xhp E xm0 3 := rfl
theorem xini_4 (E : xE) : xlh ([] ++ xFin E) 4 = xhp E xm0 4 := rfl
theorem xini_5 (E : xE) : xlh ([] ++ xFin E) 5 = xhp E xm0 5 := rfl
theorem xini_6 (E : xE) : xlh ([] ++ xFin E) 6 = xhp E xm0 6 := rfl
theorem xini_7 (E : xE) : xlh ([] ++ xFin E) 7 = xhp E xm0 7 := rfl
theorem xini_8 (E : xE) : xlh ([] ++ xFin E) 8 = xhp E xm0 8 := rfl
theorem xini_9 (E : xE) : xlh ([] ++ xFin E) 9 = xhp E xm0 9 := rfl
theorem xini_10 (E : xE) : xlh ([] ++ xFin E) 10 = xhp E xm0 10 := rfl
theorem xini_11 (E : xE) : xlh ([] ++ xFin E) 11 = xhp E xm0 11 := rfl
theorem xini_12 (E : xE) : xlh ([] ++ xFin E) 12 = xhp E xm0 12 := rfl
theorem xini_13 (E : xE) : xlh ([] ++ xFin E) 13 = xhp E xm0 13 := rfl
theorem xini_14 (E : xE) : xlh ([] ++ xFin E) 14 = xhp E xm0 14 := rfl
theorem xini_15 (E : xE) : xlh ([] ++ xFin E) 15 = xhp E xm0 15 := rfl
theorem xini_16 (E : xE) : xlh ([] ++ xFin E) 16 = xhp E xm0 16 := rfl
theorem xini_17 (E : xE) : xlh ([] ++ xFin E) 17 = xhp E xm0 17 := rfl
theorem xini_18 (E : xE) : xlh ([] ++ xFin E) 18 = xhp E xm0 18 := rfl
theorem xini_19 (E : xE) : xlh ([] ++ xFin E) 19 = xhp E xm0 19 := rfl
theorem xini_20 (E : xE) : xlh ([] ++ xFin E) 20 = xhp E xm0 20 := rfl
theorem xini_21 (E : xE) : xlh ([] ++ xFin E) 21 = xhp E xm0 21 := rfl
theorem xini_22 (E : xE) : xlh ([] ++ xFin E) 22 = xhp E xm0 22 := rfl
theorem xini_23 (E : xE) : xlh ([] ++ xFin E) 23 = xhp E xm0 23 := rfl
theorem xini_24 (E : xE) : xlh ([] ++ xFin E) 24 = xhp E xm0 24 := rfl
theorem xini_25 (E : xE) : xlh ([] ++ xFin E) 25 = xhp E xm0 25 := rfl
theorem xini_26 (E : xE) : xlh ([] ++ xFin E) 26 = xhp E xm0 26 := rfl
theorem xini_27 (E : xE) : xlh ([] ++ xFin E) 27 = xhp E xm0 27 := rfl
theorem xini_28 (E : xE) : xlh ([] ++ xFin E) 28 = xhp E xm0 28 := rfl
theorem xini_29 (E : xE) : xlh ([] ++ xFin E) 29 = xhp E xm0 29 := rfl
theorem xini_30 (E : xE) : xlh ([] ++ xFin E) 30 = xhp E xm0 30 := rfl
theorem xini_31 (E : xE) : xlh ([] ++ xFin E) 31 = xhp E xm0 31 := rfl
theorem xini_32 (E : xE) : xlh ([] ++ xFin E) 32 = xhp E xm0 32 := rfl
theorem xini_33 (E : xE) : xlh ([] ++ xFin E) 33 = xhp E xm0 33 := rfl
theorem xini_34 (E : xE) : xlh ([] ++ xFin E) 34 = xhp E xm0 34 := rfl
theorem xini_35 (E : xE) : xlh ([] ++ xFin E) 35 = xhp E xm0 35 := rfl
theorem xini_36 (E : xE) : xlh ([] ++ xFin E) 36 = xhp E xm0 36 := rfl
theorem xini_37 (E : xE) : xlh ([] ++ xFin E) 37 = xhp E xm0 37 := rfl
theorem xini_38 (E : xE) : xlh ([] ++ xFin E) 38 = xhp E xm0 38 := rfl
theorem xini_39 (E : xE) : xlh ([] ++ xFin E) 39 = xhp E xm0 39 := rfl
theorem xini_40 (E : xE) : xlh ([] ++ xFin E) 40 = xhp E xm0 40 := rfl
theorem xini_41 (E : xE) : xlh ([] ++ xFin E) 41 = xhp E xm0 41 := rfl
theorem xini_42 (E : xE) : xlh ([] ++ xFin E) 42 = xhp E xm0 42 := rfl
theorem xini_43 (E : xE) : xlh ([] ++ xFin E) 43 = xhp E xm0 43 := rfl
theorem xini_44 (E : xE) : xlh ([] ++ xFin E) 44 = xhp E xm0 44 := rfl
theorem xini_45 (E : xE) : xlh ([] ++ xFin E) 45 = xhp E xm0 45 := rfl
theorem xini_46 (E : xE) : xlh ([] ++ xFin E) 46 = xhp E xm0 46 := rfl
theorem xini_47 (E : xE) : xlh ([] ++ xFin E) 47 = xhp E xm0 47 := rfl
theorem xini_48 (E : xE) : xlh ([] ++ xFin E) 48 = xhp E xm0 48 := rfl
theorem xini_49 (E : xE) : xlh ([] ++ xFin E) 49 = xhp E xm0 49 := rfl
theorem xini_50 (E : xE) : xlh ([] ++ xFin E) 50 = xhp E xm0 50 := rfl
theorem xini_51 (E : xE) : xlh ([] ++ xFin E) 51 = xhp E xm0 51 := rfl
theorem xini_52 (E : xE) : xlh ([] ++ xFin E) 52 = xhp E xm0 52 := rfl
theorem xini_53 (E : xE) : xlh ([] ++ xFin E) 53 = xhp E xm0 53 := rfl
theorem xini_54 (E : xE) : xlh ([] ++ xFin E) 54 = xhp E xm0 54 := rfl
theorem xini_55 (E : xE) : xlh ([] ++ xFin E) 55 = xhp E xm0 55 := rfl
theorem xini_56 (E : xE) : xlh ([] ++ xFin E) 56 = xhp E xm0 56 := rfl
theorem xini_57 (E : xE) : xlh ([] ++ xFin E) 57 = xhp E xm0 57 := rfl
theorem xini_58 (E : xE) : xlh ([] ++ xFin E) 58 = xhp E xm0 58 := rfl
theorem xini_59 (E : xE) : xlh ([] ++ xFin E) 59 = xhp E xm0 59 := rfl
theorem xini_60 (E : xE) : xlh ([] ++ xFin E) 60 = xhp E xm0 60 := rfl
theorem xini_61 (E : xE) : xlh ([] ++ xFin E) 61 = xhp E xm0 61 := rfl
theorem xini_62 (E : xE) : xlh ([] ++ xFin E) 62 = xhp E xm0 62 := rfl
theorem xini_63 (E : xE) : xlh ([] ++ xFin E) 63 = xhp E xm0 63 := rfl
theorem xini_64 (E : xE) : xlh ([] ++ xFin E) 64 = xhp E xm0 64 := rfl
theorem xini_65 (E : xE) : xlh ([] ++ xFin E) 65 = xhp E xm0 65 := rfl
theorem xini_66 (E : xE) : xlh ([] ++ xFin E) 66 = xhp E xm0 66 := rfl
theorem xini_67 (E : xE) : xlh ([] ++ xFin E) 67 = xhp E xm0 67 := rfl
theorem xini_68 (E : xE) : xlh ([] ++ xFin E) 68 = xhp E xm0 68 := rfl
theorem xini_69 (E : xE) : xlh ([] ++ xFin E) 69 = xhp E xm0 69 := rfl
theorem xini_70 (E : xE) : xlh ([] ++ xFin E) 70 = xhp E xm0 70 := rfl
theorem xini_71 (E : xE) : xlh ([] ++ xFin E) 71 = xhp E xm0 71 := rfl
theorem xini_72 (E : xE) : xlh ([] ++ xFin E) 72 = xhp E xm0 72 := rfl
theorem xini_73 (E : xE) : xlh ([] ++ xFin E) 73 = xhp E xm0 73 := rfl
theorem xini_74 (E : xE) : xlh ([] ++ xFin E) 74 = xhp E xm0 74 := rfl
theorem xini_75 (E : xE) : xlh ([] ++ xFin E) 75 = xhp E xm0 75 := rfl
theorem xini_76 (E : xE) : xlh ([] ++ xFin E) 76 = xhp E xm0 76 := rfl
theorem xini_77 (E : xE) : xlh ([] ++ xFin E) 77 = xhp E xm0 77 := rfl
theorem xini_78 (E : xE) : xlh ([] ++ xFin E) 78 = xhp E xm0 78 := rfl
theorem xini_79 (E : xE) : xlh ([] ++ xFin E) 79 = xhp E xm0 79 := rfl
theorem xini_80 (E : xE) : xlh ([] ++ xFin E) 80 = xhp E xm0 80 := rfl
theorem xini_81 (E : xE) : xlh ([] ++ xFin E) 81 = xhp E xm0 81 := rfl
theorem xini_82 (E : xE) : xlh ([] ++ xFin E) 82 = xhp E xm0 82 := rfl
theorem xini_83 (E : xE) : xlh ([] ++ xFin E) 83 = xhp E xm0 83 := rfl
theorem xini_84 (E : xE) : xlh ([] ++ xFin E) 84 = xhp E xm0 84 := rfl
theorem xini_85 (E : xE) : xlh ([] ++ xFin E) 85 = xhp E xm0 85 := rfl
theorem xini_86 (E : xE) : xlh ([] ++ xFin E) 86 = xhp E xm0 86 := rfl
theorem xini_87 (E : xE) : xlh ([] ++ xFin E) 87 = xhp E xm0 87 := rfl
theorem xini_88 (E : xE) : xlh ([] ++ xFin E) 88 = xhp E xm0 88 := rfl
theorem xini_89 (E : xE) : xlh ([] ++ xFin E) 89 = xhp E xm0 89 := rfl
theorem xini_90 (E : xE) : xlh ([] ++ xFin E) 90 = xhp E xm0 90 := rfl
theorem xini_91 (E : xE) : xlh ([] ++ xFin E) 91 = xhp E xm0 91 := rfl
theorem xini_92 (E : xE) : xlh ([] ++ xFin E) 92 = xhp E xm0 92 := rfl
theorem xini_93 (E : xE) : xlh ([] ++ xFin E) 93 = xhp E xm0 93 := rfl
theorem xini_94 (E : xE) : xlh ([] ++ xFin E) 94 = xhp E xm0 94 := rfl
theorem xini_95 (E : xE) : xlh ([] ++ xFin E) 95 = xhp E xm0 95 := rfl
theorem xini_96 (E : xE) : xlh ([] ++ xFin E) 96 = xhp E xm0 96 := rfl
theorem xini_97 (E : xE) : xlh ([] ++ xFin E) 97 = xhp E xm0 97 := rfl
theorem xini_98 (E : xE) : xlh ([] ++ xFin E) 98 = xhp E xm0 98 := rfl
theorem xini_99 (E : xE) : xlh ([] ++ xFin E) 99 = xhp E xm0 99 := rfl
theorem xini_100 (E : xE) : xlh ([] ++ xFin E) 100 = xhp E xm0 100 := rfl
theorem xini_101 (E : xE) : xlh ([] ++ xFin E) 101 = xhp E xm0 101 := rfl
theorem xini_102 (E : xE) : xlh ([] ++ xFin E) 102 = xhp E xm0 102 := rfl
theorem xini_103 (E : xE) : xlh ([] ++ xFin E) 103 = xhp E xm0 103 := rfl
theorem xini_104 (E : xE) : xlh ([] ++ xFin E) 104 = xhp E xm0 104 := rfl
theorem xini_105 (E : xE) : xlh ([] ++ xFin E) 105 = xhp E xm0 105 := rfl
theorem xini_106 (E : xE) : xlh ([] ++ xFin E) 106 = xhp E xm0 106 := rfl
theorem xini_107 (E : xE) : xlh ([] ++ xFin E) 107 = xhp E xm0 107 := rfl
theorem xini_108 (E : xE) : xlh ([] ++ xFin E) 108 = xhp E xm0 108 := rfl
theorem xini_109 (E : xE) : xlh ([] ++ xFin E) 109 = xhp E xm0 109 := rfl
theorem xini_110 (E : xE) : xlh ([] ++ xFin E) 110 = xhp E xm0 110 := rfl
theorem xini_111 (E : xE) : xlh ([] ++ xFin E) 111 = xhp E xm0 111 := rfl
theorem xini_112 (E : xE) : xlh ([] ++ xFin E) 112 = xhp E xm0 112 := rfl
theorem xini_113 (E : xE) : xlh ([] ++ xFin E) 113 = xhp E xm0 113 := rfl
theorem xini_114 (E : xE) : xlh ([] ++ xFin E) 114 = xhp E xm0 114 := rfl
theorem xini_115 (E : xE) : xlh ([] ++ xFin E) 115 = xhp E xm0 115 := rfl
theorem xini_116 (E : xE) : xlh ([] ++ xFin E) 116 = xhp E xm0 116 := rfl
theorem xini_117 (E : xE) : xlh ([] ++ xFin E) 117 = xhp E xm0 117 := rfl
theorem xini_118 (E : xE) : xlh ([] ++ xFin E) 118 = xhp E xm0 118 := rfl
theorem xini_119 (E : xE) : xlh ([] ++ xFin E) 119 = xhp E xm0 119 := rfl
theorem xini_120 (E : xE) : xlh ([] ++ xFin E) 120 = xhp E xm0 120 := rfl
theorem xini_121 (E : xE) : xlh ([] ++ xFin E) 121 = xhp E xm0 121 := rfl
theorem xini_122 (E : xE) : xlh ([] ++ xFin E) 122 = xhp E xm0 122 := rfl
theorem xini_123 (E : xE) : xlh ([] ++ xFin E) 123 = xhp E xm0 123 := rfl
theorem xini_124 (E : xE) : xlh ([] ++ xFin E) 124 = xhp E xm0 124 := rfl
theorem xini_125 (E : xE) : xlh ([] ++ xFin E) 125 = xhp E xm0 125 := rfl
set_option maxRecDepth 100000 in
theorem xini (E : xE) : ∀ a, a < 126 → xlh ([] ++ xFin E) a = xhp E xm0 a := lt_s (lt_s (lt_s (lt_s (lt_s (lt_s (lt_s (lt_s (lt_s (lt_s (lt_s (lt_s (lt_s (lt_s (lt_s (lt_s (lt_s (lt_s (lt_s (lt_s (lt_s (lt_s (lt_s (lt_s (lt_s (lt_s (lt_s (lt_s (lt_s (lt_s (lt_s (lt_s (lt_s (lt_s (lt_s (lt_s (lt_s (lt_s (lt_s (lt_s (lt_s (lt_s (lt_s (lt_s (lt_s (lt_s (lt_s (lt_s (lt_s (lt_s (lt_s (lt_s (lt_s (lt_s (lt_s (lt_s (lt_s (lt_s (lt_s (lt_s (lt_s (lt_s (lt_s (lt_s (lt_s (lt_s (lt_s (lt_s (lt_s (lt_s (lt_s (lt_s (lt_s (lt_s (lt_s (lt_s (lt_s (lt_s (lt_s (lt_s (lt_s (lt_s (lt_s (lt_s (lt_s (lt_s (lt_s (lt_s (lt_s (lt_s (lt_s (lt_s (lt_s (lt_s (lt_s (lt_s (lt_s (lt_s (lt_s (lt_s (lt_s (lt_s (lt_s (lt_s (lt_s (lt_s (lt_s (lt_s (lt_s (lt_s (lt_s (lt_s (lt_s (lt_s (lt_s (lt_s (lt_s (lt_s (lt_s (lt_s (lt_s (lt_s (lt_s (lt_s (lt_s (lt_s (lt_0) (xini_0 E)) (xini_1 E)) (xini_2 E)) (xini_3 E)) (xini_4 E)) (xini_5 E)) (xini_6 E)) (xini_7 E)) (xini_8 E)) (xini_9 E)) (xini_10 E)) (xini_11 E)) (xini_12 E)) (xini_13 E)) (xini_14 E)) (xini_15 E)) (xini_16 E)) (xini_17 E)) (xini_18 E)) (xini_19 E)) (xini_20 E)) (xini_21 E)) (xini_22 E)) (xini_23 E)) (xini_24 E)) (xini_25 E)) (xini_26 E)) (xini_27 E)) (xini_28 E)) (xini_29 E)) (xini_30 E)) (xini_31 E)) (xini_32 E)) (xini_33 E)) (xini_34 E)) (xini_35 E)) (xini_36 E)) (xini_37 E)) (xini_38 E)) (xini_39 E)) (xini_40 E)) (xini_41 E)) (xini_42 E)) (xini_43 E)) (xini_44 E)) (xini_45 E)) (xini_46 E)) (xini_47 E)) (xini_48 E)) (xini_49 E)) (xini_50 E)) (xini_51 E)) (xini_52 E)) (xini_53 E)) (xini_54 E)) (xini_55 E)) (xini_56 E)) (xini_57 E)) (xini_58 E)) (xini_59 E)) (xini_60 E)) (xini_61 E)) (xini_62 E)) (xini_63 E)) (xini_64 E)) (xini_65 E)) (xini_66 E)) (xini_67 E)) (xini_68 E)) (xini_69 E)) (xini_70 E)) (xini_71 E)) (xini_72 E)) (xini_73 E)) (xini_74 E)) (xini_75 E)) (xini_76 E)) (xini_77 E)) (xini_78 E)) (xini_79 E)) (xini_80 E)) (xini_81 E)) (xini_82 E)) (xini_83 E)) (xini_84 E)) (xini_85 E)) (xini_86 E)) (xini_87 E)) (xini_88 E)) (xini_89 E)) (xini_90 E)) (xini_91 E)) (xini_92 E)) (xini_93 E)) (xini_94 E)) (xini_95 E)) (xini_96 E)) (xini_97 E)) (xini_98 E)) (xini_99 E)) (xini_100 E)) (xini_101 E)) (xini_102 E)) (xini_103 E)) (xini_104 E)) (xini_105 E)) (xini_106 E)) (xini_107 E)) (xini_108 E)) (xini_109 E)) (xini_110 E)) (xini_111 E)) (xini_112 E)) (xini_113 E)) (xini_114 E)) (xini_115 E)) (xini_116 E)) (xini_117 E)) (xini_118 E)) (xini_119 E)) (xini_120 E)) (xini_121 E)) (xini_122 E)) (xini_123 E)) (xini_124 E)) (xini_125 E)
def xMC : Nat := 126
def xMS : Nat := 26501
set_option maxHeartbeats 40000000 in
set_option maxRecDepth 100000 in
theorem law_ctor {E : xE} {d mc ms rc rs b : Nat} {nm : String} {Z : Option Value → xS → Prop} (hAO : xAO E) (hd : 4 ≤ d) (hrc : xMC ≤ rc) (hrs : xMS ≤ rs) (kk : ∀ rc' rs', rc - xMC ≤ rc' → rs - xMS ≤ rs' → xX E (mLaw nm) d mc ms rc' rs' Z 20 [(0, .ref b), (1, .ref (xB E + 0)), (2, .ref (xB E + 87)), (3, .ref (xB E + 125))] [] (xf E xm0)) : xX E (mLaw nm) d mc ms rc rs Z 0 [(0, .ref b)] [] (xq 0 [] []) := by
  have hP : ([] : List va_E).length = 0 := rfl
  unfold xMC at hrc kk
  unfold xMS at hrs kk
  refine l_new [.null, .null, .null, .null, .null, .null, .null, .null, .null, .null, .null] 0 hP dL_law_0 xcl_9 kc_RL_8 kn_9 w_87 kd_9 (by omega) (by omega) rfl ?_
  refine x_dup dL_law_3 rfl ?_
  refine l_callI mX9_init (d' := d - 1) (KF_X9_init_0 E) hP (k := 0) rfl rfl dL_law_4 cs_RL_19 w_113 rfl rfl rfl (Nat.le_of_ble_eq_true rfl) (by omega) (by omega) (by omega) (fun h => k_X9_init_0 hAO (d := d - 1) (by omega) h) ?_
  refine l_Q (KF_X9_init_0 E ++ ([])) rfl ?_
  refine x_astore_n (lv' := [(0, .ref b), (1, .ref (xB E + 0))]) dL_law_7 [1, 0] (Nat.le_of_ble_eq_true rfl) rfl ?_
  refine l_new [.int 0, .null, .int 0, .int 0, .null, .null, .null, .int 0, .int 0, .null, .null, .null, .null, .null, .null, .int 0, .int 0, .int 0, .int 0, .null, .null, .null, .null, .null, .int 0, .int 0, .null, .null, .null, .null, .null, .null, .null, .null, .null, .null, .int 0, .null, .null, .null, .null, .null, .null, .int 0, .null, .null, .null, .int 0, .null, .null, .null] 87 hP dL_law_8 xcl_10 kc_RL_20 kn_10 w_98 kd_10 (by omega) (by omega) rfl ?_
  refine x_dup dL_law_11 rfl ?_
  refine l_callI mX10_init (d' := d - 1) (KF_X10_init_87 E) hP (k := 87) rfl rfl dL_law_12 cs_RL_22 w_925 rfl rfl rfl (Nat.le_of_ble_eq_true rfl) (by omega) (by omega) (by omega) (fun h => k_X10_init_87 hAO (d := d - 1) (by omega) h) ?_
  refine l_Q (KF_X9_init_0 E ++ (KF_X10_init_87 E ++ ([]))) rfl ?_
  refine x_astore_n (lv' := [(0, .ref b), (1, .ref (xB E + 0)), (2, .ref (xB E + 87))]) dL_law_15 [1, 2, 0] (Nat.le_of_ble_eq_true rfl) rfl ?_
  refine x_iconst (v := (1 : Int32)) dL_law_16 (by decide) ?_
  refine l_newa 3 (1, .inr (.inl fun _ => 0)) 125 hP dL_law_17 ka_long rfl (fun _ => rfl) (by decide) (by decide) (by decide) (by omega) (by omega) rfl ?_
  refine l_Q (KF_X9_init_0 E ++ (KF_X10_init_87 E ++ ((.inl (E.2.2.2 3, 1, .inr (.inl (fun _ => 0))) : va_E) :: ([])))) rfl ?_
  refine x_astore_n (lv' := [(0, .ref b), (1, .ref (xB E + 0)), (2, .ref (xB E + 87)), (3, .ref (xB E + 125))]) dL_law_19 [1, 2, 3, 0] (Nat.le_of_ble_eq_true rfl) rfl ?_
  refine x_weak (n := 126) (h := xlh ([] ++ xFin E)) rfl ?_
  refine x_heq (xini E) ?_
  exact kk _ _ (by omega) (by omega)
