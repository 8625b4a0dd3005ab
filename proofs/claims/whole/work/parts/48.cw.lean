theorem w_112 : xw (.methodLink RL 19 yX9_init) := ⟨List.mem_of_getElem? (i := 112) (by decide +kernel), by decide +kernel⟩
theorem w_113 : xw (.instanceMethod yX9_init) := ⟨List.mem_of_getElem? (i := 113) (by decide +kernel), by decide +kernel⟩
theorem w_114 : xw (.code yX9_init cX9_init 1 none) := ⟨List.mem_of_getElem? (i := 114) (by decide +kernel), by decide +kernel⟩
theorem w_120 : xw (.methodLinkNest RX9 11 yX2_init "GuideBook") := ⟨List.mem_of_getElem? (i := 120) (by decide +kernel), by decide +kernel⟩
theorem w_121 : xw (.instanceMethod yX2_init) := ⟨List.mem_of_getElem? (i := 121) (by decide +kernel), by decide +kernel⟩
theorem w_122 : xw (.code yX2_init cX2_init 1 none) := ⟨List.mem_of_getElem? (i := 122) (by decide +kernel), by decide +kernel⟩
theorem w_166 : xw (.methodLinkNest RX9 18 yX3_init "GuideBook") := ⟨List.mem_of_getElem? (i := 166) (by decide +kernel), by decide +kernel⟩
theorem w_167 : xw (.instanceMethod yX3_init) := ⟨List.mem_of_getElem? (i := 167) (by decide +kernel), by decide +kernel⟩
theorem w_168 : xw (.code yX3_init cX3_init 1 none) := ⟨List.mem_of_getElem? (i := 168) (by decide +kernel), by decide +kernel⟩
theorem w_201 : xw (.methodLinkNest RX9 25 yX4_init "GuideBook") := ⟨List.mem_of_getElem? (i := 201) (by decide +kernel), by decide +kernel⟩
theorem w_202 : xw (.instanceMethod yX4_init) := ⟨List.mem_of_getElem? (i := 202) (by decide +kernel), by decide +kernel⟩
theorem w_203 : xw (.code yX4_init cX4_init 2 none) := ⟨List.mem_of_getElem? (i := 203) (by decide +kernel), by decide +kernel⟩
theorem w_207 : xw (.methodLink RX4 16 yJ7_fill_53178) := ⟨List.mem_of_getElem? (i := 207) (by decide +kernel), by decide +kernel⟩
theorem w_208 : xw (.static yJ7_fill_53178) := ⟨List.mem_of_getElem? (i := 208) (by decide +kernel), by decide +kernel⟩
theorem w_209 : xw (.code yJ7_fill_53178 cJ7_fill_53178 4 none) := ⟨List.mem_of_getElem? (i := 209) (by decide +kernel), by decide +kernel⟩
theorem w_217 : xw (.methodLinkNest RX9 32 yX7_init "GuideBook") := ⟨List.mem_of_getElem? (i := 217) (by decide +kernel), by decide +kernel⟩
theorem w_218 : xw (.instanceMethod yX7_init) := ⟨List.mem_of_getElem? (i := 218) (by decide +kernel), by decide +kernel⟩
theorem w_219 : xw (.code yX7_init cX7_init 1 none) := ⟨List.mem_of_getElem? (i := 219) (by decide +kernel), by decide +kernel⟩
theorem w_234 : xw (.methodLinkNest RX9 39 yX5_init "GuideBook") := ⟨List.mem_of_getElem? (i := 234) (by decide +kernel), by decide +kernel⟩
theorem w_235 : xw (.instanceMethod yX5_init) := ⟨List.mem_of_getElem? (i := 235) (by decide +kernel), by decide +kernel⟩
theorem w_236 : xw (.code yX5_init cX5_init 1 none) := ⟨List.mem_of_getElem? (i := 236) (by decide +kernel), by decide +kernel⟩
theorem w_240 : xw (.methodLinkNest RX5 11 yX8_init "GuideBook") := ⟨List.mem_of_getElem? (i := 240) (by decide +kernel), by decide +kernel⟩
theorem w_241 : xw (.instanceMethod yX8_init) := ⟨List.mem_of_getElem? (i := 241) (by decide +kernel), by decide +kernel⟩
theorem w_242 : xw (.code yX8_init cX8_init 1 none) := ⟨List.mem_of_getElem? (i := 242) (by decide +kernel), by decide +kernel⟩
theorem w_263 : xw (.methodLinkNest RX5 20 yX6_init "GuideBook") := ⟨List.mem_of_getElem? (i := 263) (by decide +kernel), by decide +kernel⟩
theorem w_264 : xw (.instanceMethod yX6_init) := ⟨List.mem_of_getElem? (i := 264) (by decide +kernel), by decide +kernel⟩
theorem w_265 : xw (.code yX6_init cX6_init 1 none) := ⟨List.mem_of_getElem? (i := 265) (by decide +kernel), by decide +kernel⟩
theorem w_302 : xw (.methodLinkNest RX9 46 yX6_init "GuideBook") := ⟨List.mem_of_getElem? (i := 302) (by decide +kernel), by decide +kernel⟩
theorem w_305 : xw (.methodLinkNest RX9 53 yX1_init "GuideBook") := ⟨List.mem_of_getElem? (i := 305) (by decide +kernel), by decide +kernel⟩
theorem w_306 : xw (.instanceMethod yX1_init) := ⟨List.mem_of_getElem? (i := 306) (by decide +kernel), by decide +kernel⟩
theorem w_307 : xw (.code yX1_init cX1_init 1 none) := ⟨List.mem_of_getElem? (i := 307) (by decide +kernel), by decide +kernel⟩
theorem w_333 : xw (.methodLinkNest RX9 60 yX0_init "GuideBook") := ⟨List.mem_of_getElem? (i := 333) (by decide +kernel), by decide +kernel⟩
theorem w_334 : xw (.instanceMethod yX0_init) := ⟨List.mem_of_getElem? (i := 334) (by decide +kernel), by decide +kernel⟩
theorem w_335 : xw (.code yX0_init cX0_init 1 none) := ⟨List.mem_of_getElem? (i := 335) (by decide +kernel), by decide +kernel⟩
theorem w_348 : xw (.methodLink RX9 76 yJ7_fill_53178) := ⟨List.mem_of_getElem? (i := 348) (by decide +kernel), by decide +kernel⟩
theorem w_924 : xw (.methodLink RL 22 yX10_init) := ⟨List.mem_of_getElem? (i := 924) (by decide +kernel), by decide +kernel⟩
theorem w_925 : xw (.instanceMethod yX10_init) := ⟨List.mem_of_getElem? (i := 925) (by decide +kernel), by decide +kernel⟩
theorem w_926 : xw (.code yX10_init cX10_init 3 none) := ⟨List.mem_of_getElem? (i := 926) (by decide +kernel), by decide +kernel⟩
theorem w_928 : xw (.constantLong RX10 34 (989842)) := ⟨List.mem_of_getElem? (i := 928) (by decide +kernel), by decide +kernel⟩
theorem w_929 : xw (.constantLong RX10 36 (1176170)) := ⟨List.mem_of_getElem? (i := 929) (by decide +kernel), by decide +kernel⟩
theorem w_930 : xw (.constantLong RX10 38 (1891)) := ⟨List.mem_of_getElem? (i := 930) (by decide +kernel), by decide +kernel⟩
theorem w_931 : xw (.constantLong RX10 40 (24439814)) := ⟨List.mem_of_getElem? (i := 931) (by decide +kernel), by decide +kernel⟩
theorem w_932 : xw (.constantLong RX10 42 (665385)) := ⟨List.mem_of_getElem? (i := 932) (by decide +kernel), by decide +kernel⟩
theorem w_933 : xw (.constantLong RX10 44 (22745289)) := ⟨List.mem_of_getElem? (i := 933) (by decide +kernel), by decide +kernel⟩
theorem w_934 : xw (.constantLong RX10 46 (711055829867)) := ⟨List.mem_of_getElem? (i := 934) (by decide +kernel), by decide +kernel⟩
theorem w_935 : xw (.constantLong RX10 48 (11300485)) := ⟨List.mem_of_getElem? (i := 935) (by decide +kernel), by decide +kernel⟩
theorem w_936 : xw (.constantLong RX10 50 (812154)) := ⟨List.mem_of_getElem? (i := 936) (by decide +kernel), by decide +kernel⟩
theorem cs_RL_19 : xCw RL 19 mX9_init 0 := ⟨Or.inl w_112, w_114, w_87, ⟨by decide +kernel, by decide +kernel, by decide +kernel⟩, by decide⟩
theorem cs_RL_22 : xCw RL 22 mX10_init 0 := ⟨Or.inl w_924, w_926, w_98, ⟨by decide +kernel, by decide +kernel, by decide +kernel⟩, by decide⟩
theorem cs_RX4_16 : xCw RX4 16 mJ7_fill_53178 2 := ⟨Or.inl w_207, w_209, w_91, ⟨by decide +kernel, by decide +kernel, by decide +kernel⟩, by decide⟩
theorem cs_RX5_11 : xCw RX5 11 mX8_init 0 := ⟨Or.inr ⟨_, w_240⟩, w_242, w_94, ⟨by decide +kernel, by decide +kernel, by decide +kernel⟩, by decide⟩
theorem cs_RX5_20 : xCw RX5 20 mX6_init 0 := ⟨Or.inr ⟨_, w_263⟩, w_265, w_95, ⟨by decide +kernel, by decide +kernel, by decide +kernel⟩, by decide⟩
theorem cs_RX9_11 : xCw RX9 11 mX2_init 0 := ⟨Or.inr ⟨_, w_120⟩, w_122, w_88, ⟨by decide +kernel, by decide +kernel, by decide +kernel⟩, by decide⟩
theorem cs_RX9_18 : xCw RX9 18 mX3_init 0 := ⟨Or.inr ⟨_, w_166⟩, w_168, w_89, ⟨by decide +kernel, by decide +kernel, by decide +kernel⟩, by decide⟩
theorem cs_RX9_25 : xCw RX9 25 mX4_init 0 := ⟨Or.inr ⟨_, w_201⟩, w_203, w_90, ⟨by decide +kernel, by decide +kernel, by decide +kernel⟩, by decide⟩
theorem cs_RX9_32 : xCw RX9 32 mX7_init 0 := ⟨Or.inr ⟨_, w_217⟩, w_219, w_92, ⟨by decide +kernel, by decide +kernel, by decide +kernel⟩, by decide⟩
theorem cs_RX9_39 : xCw RX9 39 mX5_init 0 := ⟨Or.inr ⟨_, w_234⟩, w_236, w_93, ⟨by decide +kernel, by decide +kernel, by decide +kernel⟩, by decide⟩
theorem cs_RX9_46 : xCw RX9 46 mX6_init 0 := ⟨Or.inr ⟨_, w_302⟩, w_265, w_95, ⟨by decide +kernel, by decide +kernel, by decide +kernel⟩, by decide⟩
theorem cs_RX9_53 : xCw RX9 53 mX1_init 0 := ⟨Or.inr ⟨_, w_305⟩, w_307, w_96, ⟨by decide +kernel, by decide +kernel, by decide +kernel⟩, by decide⟩
theorem cs_RX9_60 : xCw RX9 60 mX0_init 0 := ⟨Or.inr ⟨_, w_333⟩, w_335, w_97, ⟨by decide +kernel, by decide +kernel, by decide +kernel⟩, by decide⟩
theorem cs_RX9_76 : xCw RX9 76 mJ7_fill_53178 2 := ⟨Or.inl w_348, w_209, w_91, ⟨by decide +kernel, by decide +kernel, by decide +kernel⟩, by decide⟩
section LC
variable {E : xE} {M : xM} {d mc ms rc rs : Nat} {Z : Option Value → xS → Prop} {pc : Nat} {lv : List (Nat × Value)} {st : List Value} {P Q : List va_E} {n0 : Nat}
theorem l_callI {idx a k : Nat} (M' : xM) {d' mc' ms' : Nat} {obj : va_E} (R : List va_E) {rest : List Value} (hP : P.length = n0) (hk : Q.length = k) (ha : n0 + k = a) (hd : decode M.2.1 pc = .ok (.invokespecial idx, 3)) (hw : xCw M.1.cls idx M' 0) (hi : xw (.instanceMethod M'.1)) (hini0 : M'.1.name = "<init>") (hret : M'.2.2.2 = none) (hst : st = .ref (xB E + a) :: rest) (hcat : (rest.map fun v => v.category).sum ≤ 8) (hdd : d' < d) (hmc : mc' ≤ rc) (hms : ms' ≤ rs)
    (hC' : ∀ {P' : List va_E}, P'.length = a → xC E M' d' mc' ms' [.ref (xB E + a)] (xq a P' [obj]) (fun r S => r = none ∧ S = xq a P' R))
    (kk : xX E M d mc ms (rc - mc') (rs - ms') Z (pc + 3) lv rest (xq n0 P (Q ++ R))) : xX E M d mc ms rc rs Z pc lv st (xq n0 P (Q ++ [obj])) := by
  subst ha
  rw [xq_mv hk]
  refine x_callI (b := n0 + k) M' [] rest hd hw hi hini0 hret hst rfl hcat hdd hmc hms (hC' (by rw [List.length_append, hP, hk])) (fun v S' hQ => ?_)
  obtain ⟨rfl, rfl⟩ := hQ
  rw [← xq_mv hk]
  exact kk
theorem l_cfill {idx n : Nat} {f : Nat → Int32} {v : Int32} (i a : Nat) (hP : P.length = n0) (hd : decode M.2.1 pc = .ok (.invokestatic idx, 3)) (hw : xCw M.1.cls idx mJ7_fill_53178 2) (hi : xw (.static yJ7_fill_53178)) (hn : n < 2 ^ 31) (ha : n0 + i = a) (hc : Q[i]? = some (.inl (E.2.2.2 0, n, .inl f))) (hcat : (st.map fun v => v.category).sum ≤ 8) (hdd : 1 ≤ d)
    (kk : xX E M d mc ms rc rs Z (pc + 3) lv st (xq n0 P (Q.set i (.inl (E.2.2.2 0, n, .inl (xfl f n v)))))) : xX E M d mc ms rc rs Z pc lv (.int v :: .ref (xB E + a) :: st) (xq n0 P Q) :=
  x_callS mJ7_fill_53178 [.ref (xB E + a), .int v] st hd hw hi rfl rfl hcat (d' := d - 1) (by omega) (Nat.zero_le _) (Nat.zero_le _) (l_fill v i a hP hn ha hc) (fun r S' hQ => by obtain ⟨rfl, rfl⟩ := hQ; exact kk)
theorem l_Q (Q' : List va_E) (hQ : Q = Q') (kk : xX E M d mc ms rc rs Z pc lv st (xq n0 P Q')) : xX E M d mc ms rc rs Z pc lv st (xq n0 P Q) := by subst hQ; exact kk
theorem x_weak {n : Nat} {h : Nat → va_E} {S : xS} (hS : S = (true, n, h)) (kk : xX E M d mc ms rc rs Z pc lv st (false, n, h)) : xX E M d mc ms rc rs Z pc lv st S := by
  subst hS
  intro hG p e s m args below meth c H locs cells slots ls hC hs hH hlo hlv hc1 hs1
  exact kk hG p e s m args below meth c H locs cells slots ls hC hs ⟨hH.1, (fun q => by cases q), hH.2.2.1, hH.2.2.2⟩ hlo hlv hc1 hs1
end LC

theorem kd_0 : ∀ j, j < 3 → defaultValue (tyX0 j) = vp_V [.null, .null, .int 0] j := by decide +kernel
theorem kd_1 : ∀ j, j < 5 → defaultValue (tyX1 j) = vp_V [.null, .null, .null, .null, .int 0] j := by decide +kernel
theorem kd_2 : ∀ j, j < 10 → defaultValue (tyX2 j) = vp_V [.null, .null, .null, .null, .null, .null, .null, .null, .int 0, .int 0] j := by decide +kernel
theorem kd_3 : ∀ j, j < 8 → defaultValue (tyX3 j) = vp_V [.null, .null, .null, .null, .null, .null, .int 0, .int 0] j := by decide +kernel
theorem kd_4 : ∀ j, j < 1 → defaultValue (tyX4 j) = vp_V [.null] j := by decide +kernel
theorem kd_5 : ∀ j, j < 4 → defaultValue (tyX5 j) = vp_V [.null, .null, .int 0, .int 0] j := by decide +kernel
theorem kd_6 : ∀ j, j < 6 → defaultValue (tyX6 j) = vp_V [.null, .null, .null, .null, .int 0, .int 0] j := by decide +kernel
theorem kd_7 : ∀ j, j < 2 → defaultValue (tyX7 j) = vp_V [.null, .int 0] j := by decide +kernel
theorem kd_8 : ∀ j, j < 4 → defaultValue (tyX8 j) = vp_V [.null, .null, .null, .int 0] j := by decide +kernel
theorem kd_9 : ∀ j, j < 11 → defaultValue (tyX9 j) = vp_V [.null, .null, .null, .null, .null, .null, .null, .null, .null, .null, .null] j := by decide +kernel
theorem kd_10 : ∀ j, j < 51 → defaultValue (tyX10 j) = vp_V [.int 0, .null, .int 0, .int 0, .null, .null, .null, .int 0, .int 0, .null, .null, .null, .null, .null, .null, .int 0, .int 0, .int 0, .int 0, .null, .null, .null, .null, .null, .int 0, .int 0, .null, .null, .null, .null, .null, .null, .null, .null, .null, .null, .int 0, .null, .null, .null, .null, .null, .null, .int 0, .null, .null, .null, .int 0, .null, .null, .null] j := by decide +kernel
theorem ka_boolean : xw (.arrayClass .boolean) := ⟨List.mem_of_getElem? (i := 383) (by decide +kernel), by decide +kernel⟩
theorem ka_byte : xw (.arrayClass .byte) := ⟨List.mem_of_getElem? (i := 231) (by decide +kernel), by decide +kernel⟩
theorem ka_int : xw (.arrayClass .int) := ⟨List.mem_of_getElem? (i := 163) (by decide +kernel), by decide +kernel⟩
theorem ka_long : xw (.arrayClass .long) := ⟨List.mem_of_getElem? (i := 347) (by decide +kernel), by decide +kernel⟩
theorem kc_RL_20 : xw (.classLink RL 20 RX10) := ⟨List.mem_of_getElem? (i := 923) (by decide +kernel), by decide +kernel⟩
theorem kc_RL_8 : xw (.classLink RL 8 RX9) := ⟨List.mem_of_getElem? (i := 110) (by decide +kernel), by decide +kernel⟩
theorem kc_RX5_18 : xw (.classLink RX5 18 RX6) := ⟨List.mem_of_getElem? (i := 261) (by decide +kernel), by decide +kernel⟩
theorem kc_RX5_9 : xw (.classLink RX5 9 RX8) := ⟨List.mem_of_getElem? (i := 238) (by decide +kernel), by decide +kernel⟩
theorem kc_RX9_16 : xw (.classLink RX9 16 RX3) := ⟨List.mem_of_getElem? (i := 164) (by decide +kernel), by decide +kernel⟩
theorem kc_RX9_23 : xw (.classLink RX9 23 RX4) := ⟨List.mem_of_getElem? (i := 199) (by decide +kernel), by decide +kernel⟩
theorem kc_RX9_30 : xw (.classLink RX9 30 RX7) := ⟨List.mem_of_getElem? (i := 215) (by decide +kernel), by decide +kernel⟩
theorem kc_RX9_37 : xw (.classLink RX9 37 RX5) := ⟨List.mem_of_getElem? (i := 232) (by decide +kernel), by decide +kernel⟩
theorem kc_RX9_44 : xw (.classLink RX9 44 RX6) := ⟨List.mem_of_getElem? (i := 301) (by decide +kernel), by decide +kernel⟩
theorem kc_RX9_51 : xw (.classLink RX9 51 RX1) := ⟨List.mem_of_getElem? (i := 303) (by decide +kernel), by decide +kernel⟩
theorem kc_RX9_58 : xw (.classLink RX9 58 RX0) := ⟨List.mem_of_getElem? (i := 331) (by decide +kernel), by decide +kernel⟩
theorem kc_RX9_9 : xw (.classLink RX9 9 RX2) := ⟨List.mem_of_getElem? (i := 118) (by decide +kernel), by decide +kernel⟩
theorem kf_RX0_15 : xw (.fieldLink RX0 15 (TX0 1).1 (TX0 1).2.1 (TX0 1).2.2.1) := ⟨List.mem_of_getElem? (i := 338) (by decide +kernel), by decide +kernel⟩
theorem kf_RX0_9 : xw (.fieldLink RX0 9 (TX0 0).1 (TX0 0).2.1 (TX0 0).2.2.1) := ⟨List.mem_of_getElem? (i := 337) (by decide +kernel), by decide +kernel⟩
theorem kf_RX10_100 : xw (.fieldLink RX10 100 (TX10 31).1 (TX10 31).2.1 (TX10 31).2.2.1) := ⟨List.mem_of_getElem? (i := 968) (by decide +kernel), by decide +kernel⟩
theorem kf_RX10_103 : xw (.fieldLink RX10 103 (TX10 32).1 (TX10 32).2.1 (TX10 32).2.2.1) := ⟨List.mem_of_getElem? (i := 969) (by decide +kernel), by decide +kernel⟩
theorem kf_RX10_106 : xw (.fieldLink RX10 106 (TX10 33).1 (TX10 33).2.1 (TX10 33).2.2.1) := ⟨List.mem_of_getElem? (i := 970) (by decide +kernel), by decide +kernel⟩
theorem kf_RX10_109 : xw (.fieldLink RX10 109 (TX10 34).1 (TX10 34).2.1 (TX10 34).2.2.1) := ⟨List.mem_of_getElem? (i := 971) (by decide +kernel), by decide +kernel⟩
theorem kf_RX10_112 : xw (.fieldLink RX10 112 (TX10 35).1 (TX10 35).2.1 (TX10 35).2.2.1) := ⟨List.mem_of_getElem? (i := 972) (by decide +kernel), by decide +kernel⟩
theorem kf_RX10_115 : xw (.fieldLink RX10 115 (TX10 37).1 (TX10 37).2.1 (TX10 37).2.2.1) := ⟨List.mem_of_getElem? (i := 974) (by decide +kernel), by decide +kernel⟩
theorem kf_RX10_118 : xw (.fieldLink RX10 118 (TX10 38).1 (TX10 38).2.1 (TX10 38).2.2.1) := ⟨List.mem_of_getElem? (i := 975) (by decide +kernel), by decide +kernel⟩
theorem kf_RX10_121 : xw (.fieldLink RX10 121 (TX10 39).1 (TX10 39).2.1 (TX10 39).2.2.1) := ⟨List.mem_of_getElem? (i := 976) (by decide +kernel), by decide +kernel⟩
theorem kf_RX10_124 : xw (.fieldLink RX10 124 (TX10 40).1 (TX10 40).2.1 (TX10 40).2.2.1) := ⟨List.mem_of_getElem? (i := 977) (by decide +kernel), by decide +kernel⟩
theorem kf_RX10_127 : xw (.fieldLink RX10 127 (TX10 41).1 (TX10 41).2.1 (TX10 41).2.2.1) := ⟨List.mem_of_getElem? (i := 978) (by decide +kernel), by decide +kernel⟩
theorem kf_RX10_130 : xw (.fieldLink RX10 130 (TX10 42).1 (TX10 42).2.1 (TX10 42).2.2.1) := ⟨List.mem_of_getElem? (i := 979) (by decide +kernel), by decide +kernel⟩
theorem kf_RX10_134 : xw (.fieldLink RX10 134 (TX10 44).1 (TX10 44).2.1 (TX10 44).2.2.1) := ⟨List.mem_of_getElem? (i := 981) (by decide +kernel), by decide +kernel⟩
theorem kf_RX10_137 : xw (.fieldLink RX10 137 (TX10 45).1 (TX10 45).2.1 (TX10 45).2.2.1) := ⟨List.mem_of_getElem? (i := 982) (by decide +kernel), by decide +kernel⟩
theorem kf_RX10_14 : xw (.fieldLink RX10 14 (TX10 1).1 (TX10 1).2.1 (TX10 1).2.2.1) := ⟨List.mem_of_getElem? (i := 938) (by decide +kernel), by decide +kernel⟩
theorem kf_RX10_140 : xw (.fieldLink RX10 140 (TX10 46).1 (TX10 46).2.1 (TX10 46).2.2.1) := ⟨List.mem_of_getElem? (i := 983) (by decide +kernel), by decide +kernel⟩
theorem kf_RX10_143 : xw (.fieldLink RX10 143 (TX10 48).1 (TX10 48).2.1 (TX10 48).2.2.1) := ⟨List.mem_of_getElem? (i := 985) (by decide +kernel), by decide +kernel⟩
theorem kf_RX10_146 : xw (.fieldLink RX10 146 (TX10 49).1 (TX10 49).2.1 (TX10 49).2.2.1) := ⟨List.mem_of_getElem? (i := 986) (by decide +kernel), by decide +kernel⟩
theorem kf_RX10_149 : xw (.fieldLink RX10 149 (TX10 50).1 (TX10 50).2.1 (TX10 50).2.2.1) := ⟨List.mem_of_getElem? (i := 987) (by decide +kernel), by decide +kernel⟩
theorem kf_RX10_24 : xw (.fieldLink RX10 24 (TX10 4).1 (TX10 4).2.1 (TX10 4).2.2.1) := ⟨List.mem_of_getElem? (i := 941) (by decide +kernel), by decide +kernel⟩
theorem kf_RX10_27 : xw (.fieldLink RX10 27 (TX10 5).1 (TX10 5).2.1 (TX10 5).2.2.1) := ⟨List.mem_of_getElem? (i := 942) (by decide +kernel), by decide +kernel⟩
theorem kf_RX10_30 : xw (.fieldLink RX10 30 (TX10 6).1 (TX10 6).2.1 (TX10 6).2.2.1) := ⟨List.mem_of_getElem? (i := 943) (by decide +kernel), by decide +kernel⟩
theorem kf_RX10_52 : xw (.fieldLink RX10 52 (TX10 9).1 (TX10 9).2.1 (TX10 9).2.2.1) := ⟨List.mem_of_getElem? (i := 946) (by decide +kernel), by decide +kernel⟩
theorem kf_RX10_55 : xw (.fieldLink RX10 55 (TX10 10).1 (TX10 10).2.1 (TX10 10).2.2.1) := ⟨List.mem_of_getElem? (i := 947) (by decide +kernel), by decide +kernel⟩
theorem kf_RX10_58 : xw (.fieldLink RX10 58 (TX10 11).1 (TX10 11).2.1 (TX10 11).2.2.1) := ⟨List.mem_of_getElem? (i := 948) (by decide +kernel), by decide +kernel⟩
theorem kf_RX10_61 : xw (.fieldLink RX10 61 (TX10 12).1 (TX10 12).2.1 (TX10 12).2.2.1) := ⟨List.mem_of_getElem? (i := 949) (by decide +kernel), by decide +kernel⟩
theorem kf_RX10_64 : xw (.fieldLink RX10 64 (TX10 13).1 (TX10 13).2.1 (TX10 13).2.2.1) := ⟨List.mem_of_getElem? (i := 950) (by decide +kernel), by decide +kernel⟩
theorem kf_RX10_67 : xw (.fieldLink RX10 67 (TX10 14).1 (TX10 14).2.1 (TX10 14).2.2.1) := ⟨List.mem_of_getElem? (i := 951) (by decide +kernel), by decide +kernel⟩
theorem kf_RX10_70 : xw (.fieldLink RX10 70 (TX10 19).1 (TX10 19).2.1 (TX10 19).2.2.1) := ⟨List.mem_of_getElem? (i := 956) (by decide +kernel), by decide +kernel⟩
theorem kf_RX10_73 : xw (.fieldLink RX10 73 (TX10 20).1 (TX10 20).2.1 (TX10 20).2.2.1) := ⟨List.mem_of_getElem? (i := 957) (by decide +kernel), by decide +kernel⟩
theorem kf_RX10_76 : xw (.fieldLink RX10 76 (TX10 21).1 (TX10 21).2.1 (TX10 21).2.2.1) := ⟨List.mem_of_getElem? (i := 958) (by decide +kernel), by decide +kernel⟩
theorem kf_RX10_79 : xw (.fieldLink RX10 79 (TX10 22).1 (TX10 22).2.1 (TX10 22).2.2.1) := ⟨List.mem_of_getElem? (i := 959) (by decide +kernel), by decide +kernel⟩
theorem kf_RX10_82 : xw (.fieldLink RX10 82 (TX10 23).1 (TX10 23).2.1 (TX10 23).2.2.1) := ⟨List.mem_of_getElem? (i := 960) (by decide +kernel), by decide +kernel⟩
theorem kf_RX10_85 : xw (.fieldLink RX10 85 (TX10 26).1 (TX10 26).2.1 (TX10 26).2.2.1) := ⟨List.mem_of_getElem? (i := 963) (by decide +kernel), by decide +kernel⟩
theorem kf_RX10_88 : xw (.fieldLink RX10 88 (TX10 27).1 (TX10 27).2.1 (TX10 27).2.2.1) := ⟨List.mem_of_getElem? (i := 964) (by decide +kernel), by decide +kernel⟩
theorem kf_RX10_91 : xw (.fieldLink RX10 91 (TX10 28).1 (TX10 28).2.1 (TX10 28).2.2.1) := ⟨List.mem_of_getElem? (i := 965) (by decide +kernel), by decide +kernel⟩
theorem kf_RX10_94 : xw (.fieldLink RX10 94 (TX10 29).1 (TX10 29).2.1 (TX10 29).2.2.1) := ⟨List.mem_of_getElem? (i := 966) (by decide +kernel), by decide +kernel⟩
theorem kf_RX10_97 : xw (.fieldLink RX10 97 (TX10 30).1 (TX10 30).2.1 (TX10 30).2.2.1) := ⟨List.mem_of_getElem? (i := 967) (by decide +kernel), by decide +kernel⟩
theorem kf_RX1_11 : xw (.fieldLink RX1 11 (TX1 0).1 (TX1 0).2.1 (TX1 0).2.2.1) := ⟨List.mem_of_getElem? (i := 310) (by decide +kernel), by decide +kernel⟩
theorem kf_RX1_16 : xw (.fieldLink RX1 16 (TX1 1).1 (TX1 1).2.1 (TX1 1).2.2.1) := ⟨List.mem_of_getElem? (i := 312) (by decide +kernel), by decide +kernel⟩
theorem kf_RX1_19 : xw (.fieldLink RX1 19 (TX1 2).1 (TX1 2).2.1 (TX1 2).2.2.1) := ⟨List.mem_of_getElem? (i := 314) (by decide +kernel), by decide +kernel⟩
theorem kf_RX1_22 : xw (.fieldLink RX1 22 (TX1 3).1 (TX1 3).2.1 (TX1 3).2.2.1) := ⟨List.mem_of_getElem? (i := 316) (by decide +kernel), by decide +kernel⟩
theorem kf_RX2_15 : xw (.fieldLink RX2 15 (TX2 1).1 (TX2 1).2.1 (TX2 1).2.2.1) := ⟨List.mem_of_getElem? (i := 126) (by decide +kernel), by decide +kernel⟩
theorem kf_RX2_18 : xw (.fieldLink RX2 18 (TX2 2).1 (TX2 2).2.1 (TX2 2).2.2.1) := ⟨List.mem_of_getElem? (i := 128) (by decide +kernel), by decide +kernel⟩
theorem kf_RX2_21 : xw (.fieldLink RX2 21 (TX2 3).1 (TX2 3).2.1 (TX2 3).2.2.1) := ⟨List.mem_of_getElem? (i := 130) (by decide +kernel), by decide +kernel⟩
theorem kf_RX2_24 : xw (.fieldLink RX2 24 (TX2 4).1 (TX2 4).2.1 (TX2 4).2.2.1) := ⟨List.mem_of_getElem? (i := 132) (by decide +kernel), by decide +kernel⟩
theorem kf_RX2_27 : xw (.fieldLink RX2 27 (TX2 5).1 (TX2 5).2.1 (TX2 5).2.2.1) := ⟨List.mem_of_getElem? (i := 134) (by decide +kernel), by decide +kernel⟩
theorem kf_RX2_30 : xw (.fieldLink RX2 30 (TX2 6).1 (TX2 6).2.1 (TX2 6).2.2.1) := ⟨List.mem_of_getElem? (i := 136) (by decide +kernel), by decide +kernel⟩
theorem kf_RX2_33 : xw (.fieldLink RX2 33 (TX2 7).1 (TX2 7).2.1 (TX2 7).2.2.1) := ⟨List.mem_of_getElem? (i := 137) (by decide +kernel), by decide +kernel⟩
theorem kf_RX2_9 : xw (.fieldLink RX2 9 (TX2 0).1 (TX2 0).2.1 (TX2 0).2.2.1) := ⟨List.mem_of_getElem? (i := 124) (by decide +kernel), by decide +kernel⟩
theorem kf_RX3_15 : xw (.fieldLink RX3 15 (TX3 1).1 (TX3 1).2.1 (TX3 1).2.2.1) := ⟨List.mem_of_getElem? (i := 171) (by decide +kernel), by decide +kernel⟩
theorem kf_RX3_18 : xw (.fieldLink RX3 18 (TX3 2).1 (TX3 2).2.1 (TX3 2).2.2.1) := ⟨List.mem_of_getElem? (i := 172) (by decide +kernel), by decide +kernel⟩
theorem kf_RX3_21 : xw (.fieldLink RX3 21 (TX3 3).1 (TX3 3).2.1 (TX3 3).2.2.1) := ⟨List.mem_of_getElem? (i := 174) (by decide +kernel), by decide +kernel⟩
theorem kf_RX3_24 : xw (.fieldLink RX3 24 (TX3 4).1 (TX3 4).2.1 (TX3 4).2.2.1) := ⟨List.mem_of_getElem? (i := 176) (by decide +kernel), by decide +kernel⟩
theorem kf_RX3_27 : xw (.fieldLink RX3 27 (TX3 5).1 (TX3 5).2.1 (TX3 5).2.2.1) := ⟨List.mem_of_getElem? (i := 177) (by decide +kernel), by decide +kernel⟩
theorem kf_RX3_9 : xw (.fieldLink RX3 9 (TX3 0).1 (TX3 0).2.1 (TX3 0).2.2.1) := ⟨List.mem_of_getElem? (i := 170) (by decide +kernel), by decide +kernel⟩
theorem kf_RX4_11 : xw (.fieldLink RX4 11 (TX4 0).1 (TX4 0).2.1 (TX4 0).2.2.1) := ⟨List.mem_of_getElem? (i := 210) (by decide +kernel), by decide +kernel⟩
theorem kf_RX5_12 : xw (.fieldLink RX5 12 (TX5 0).1 (TX5 0).2.1 (TX5 0).2.2.1) := ⟨List.mem_of_getElem? (i := 287) (by decide +kernel), by decide +kernel⟩
theorem kf_RX5_21 : xw (.fieldLink RX5 21 (TX5 1).1 (TX5 1).2.1 (TX5 1).2.2.1) := ⟨List.mem_of_getElem? (i := 288) (by decide +kernel), by decide +kernel⟩
theorem kf_RX6_15 : xw (.fieldLink RX6 15 (TX6 1).1 (TX6 1).2.1 (TX6 1).2.2.1) := ⟨List.mem_of_getElem? (i := 268) (by decide +kernel), by decide +kernel⟩
theorem kf_RX6_18 : xw (.fieldLink RX6 18 (TX6 2).1 (TX6 2).2.1 (TX6 2).2.2.1) := ⟨List.mem_of_getElem? (i := 269) (by decide +kernel), by decide +kernel⟩
theorem kf_RX6_21 : xw (.fieldLink RX6 21 (TX6 3).1 (TX6 3).2.1 (TX6 3).2.2.1) := ⟨List.mem_of_getElem? (i := 270) (by decide +kernel), by decide +kernel⟩
theorem kf_RX6_9 : xw (.fieldLink RX6 9 (TX6 0).1 (TX6 0).2.1 (TX6 0).2.2.1) := ⟨List.mem_of_getElem? (i := 267) (by decide +kernel), by decide +kernel⟩
theorem kf_RX7_9 : xw (.fieldLink RX7 9 (TX7 0).1 (TX7 0).2.1 (TX7 0).2.2.1) := ⟨List.mem_of_getElem? (i := 221) (by decide +kernel), by decide +kernel⟩
theorem kf_RX8_15 : xw (.fieldLink RX8 15 (TX8 1).1 (TX8 1).2.1 (TX8 1).2.2.1) := ⟨List.mem_of_getElem? (i := 246) (by decide +kernel), by decide +kernel⟩
theorem kf_RX8_18 : xw (.fieldLink RX8 18 (TX8 2).1 (TX8 2).2.1 (TX8 2).2.2.1) := ⟨List.mem_of_getElem? (i := 248) (by decide +kernel), by decide +kernel⟩
theorem kf_RX8_9 : xw (.fieldLink RX8 9 (TX8 0).1 (TX8 0).2.1 (TX8 0).2.2.1) := ⟨List.mem_of_getElem? (i := 244) (by decide +kernel), by decide +kernel⟩
theorem kf_RX9_12 : xw (.fieldLink RX9 12 (TX9 0).1 (TX9 0).2.1 (TX9 0).2.2.1) := ⟨List.mem_of_getElem? (i := 349) (by decide +kernel), by decide +kernel⟩
theorem kf_RX9_19 : xw (.fieldLink RX9 19 (TX9 1).1 (TX9 1).2.1 (TX9 1).2.2.1) := ⟨List.mem_of_getElem? (i := 350) (by decide +kernel), by decide +kernel⟩
theorem kf_RX9_26 : xw (.fieldLink RX9 26 (TX9 2).1 (TX9 2).2.1 (TX9 2).2.2.1) := ⟨List.mem_of_getElem? (i := 351) (by decide +kernel), by decide +kernel⟩
theorem kf_RX9_33 : xw (.fieldLink RX9 33 (TX9 3).1 (TX9 3).2.1 (TX9 3).2.2.1) := ⟨List.mem_of_getElem? (i := 352) (by decide +kernel), by decide +kernel⟩
theorem kf_RX9_40 : xw (.fieldLink RX9 40 (TX9 4).1 (TX9 4).2.1 (TX9 4).2.2.1) := ⟨List.mem_of_getElem? (i := 353) (by decide +kernel), by decide +kernel⟩
theorem kf_RX9_47 : xw (.fieldLink RX9 47 (TX9 5).1 (TX9 5).2.1 (TX9 5).2.2.1) := ⟨List.mem_of_getElem? (i := 354) (by decide +kernel), by decide +kernel⟩
theorem kf_RX9_54 : xw (.fieldLink RX9 54 (TX9 6).1 (TX9 6).2.1 (TX9 6).2.2.1) := ⟨List.mem_of_getElem? (i := 355) (by decide +kernel), by decide +kernel⟩
theorem kf_RX9_61 : xw (.fieldLink RX9 61 (TX9 7).1 (TX9 7).2.1 (TX9 7).2.2.1) := ⟨List.mem_of_getElem? (i := 356) (by decide +kernel), by decide +kernel⟩
theorem kf_RX9_65 : xw (.fieldLink RX9 65 (TX9 8).1 (TX9 8).2.1 (TX9 8).2.2.1) := ⟨List.mem_of_getElem? (i := 357) (by decide +kernel), by decide +kernel⟩
theorem kf_RX9_69 : xw (.fieldLink RX9 69 (TX9 9).1 (TX9 9).2.1 (TX9 9).2.2.1) := ⟨List.mem_of_getElem? (i := 358) (by decide +kernel), by decide +kernel⟩
theorem kf_RX9_73 : xw (.fieldLink RX9 73 (TX9 10).1 (TX9 10).2.1 (TX9 10).2.2.1) := ⟨List.mem_of_getElem? (i := 359) (by decide +kernel), by decide +kernel⟩
theorem km_RX1_9 : xw (.classLink RX1 9 "[[I") := ⟨List.mem_of_getElem? (i := 309) (by decide +kernel), by decide +kernel⟩
theorem km_RX4_9 : xw (.classLink RX4 9 "[[I") := ⟨List.mem_of_getElem? (i := 205) (by decide +kernel), by decide +kernel⟩
theorem kn_0 : xw (.instantiable RX0 3) := ⟨List.mem_of_getElem? (i := 332) (by decide +kernel), by decide +kernel⟩
theorem kn_1 : xw (.instantiable RX1 5) := ⟨List.mem_of_getElem? (i := 304) (by decide +kernel), by decide +kernel⟩
theorem kn_10 : xw (.instantiable RX10 51) := ⟨List.mem_of_getElem? (i := 921) (by decide +kernel), by decide +kernel⟩
theorem kn_2 : xw (.instantiable RX2 10) := ⟨List.mem_of_getElem? (i := 119) (by decide +kernel), by decide +kernel⟩
theorem kn_3 : xw (.instantiable RX3 8) := ⟨List.mem_of_getElem? (i := 165) (by decide +kernel), by decide +kernel⟩
theorem kn_4 : xw (.instantiable RX4 1) := ⟨List.mem_of_getElem? (i := 200) (by decide +kernel), by decide +kernel⟩
theorem kn_5 : xw (.instantiable RX5 4) := ⟨List.mem_of_getElem? (i := 233) (by decide +kernel), by decide +kernel⟩
theorem kn_6 : xw (.instantiable RX6 6) := ⟨List.mem_of_getElem? (i := 262) (by decide +kernel), by decide +kernel⟩
theorem kn_7 : xw (.instantiable RX7 2) := ⟨List.mem_of_getElem? (i := 216) (by decide +kernel), by decide +kernel⟩
theorem kn_8 : xw (.instantiable RX8 4) := ⟨List.mem_of_getElem? (i := 239) (by decide +kernel), by decide +kernel⟩
theorem kn_9 : xw (.instantiable RX9 11) := ⟨List.mem_of_getElem? (i := 111) (by decide +kernel), by decide +kernel⟩
theorem ko_RX0_3 : xw (.methodLink RX0 3 objectInit) := ⟨List.mem_of_getElem? (i := 336) (by decide +kernel), by decide +kernel⟩
theorem ko_RX10_18 : xw (.methodLink RX10 18 objectInit) := ⟨List.mem_of_getElem? (i := 927) (by decide +kernel), by decide +kernel⟩
theorem ko_RX1_3 : xw (.methodLink RX1 3 objectInit) := ⟨List.mem_of_getElem? (i := 308) (by decide +kernel), by decide +kernel⟩
theorem ko_RX2_3 : xw (.methodLink RX2 3 objectInit) := ⟨List.mem_of_getElem? (i := 123) (by decide +kernel), by decide +kernel⟩
theorem ko_RX3_3 : xw (.methodLink RX3 3 objectInit) := ⟨List.mem_of_getElem? (i := 169) (by decide +kernel), by decide +kernel⟩
theorem ko_RX4_3 : xw (.methodLink RX4 3 objectInit) := ⟨List.mem_of_getElem? (i := 204) (by decide +kernel), by decide +kernel⟩
theorem ko_RX5_3 : xw (.methodLink RX5 3 objectInit) := ⟨List.mem_of_getElem? (i := 237) (by decide +kernel), by decide +kernel⟩
theorem ko_RX6_3 : xw (.methodLink RX6 3 objectInit) := ⟨List.mem_of_getElem? (i := 266) (by decide +kernel), by decide +kernel⟩
theorem ko_RX7_3 : xw (.methodLink RX7 3 objectInit) := ⟨List.mem_of_getElem? (i := 220) (by decide +kernel), by decide +kernel⟩
theorem ko_RX8_3 : xw (.methodLink RX8 3 objectInit) := ⟨List.mem_of_getElem? (i := 243) (by decide +kernel), by decide +kernel⟩
theorem ko_RX9_3 : xw (.methodLink RX9 3 objectInit) := ⟨List.mem_of_getElem? (i := 115) (by decide +kernel), by decide +kernel⟩
theorem ko_c : xw (.code objectInit ⟨#[0xb1]⟩ 1 none) := ⟨List.mem_of_getElem? (i := 117) (by decide +kernel), by decide +kernel⟩
theorem ko_i : xw (.instanceMethod objectInit) := ⟨List.mem_of_getElem? (i := 116) (by decide +kernel), by decide +kernel⟩
