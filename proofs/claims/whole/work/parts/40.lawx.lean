/-! the law: its script, its two helpers that catch -/
abbrev mLaw (nm : String) : xM := (⟨RL, nm, "([I)Z"⟩, cL_law, 7, some .boolean)
section XLAW
variable {E : xE} {M : xM} {d mc ms rc rs : Nat} {Q : Option Value → xS → Prop} {pc : Nat} {lv : List (Nat × Value)} {st : List Value} {S : xS} {b Ls : Nat} {xs : Nat → Int32}
theorem x_scd (hX : va_X b Ls xs E.2.1 E.2.1.heap) (hbl : b < xB E) {i : Int32} (hin : xin i Ls = true) (hd : decode M.2.1 pc = .ok (.iaload, 1)) (kk : xX E M d mc ms rc rs Q (pc + 1) lv (.int (xs i.toNatClampNeg) :: st) S) : xX E M d mc ms rc rs Q pc lv (.int i :: .ref b :: st) S := by
  intro hG p e s m args below meth c H locs cells slots ls hC hs hH hlo hlv hc1 hs1
  obtain ⟨q1, q2, q3, q4, q5, q6, q7, q8, q9, q10⟩ := id hC
  exact va_sld q1 q2 ((va_X.moved q8.alike hX).kept (q10 b hbl)) (Nat.lt_of_lt_of_le hbl q9) (Nat.not_le.mpr hbl) (x_vaS q10 hs hH hlo) (xin_vp hin) hd (kk hG p e s m args below meth c H locs cells slots ls hC hs hH hlo hlv hc1 hs1)
theorem x_scl (hX : va_X b Ls xs E.2.1 E.2.1.heap) (hbl : b < xB E) (hd : decode M.2.1 pc = .ok (.arraylength, 1)) (kk : xX E M d mc ms rc rs Q (pc + 1) lv (.int (Int32.ofNat Ls) :: st) S) : xX E M d mc ms rc rs Q pc lv (.ref b :: st) S := by
  intro hG p e s m args below meth c H locs cells slots ls hC hs hH hlo hlv hc1 hs1
  obtain ⟨q1, q2, q3, q4, q5, q6, q7, q8, q9, q10⟩ := id hC
  exact va_slen q1 q2 ((va_X.moved q8.alike hX).kept (q10 b hbl)) (Nat.lt_of_lt_of_le hbl q9) (Nat.not_le.mpr hbl) (x_vaS q10 hs hH hlo) hd (kk hG p e s m args below meth c H locs cells slots ls hC hs hH hlo hlv hc1 hs1)
end XLAW
def F_L_shift (x1 : Int32) (m : xMem) : Option (Int32 × xMem) := if x1 < 0 ∨ 4 < x1 then some (1, m) else (F_X9_shift x1 m).bind fun q => some (0, (q.2.1, xsl q.2.2 aout 0 q.1.toInt64))
def F_L_look (x1 x2 : Int32) (m : xMem) : Option (Int32 × xMem) := if x1 < 0 ∨ m.1 ag_facts fFacts_size ≤ x1 ∨ x2 < 0 ∨ 5 < x2 then some (1, m) else (F_X9_look x1 x2 m).bind fun q => some (0, (q.2.1, xsl q.2.2 aout 0 q.1.toInt64))
section XLAW2
variable {E : xE} {d mc ms rc rs : Nat} {Q : Option Value → xS → Prop} {pc : Nat} {lv : List (Nat × Value)} {st : List Value} {nm : String}
theorem f_cL_shift {x1 : Int32} {m : xMem} {q : Int32 × xMem} (hd : decode cL_law pc = .ok (.invokestatic 82, 3)) (hcat : (st.map fun v => v.category).sum ≤ 8) (hdd : 8 ≤ d) (hrc : 1 ≤ rc) (hrs : 6 ≤ rs) (h : F_L_shift x1 m = some q)
    (kk : xX E (mLaw nm) d mc ms (rc - 1) (rs - 6) Q (pc + 3) lv (.int q.1 :: st) (xf E q.2)) : xX E (mLaw nm) d mc ms rc rs Q pc lv (.ref (xB E + 125) :: .int x1 :: .ref (xB E + 0) :: st) (xf E m) := by
  sorry
theorem f_cL_look {x1 x2 : Int32} {m : xMem} {q : Int32 × xMem} (hd : decode cL_law pc = .ok (.invokestatic 132, 3)) (hcat : (st.map fun v => v.category).sum ≤ 8) (hdd : 8 ≤ d) (hrc : 1 ≤ rc) (hrs : 6 ≤ rs) (h : F_L_look x1 x2 m = some q)
    (kk : xX E (mLaw nm) d mc ms (rc - 1) (rs - 6) Q (pc + 3) lv (.int q.1 :: st) (xf E q.2)) : xX E (mLaw nm) d mc ms rc rs Q pc lv (.ref (xB E + 125) :: .int x2 :: .int x1 :: .ref (xB E + 0) :: st) (xf E m) := by
  sorry
end XLAW2
