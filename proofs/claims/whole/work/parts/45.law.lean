def L_L_law_23 (Ls : Nat) (xs : Nat → Int32) : Nat → Int32 → xMem → Option (Int32 × xMem)
  | 0, _, _ => none
  | fk + 1, x4, m =>
    if ((Int32.ofNat Ls) - (7 : Int32)) < x4 then (
      some ((1 : Int32), m))
    else (
      if xin (x4) Ls = true then (
      if ((xs (x4).toNatClampNeg) &&& (31 : Int32)) = 0 then (
        if xin (x4 + (1 : Int32)) Ls = true then (
        (F_X9_years (xs (x4 + (1 : Int32)).toNatClampNeg) m).bind fun q_3 => (
        if xin (x4 + (1 : Int32)) Ls = true then (
        (F_X10_years (xs (x4 + (1 : Int32)).toNatClampNeg) q_3.2).bind fun q_5 => (
        if q_3.1 = q_5.1 then (
          L_L_law_23 Ls xs fk (x4 + 7) q_5.2)
        else (
          some ((0 : Int32), q_5.2))))
        else none))
        else none)
      else (
      if ((xs (x4).toNatClampNeg) &&& (31 : Int32)) = 1 then (
        if xin (x4 + (1 : Int32)) Ls = true then (
        if xin (x4 + (2 : Int32)) Ls = true then (
        if xin (x4 + (3 : Int32)) Ls = true then (
        (F_X9_fact (xs (x4 + (1 : Int32)).toNatClampNeg) (xs (x4 + (2 : Int32)).toNatClampNeg) (xs (x4 + (3 : Int32)).toNatClampNeg) m).bind fun q_9 => (
        if xin (x4 + (1 : Int32)) Ls = true then (
        if xin (x4 + (2 : Int32)) Ls = true then (
        if xin (x4 + (3 : Int32)) Ls = true then (
        (F_X10_fact (xs (x4 + (1 : Int32)).toNatClampNeg) (xs (x4 + (2 : Int32)).toNatClampNeg) (xs (x4 + (3 : Int32)).toNatClampNeg) q_9.2).bind fun q_13 => (
        if q_9.1 = q_13.1 then (
          L_L_law_23 Ls xs fk (x4 + 7) q_13.2)
        else (
          some ((0 : Int32), q_13.2))))
        else none)
        else none)
        else none))
        else none)
        else none)
        else none)
      else (
      if ((xs (x4).toNatClampNeg) &&& (31 : Int32)) = 2 then (
        if xin (x4 + (1 : Int32)) Ls = true then (
        if xin (x4 + (2 : Int32)) Ls = true then (
        if xin (x4 + (3 : Int32)) Ls = true then (
        (F_X9_line (xs (x4 + (1 : Int32)).toNatClampNeg) (xs (x4 + (2 : Int32)).toNatClampNeg) (xs (x4 + (3 : Int32)).toNatClampNeg) m).bind fun q_17 => (
        if xin (x4 + (1 : Int32)) Ls = true then (
        if xin (x4 + (2 : Int32)) Ls = true then (
        if xin (x4 + (3 : Int32)) Ls = true then (
        (F_X10_line_ (xs (x4 + (1 : Int32)).toNatClampNeg) (xs (x4 + (2 : Int32)).toNatClampNeg) (xs (x4 + (3 : Int32)).toNatClampNeg) q_17.2).bind fun q_21 => (
        if q_17.1 = q_21.1 then (
          L_L_law_23 Ls xs fk (x4 + 7) q_21.2)
        else (
          some ((0 : Int32), q_21.2))))
        else none)
        else none)
        else none))
        else none)
        else none)
        else none)
      else (
      if ((xs (x4).toNatClampNeg) &&& (31 : Int32)) = 3 then (
        if xin (x4 + (1 : Int32)) Ls = true then (
        if xin (x4 + (2 : Int32)) Ls = true then (
        (F_X9_check (xs (x4 + (1 : Int32)).toNatClampNeg) (xs (x4 + (2 : Int32)).toNatClampNeg) m).bind fun q_24 => (
        if xin (x4 + (1 : Int32)) Ls = true then (
        if xin (x4 + (2 : Int32)) Ls = true then (
        (F_X10_check (xs (x4 + (1 : Int32)).toNatClampNeg) (xs (x4 + (2 : Int32)).toNatClampNeg) q_24.2).bind fun q_27 => (
        if q_24.1 = q_27.1 then (
          L_L_law_23 Ls xs fk (x4 + 7) q_27.2)
        else (
          some ((0 : Int32), q_27.2))))
        else none)
        else none))
        else none)
        else none)
      else (
      if ((xs (x4).toNatClampNeg) &&& (31 : Int32)) = 4 then (
        if xin (x4 + (1 : Int32)) Ls = true then (
        (F_X9_rate (xs (x4 + (1 : Int32)).toNatClampNeg) m).bind fun q_29 => (
        if xin (x4 + (1 : Int32)) Ls = true then (
        (F_X10_rate (xs (x4 + (1 : Int32)).toNatClampNeg) q_29.2).bind fun q_31 => (
        if q_29.1 = q_31.1 then (
          L_L_law_23 Ls xs fk (x4 + 7) q_31.2)
        else (
          some ((0 : Int32), q_31.2))))
        else none))
        else none)
      else (
      if ((xs (x4).toNatClampNeg) &&& (31 : Int32)) = 5 then (
        if xin (x4 + (1 : Int32)) Ls = true then (
        (F_X9_chance (xs (x4 + (1 : Int32)).toNatClampNeg) m).bind fun q_33 => (
        if xin (x4 + (1 : Int32)) Ls = true then (
        (F_X10_chance (xs (x4 + (1 : Int32)).toNatClampNeg) q_33.2).bind fun q_35 => (
        if q_33.1 = q_35.1 then (
          L_L_law_23 Ls xs fk (x4 + 7) q_35.2)
        else (
          some ((0 : Int32), q_35.2))))
        else none))
        else none)
      else (
      if ((xs (x4).toNatClampNeg) &&& (31 : Int32)) = 6 then (
        if xin (x4 + (1 : Int32)) Ls = true then (
        if xin (x4 + (2 : Int32)) Ls = true then (
        (F_X9_takes (xs (x4 + (1 : Int32)).toNatClampNeg) (xs (x4 + (2 : Int32)).toNatClampNeg) m).bind fun q_38 => (
        if xin (x4 + (1 : Int32)) Ls = true then (
        if xin (x4 + (2 : Int32)) Ls = true then (
        (F_X10_takes (xs (x4 + (1 : Int32)).toNatClampNeg) (xs (x4 + (2 : Int32)).toNatClampNeg) q_38.2).bind fun q_41 => (
        if q_38.1 = q_41.1 then (
          L_L_law_23 Ls xs fk (x4 + 7) q_41.2)
        else (
          some ((0 : Int32), q_41.2))))
        else none)
        else none))
        else none)
        else none)
      else (
      if ((xs (x4).toNatClampNeg) &&& (31 : Int32)) = 7 then (
        if xin (x4 + (1 : Int32)) Ls = true then (
        if xin (x4 + (2 : Int32)) Ls = true then (
        (F_X9_plan (xs (x4 + (1 : Int32)).toNatClampNeg) (xs (x4 + (2 : Int32)).toNatClampNeg) m).bind fun q_44 => (
        if xin (x4 + (1 : Int32)) Ls = true then (
        if xin (x4 + (2 : Int32)) Ls = true then (
        (F_X10_plan (xs (x4 + (1 : Int32)).toNatClampNeg) (xs (x4 + (2 : Int32)).toNatClampNeg) q_44.2).bind fun q_47 => (
        if q_44.1 = q_47.1 then (
          L_L_law_23 Ls xs fk (x4 + 7) q_47.2)
        else (
          some ((0 : Int32), q_47.2))))
        else none)
        else none))
        else none)
        else none)
      else (
      if ((xs (x4).toNatClampNeg) &&& (31 : Int32)) = 8 then (
        if xin (x4 + (1 : Int32)) Ls = true then (
        if xin (x4 + (2 : Int32)) Ls = true then (
        if xin (x4 + (3 : Int32)) Ls = true then (
        (F_X9_letter (xs (x4 + (1 : Int32)).toNatClampNeg) (xs (x4 + (2 : Int32)).toNatClampNeg) (xs (x4 + (3 : Int32)).toNatClampNeg) m).bind fun q_51 => (
        if xin (x4 + (1 : Int32)) Ls = true then (
        if xin (x4 + (2 : Int32)) Ls = true then (
        if xin (x4 + (3 : Int32)) Ls = true then (
        (F_X10_letter (xs (x4 + (1 : Int32)).toNatClampNeg) (xs (x4 + (2 : Int32)).toNatClampNeg) (xs (x4 + (3 : Int32)).toNatClampNeg) q_51.2).bind fun q_55 => (
        if q_51.1 = q_55.1 then (
          L_L_law_23 Ls xs fk (x4 + 7) q_55.2)
        else (
          some ((0 : Int32), q_55.2))))
        else none)
        else none)
        else none))
        else none)
        else none)
        else none)
      else (
      if ((xs (x4).toNatClampNeg) &&& (31 : Int32)) = 9 then (
        if xin (x4 + (1 : Int32)) Ls = true then (
        (F_X9_weight (xs (x4 + (1 : Int32)).toNatClampNeg) m).bind fun q_57 => (
        if xin (x4 + (1 : Int32)) Ls = true then (
        (F_X10_weight (xs (x4 + (1 : Int32)).toNatClampNeg) q_57.2).bind fun q_59 => (
        if q_57.1 = q_59.1 then (
          L_L_law_23 Ls xs fk (x4 + 7) q_59.2)
        else (
          some ((0 : Int32), q_59.2))))
        else none))
        else none)
      else (
      if ((xs (x4).toNatClampNeg) &&& (31 : Int32)) = 10 then (
        if xin (x4 + (1 : Int32)) Ls = true then (
        (F_X9_believed (xs (x4 + (1 : Int32)).toNatClampNeg) m).bind fun q_61 => (
        if xin (x4 + (1 : Int32)) Ls = true then (
        (F_X10_believed (xs (x4 + (1 : Int32)).toNatClampNeg) q_61.2).bind fun q_63 => (
        if q_61.1 = q_63.1 then (
          L_L_law_23 Ls xs fk (x4 + 7) q_63.2)
        else (
          some ((0 : Int32), q_63.2))))
        else none))
        else none)
      else (
      if ((xs (x4).toNatClampNeg) &&& (31 : Int32)) = 11 then (
        if xin (x4 + (1 : Int32)) Ls = true then (
        (F_X9_quarrel (xs (x4 + (1 : Int32)).toNatClampNeg) m).bind fun q_65 => (
        if xin (x4 + (1 : Int32)) Ls = true then (
        (F_X10_quarrel (xs (x4 + (1 : Int32)).toNatClampNeg) q_65.2).bind fun q_67 => (
        if q_65.1 = q_67.1 then (
          L_L_law_23 Ls xs fk (x4 + 7) q_67.2)
        else (
          some ((0 : Int32), q_67.2))))
        else none))
        else none)
      else (
      if ((xs (x4).toNatClampNeg) &&& (31 : Int32)) = 12 then (
        if xin (x4 + (1 : Int32)) Ls = true then (
        (F_X9_proof (xs (x4 + (1 : Int32)).toNatClampNeg) m).bind fun q_69 => (
        if xin (x4 + (1 : Int32)) Ls = true then (
        (F_X10_proof (xs (x4 + (1 : Int32)).toNatClampNeg) q_69.2).bind fun q_71 => (
        if q_69.1 = q_71.1 then (
          L_L_law_23 Ls xs fk (x4 + 7) q_71.2)
        else (
          some ((0 : Int32), q_71.2))))
        else none))
        else none)
      else (
      if ((xs (x4).toNatClampNeg) &&& (31 : Int32)) = 13 then (
        if xin (x4 + (1 : Int32)) Ls = true then (
        if xin (x4 + (2 : Int32)) Ls = true then (
        if xin (x4 + (3 : Int32)) Ls = true then (
        (F_X9_mark (xs (x4 + (1 : Int32)).toNatClampNeg) (xs (x4 + (2 : Int32)).toNatClampNeg) (xs (x4 + (3 : Int32)).toNatClampNeg) m).bind fun q_75 => (
        if xin (x4 + (1 : Int32)) Ls = true then (
        if xin (x4 + (2 : Int32)) Ls = true then (
        if xin (x4 + (3 : Int32)) Ls = true then (
        (F_X10_mark (xs (x4 + (1 : Int32)).toNatClampNeg) (xs (x4 + (2 : Int32)).toNatClampNeg) (xs (x4 + (3 : Int32)).toNatClampNeg) q_75.2).bind fun q_79 => (
        if q_75.1 = q_79.1 then (
          L_L_law_23 Ls xs fk (x4 + 7) q_79.2)
        else (
          some ((0 : Int32), q_79.2))))
        else none)
        else none)
        else none))
        else none)
        else none)
        else none)
      else (
      if ((xs (x4).toNatClampNeg) &&& (31 : Int32)) = 14 then (
        if xin (x4 + (1 : Int32)) Ls = true then (
        (F_L_shift (xs (x4 + (1 : Int32)).toNatClampNeg) m).bind fun q_81 => (
        if xin (x4 + (1 : Int32)) Ls = true then (
        (F_X10_shift (xs (x4 + (1 : Int32)).toNatClampNeg) q_81.2).bind fun q_83 => (
        (F_X10_thrown q_83.2).bind fun q_84 => (
        if q_84.1 = q_81.1 then (
          if q_81.1 = 0 then (
            if xin (0 : Int32) 1 = true then (
            if (lg_cmp (q_84.2.2 aout (0 : Int32).toNatClampNeg) q_83.1.toInt64) = 0 then (
              L_L_law_23 Ls xs fk (x4 + 7) q_84.2)
            else (
              some ((0 : Int32), q_84.2)))
            else none)
          else (
            L_L_law_23 Ls xs fk (x4 + 7) q_84.2))
        else (
          some ((0 : Int32), q_84.2)))))
        else none))
        else none)
      else (
      if ((xs (x4).toNatClampNeg) &&& (31 : Int32)) = 15 then (
        if xin (x4 + (1 : Int32)) Ls = true then (
        if xin (x4 + (2 : Int32)) Ls = true then (
        if (xs (x4 + (2 : Int32)).toNatClampNeg) = 0 then (
          (F_X9_paid (xs (x4 + (1 : Int32)).toNatClampNeg) ((0 : Int32)) m).bind fun q_88 => (
          if xin (x4 + (1 : Int32)) Ls = true then (
          if xin (x4 + (2 : Int32)) Ls = true then (
          if (xs (x4 + (2 : Int32)).toNatClampNeg) = 0 then (
            (F_X10_paid (xs (x4 + (1 : Int32)).toNatClampNeg) ((0 : Int32)) q_88.2).bind fun q_91 => (
            if q_88.1 = q_91.1 then (
              L_L_law_23 Ls xs fk (x4 + 7) q_91.2)
            else (
              some ((0 : Int32), q_91.2))))
          else (
            (F_X10_paid (xs (x4 + (1 : Int32)).toNatClampNeg) ((1 : Int32)) q_88.2).bind fun q_92 => (
            if q_88.1 = q_92.1 then (
              L_L_law_23 Ls xs fk (x4 + 7) q_92.2)
            else (
              some ((0 : Int32), q_92.2)))))
          else none)
          else none))
        else (
          (F_X9_paid (xs (x4 + (1 : Int32)).toNatClampNeg) ((1 : Int32)) m).bind fun q_93 => (
          if xin (x4 + (1 : Int32)) Ls = true then (
          if xin (x4 + (2 : Int32)) Ls = true then (
          if (xs (x4 + (2 : Int32)).toNatClampNeg) = 0 then (
            (F_X10_paid (xs (x4 + (1 : Int32)).toNatClampNeg) ((0 : Int32)) q_93.2).bind fun q_96 => (
            if q_93.1 = q_96.1 then (
              L_L_law_23 Ls xs fk (x4 + 7) q_96.2)
            else (
              some ((0 : Int32), q_96.2))))
          else (
            (F_X10_paid (xs (x4 + (1 : Int32)).toNatClampNeg) ((1 : Int32)) q_93.2).bind fun q_97 => (
            if q_93.1 = q_97.1 then (
              L_L_law_23 Ls xs fk (x4 + 7) q_97.2)
            else (
              some ((0 : Int32), q_97.2)))))
          else none)
          else none)))
        else none)
        else none)
      else (
      if ((xs (x4).toNatClampNeg) &&& (31 : Int32)) = 16 then (
        if xin (x4 + (1 : Int32)) Ls = true then (
        if xin (x4 + (2 : Int32)) Ls = true then (
        if xin (x4 + (3 : Int32)) Ls = true then (
        if xin (x4 + (4 : Int32)) Ls = true then (
        if xin (x4 + (5 : Int32)) Ls = true then (
        if xin (x4 + (6 : Int32)) Ls = true then (
        (F_X9_feed ((((xs (x4 + (1 : Int32)).toNatClampNeg).toInt64) <<< ((32 : Int32).toInt64 &&& 63)) ||| (((xs (x4 + (2 : Int32)).toNatClampNeg).toInt64) &&& (4294967295 : Int64))) ((((xs (x4 + (3 : Int32)).toNatClampNeg).toInt64) <<< ((32 : Int32).toInt64 &&& 63)) ||| (((xs (x4 + (4 : Int32)).toNatClampNeg).toInt64) &&& (4294967295 : Int64))) ((((xs (x4 + (5 : Int32)).toNatClampNeg).toInt64) <<< ((32 : Int32).toInt64 &&& 63)) ||| (((xs (x4 + (6 : Int32)).toNatClampNeg).toInt64) &&& (4294967295 : Int64))) m).bind fun q_104 => (
        if xin (x4 + (1 : Int32)) Ls = true then (
        if xin (x4 + (2 : Int32)) Ls = true then (
        if xin (x4 + (3 : Int32)) Ls = true then (
        if xin (x4 + (4 : Int32)) Ls = true then (
        if xin (x4 + (5 : Int32)) Ls = true then (
        if xin (x4 + (6 : Int32)) Ls = true then (
        (F_X10_feed ((((xs (x4 + (1 : Int32)).toNatClampNeg).toInt64) <<< ((32 : Int32).toInt64 &&& 63)) ||| (((xs (x4 + (2 : Int32)).toNatClampNeg).toInt64) &&& (4294967295 : Int64))) ((((xs (x4 + (3 : Int32)).toNatClampNeg).toInt64) <<< ((32 : Int32).toInt64 &&& 63)) ||| (((xs (x4 + (4 : Int32)).toNatClampNeg).toInt64) &&& (4294967295 : Int64))) ((((xs (x4 + (5 : Int32)).toNatClampNeg).toInt64) <<< ((32 : Int32).toInt64 &&& 63)) ||| (((xs (x4 + (6 : Int32)).toNatClampNeg).toInt64) &&& (4294967295 : Int64))) q_104.2).bind fun q_111 => (
        if q_104.1 = q_111.1 then (
          L_L_law_23 Ls xs fk (x4 + 7) q_111.2)
        else (
          some ((0 : Int32), q_111.2))))
        else none)
        else none)
        else none)
        else none)
        else none)
        else none))
        else none)
        else none)
        else none)
        else none)
        else none)
        else none)
      else (
      if ((xs (x4).toNatClampNeg) &&& (31 : Int32)) = 17 then (
        (F_X9_text m).bind fun q_112 => (
        (F_X10_text q_112.2).bind fun q_113 => (
        if q_112.1 = q_113.1 then (
          L_L_law_23 Ls xs fk (x4 + 7) q_113.2)
        else (
          some ((0 : Int32), q_113.2)))))
      else (
      if ((xs (x4).toNatClampNeg) &&& (31 : Int32)) = 18 then (
        if xin (x4 + (1 : Int32)) Ls = true then (
        (F_X9_stars (xs (x4 + (1 : Int32)).toNatClampNeg) m).bind fun q_115 => (
        if xin (x4 + (1 : Int32)) Ls = true then (
        (F_X10_stars (xs (x4 + (1 : Int32)).toNatClampNeg) q_115.2).bind fun q_117 => (
        if q_115.1 = q_117.1 then (
          L_L_law_23 Ls xs fk (x4 + 7) q_117.2)
        else (
          some ((0 : Int32), q_117.2))))
        else none))
        else none)
      else (
      if ((xs (x4).toNatClampNeg) &&& (31 : Int32)) = 19 then (
        if xin (x4 + (1 : Int32)) Ls = true then (
        if xin (x4 + (2 : Int32)) Ls = true then (
        (F_X9_number (xs (x4 + (1 : Int32)).toNatClampNeg) (xs (x4 + (2 : Int32)).toNatClampNeg) m).bind fun q_120 => (
        if xin (x4 + (1 : Int32)) Ls = true then (
        if xin (x4 + (2 : Int32)) Ls = true then (
        (F_X10_number (xs (x4 + (1 : Int32)).toNatClampNeg) (xs (x4 + (2 : Int32)).toNatClampNeg) q_120.2).bind fun q_123 => (
        if q_120.1 = q_123.1 then (
          L_L_law_23 Ls xs fk (x4 + 7) q_123.2)
        else (
          some ((0 : Int32), q_123.2))))
        else none)
        else none))
        else none)
        else none)
      else (
      if ((xs (x4).toNatClampNeg) &&& (31 : Int32)) = 20 then (
        (F_X9_edition m).bind fun q_124 => (
        (F_X10_edition q_124.2).bind fun q_125 => (
        if q_124.1 = q_125.1 then (
          L_L_law_23 Ls xs fk (x4 + 7) q_125.2)
        else (
          some ((0 : Int32), q_125.2)))))
      else (
      if ((xs (x4).toNatClampNeg) &&& (31 : Int32)) = 21 then (
        if xin (x4 + (1 : Int32)) Ls = true then (
        if xin (x4 + (2 : Int32)) Ls = true then (
        if xin (x4 + (3 : Int32)) Ls = true then (
        (F_X9_printed (xs (x4 + (1 : Int32)).toNatClampNeg) (xs (x4 + (2 : Int32)).toNatClampNeg) (xs (x4 + (3 : Int32)).toNatClampNeg) m).bind fun q_129 => (
        if xin (x4 + (1 : Int32)) Ls = true then (
        if xin (x4 + (2 : Int32)) Ls = true then (
        if xin (x4 + (3 : Int32)) Ls = true then (
        (F_X10_printed (xs (x4 + (1 : Int32)).toNatClampNeg) (xs (x4 + (2 : Int32)).toNatClampNeg) (xs (x4 + (3 : Int32)).toNatClampNeg) q_129.2).bind fun q_133 => (
        if q_129.1 = q_133.1 then (
          L_L_law_23 Ls xs fk (x4 + 7) q_133.2)
        else (
          some ((0 : Int32), q_133.2))))
        else none)
        else none)
        else none))
        else none)
        else none)
        else none)
      else (
      if ((xs (x4).toNatClampNeg) &&& (31 : Int32)) = 22 then (
        if xin (x4 + (1 : Int32)) Ls = true then (
        if xin (x4 + (2 : Int32)) Ls = true then (
        (F_X9_errors (xs (x4 + (1 : Int32)).toNatClampNeg) (xs (x4 + (2 : Int32)).toNatClampNeg) m).bind fun q_136 => (
        if xin (x4 + (1 : Int32)) Ls = true then (
        if xin (x4 + (2 : Int32)) Ls = true then (
        (F_X10_errors (xs (x4 + (1 : Int32)).toNatClampNeg) (xs (x4 + (2 : Int32)).toNatClampNeg) q_136.2).bind fun q_139 => (
        if q_136.1 = q_139.1 then (
          L_L_law_23 Ls xs fk (x4 + 7) q_139.2)
        else (
          some ((0 : Int32), q_139.2))))
        else none)
        else none))
        else none)
        else none)
      else (
      if ((xs (x4).toNatClampNeg) &&& (31 : Int32)) = 23 then (
        if xin (x4 + (1 : Int32)) Ls = true then (
        (F_X9_count (xs (x4 + (1 : Int32)).toNatClampNeg) m).bind fun q_141 => (
        if xin (x4 + (1 : Int32)) Ls = true then (
        (F_X10_count (xs (x4 + (1 : Int32)).toNatClampNeg) q_141.2).bind fun q_143 => (
        if q_141.1 = q_143.1 then (
          L_L_law_23 Ls xs fk (x4 + 7) q_143.2)
        else (
          some ((0 : Int32), q_143.2))))
        else none))
        else none)
      else (
      if ((xs (x4).toNatClampNeg) &&& (31 : Int32)) = 24 then (
        if xin (x4 + (1 : Int32)) Ls = true then (
        if xin (x4 + (2 : Int32)) Ls = true then (
        (F_L_look (xs (x4 + (1 : Int32)).toNatClampNeg) (xs (x4 + (2 : Int32)).toNatClampNeg) m).bind fun q_146 => (
        if xin (x4 + (1 : Int32)) Ls = true then (
        if xin (x4 + (2 : Int32)) Ls = true then (
        (F_X10_look (xs (x4 + (1 : Int32)).toNatClampNeg) (xs (x4 + (2 : Int32)).toNatClampNeg) q_146.2).bind fun q_149 => (
        (F_X10_thrown q_149.2).bind fun q_150 => (
        if q_150.1 = q_146.1 then (
          if q_146.1 = 0 then (
            if xin (0 : Int32) 1 = true then (
            if (lg_cmp (q_150.2.2 aout (0 : Int32).toNatClampNeg) q_149.1.toInt64) = 0 then (
              L_L_law_23 Ls xs fk (x4 + 7) q_150.2)
            else (
              some ((0 : Int32), q_150.2)))
            else none)
          else (
            L_L_law_23 Ls xs fk (x4 + 7) q_150.2))
        else (
          some ((0 : Int32), q_150.2)))))
        else none)
        else none))
        else none)
        else none)
      else (
        L_L_law_23 Ls xs fk (x4 + 7) m))))))))))))))))))))))))))
      else none)
def F_L_law (Ls : Nat) (xs : Nat → Int32) (m : xMem) : Option (Int32 × xMem) :=
  L_L_law_23 Ls xs xfuel ((0 : Int32)) m
set_option maxHeartbeats 4000000 in
set_option maxRecDepth 100000 in
theorem pL_L_law_23 {E : xE} {d : Nat} {mc ms : Nat} {nm : String} {Q : Option Value → xS → Prop} (hd : 88 ≤ d) (out : Int32 × xMem) (hR : Q (some (.int out.1)) (xf E out.2)) (Ls : Nat) (xs : Nat → Int32) {b : Nat} (hX : va_X b Ls xs E.2.1 E.2.1.heap) (hbl : b < xB E) (hT0 : xThr E) : ∀ (fk : Nat) (x4 : Int32) (m : xMem) (rc rs : Nat), fk ≤ rc → 6 * fk ≤ rs → L_L_law_23 Ls xs fk x4 m = some out → xX E (mLaw nm) d mc ms rc rs Q 23 [(0, .ref b), (1, .ref (xB E + 0)), (2, .ref (xB E + 87)), (3, .ref (xB E + 125)), (4, .int (x4))] [] (xf E m) := by
  intro fk
  induction fk with
  | zero => intro x4 m rc rs hrc hrs hf; cases hf
  | succ fk ih =>
    intro x4 m rc rs hrc hrs hf
    rw [L_L_law_23] at hf
    refine x_iload dL_law_23 rfl ?_
    refine x_aload_n dL_law_25 rfl ?_
    refine x_scl hX hbl dL_law_26 ?_
    refine x_bipush (v := 7) dL_law_27 (by decide) ?_
    refine x_isub dL_law_29 ?_
    refine x_icmp_gt 1167 dL_law_30 (by decide) (fun hc => ?_) (fun hc => ?_)
    · replace hf := x_ift hc hf
      refine x_iconst (v := 1) dL_law_1167 (by decide) ?_
      exact x_zret dL_law_1168 rfl (by decide) (by cases hf; exact hR)
    · replace hf := x_iff hc hf
      refine x_aload_n dL_law_33 rfl ?_
      refine x_iload dL_law_34 rfl ?_
      have hg_1 := x_gd hf
      replace hf := hg_1.2
      refine x_scd hX hbl hg_1.1 dL_law_36 ?_
      refine x_bipush (v := 31) dL_law_37 (by decide) ?_
      refine x_iand dL_law_39 ?_
      by_cases hc : ((xs (x4).toNatClampNeg) &&& (31 : Int32)) = 0
      · replace hf := x_ift hc hf
        refine x_tableIn 156 dL_law_40 (by rw [hc]; decide) (by rw [hc]; decide) (by rw [hc]; rfl) (by decide) ?_
        refine x_aload_n dL_law_156 rfl ?_
        refine x_aload_n dL_law_157 rfl ?_
        refine x_iload dL_law_158 rfl ?_
        refine x_iconst (v := 1) dL_law_160 (by decide) ?_
        refine x_iadd dL_law_161 ?_
        have hg_2 := x_gd hf
        replace hf := hg_2.2
        refine x_scd hX hbl hg_2.1 dL_law_162 ?_
        obtain ⟨q_3, hq_3, hf⟩ := Option.bind_eq_some_iff.mp hf
        refine f_cVi mX9_years [.int (xs (x4 + (1 : Int32)).toNatClampNeg)] [] dL_law_163 cs_RL_23 ⟨w_385, w_386⟩ (ci := 9) rfl (by decide) sh_0 rfl rfl (Nat.le_of_ble_eq_true rfl) (by omega) (c_X9_years (d := d - 1) (by omega) (xs (x4 + (1 : Int32)).toNatClampNeg) m q_3 hq_3) ?_
        refine x_aload_n dL_law_166 rfl ?_
        refine x_aload_n dL_law_167 rfl ?_
        refine x_iload dL_law_168 rfl ?_
        refine x_iconst (v := 1) dL_law_170 (by decide) ?_
        refine x_iadd dL_law_171 ?_
        have hg_4 := x_gd hf
        replace hf := hg_4.2
        refine x_scd hX hbl hg_4.1 dL_law_172 ?_
        obtain ⟨q_5, hq_5, hf⟩ := Option.bind_eq_some_iff.mp hf
        refine f_cVi mX10_years [.int (xs (x4 + (1 : Int32)).toNatClampNeg)] [.int (q_3.1)] dL_law_173 cs_RL_26 ⟨w_1168, w_1169⟩ (ci := 10) rfl (by decide) sh_87 rfl rfl (Nat.le_of_ble_eq_true rfl) (by omega) (c_X10_years (d := d - 1) (by omega) (xs (x4 + (1 : Int32)).toNatClampNeg) q_3.2 q_5 hq_5) ?_
        refine x_icmp_eq 1161 dL_law_176 (by decide) (fun hc => ?_) (fun hc => ?_)
        · replace hf := x_ift hc hf
          refine x_iinc (v := x4 + 7) (lv' := [(0, .ref b), (1, .ref (xB E + 0)), (2, .ref (xB E + 87)), (3, .ref (xB E + 125)), (4, .int (x4 + 7))]) dL_law_1161 4 [1, 2, 3, 4, 0] rfl rfl (Nat.le_of_ble_eq_true rfl) rfl ?_
          refine x_goto 23 dL_law_1164 (by decide) ?_
          exact ih _ _ _ _ (by omega) (by omega) hf
        · replace hf := x_iff hc hf
          refine x_iconst (v := 0) dL_law_179 (by decide) ?_
          exact x_zret dL_law_180 rfl (by decide) (by cases hf; exact hR)
      replace hf := x_iff hc hf
      have hn0 := hc
      by_cases hc : ((xs (x4).toNatClampNeg) &&& (31 : Int32)) = 1
      · replace hf := x_ift hc hf
        refine x_tableIn 181 dL_law_40 (by rw [hc]; decide) (by rw [hc]; decide) (by rw [hc]; rfl) (by decide) ?_
        refine x_aload_n dL_law_181 rfl ?_
        refine x_aload_n dL_law_182 rfl ?_
        refine x_iload dL_law_183 rfl ?_
        refine x_iconst (v := 1) dL_law_185 (by decide) ?_
        refine x_iadd dL_law_186 ?_
        have hg_6 := x_gd hf
        replace hf := hg_6.2
        refine x_scd hX hbl hg_6.1 dL_law_187 ?_
        refine x_aload_n dL_law_188 rfl ?_
        refine x_iload dL_law_189 rfl ?_
        refine x_iconst (v := 2) dL_law_191 (by decide) ?_
        refine x_iadd dL_law_192 ?_
        have hg_7 := x_gd hf
        replace hf := hg_7.2
        refine x_scd hX hbl hg_7.1 dL_law_193 ?_
        refine x_aload_n dL_law_194 rfl ?_
        refine x_iload dL_law_195 rfl ?_
        refine x_iconst (v := 3) dL_law_197 (by decide) ?_
        refine x_iadd dL_law_198 ?_
        have hg_8 := x_gd hf
        replace hf := hg_8.2
        refine x_scd hX hbl hg_8.1 dL_law_199 ?_
        obtain ⟨q_9, hq_9, hf⟩ := Option.bind_eq_some_iff.mp hf
        refine f_cVi mX9_fact [.int (xs (x4 + (1 : Int32)).toNatClampNeg), .int (xs (x4 + (2 : Int32)).toNatClampNeg), .int (xs (x4 + (3 : Int32)).toNatClampNeg)] [] dL_law_200 cs_RL_27 ⟨w_392, w_393⟩ (ci := 9) rfl (by decide) sh_0 rfl rfl (Nat.le_of_ble_eq_true rfl) (by omega) (c_X9_fact (d := d - 1) (by omega) (xs (x4 + (1 : Int32)).toNatClampNeg) (xs (x4 + (2 : Int32)).toNatClampNeg) (xs (x4 + (3 : Int32)).toNatClampNeg) m q_9 hq_9) ?_
        refine x_aload_n dL_law_203 rfl ?_
        refine x_aload_n dL_law_204 rfl ?_
        refine x_iload dL_law_205 rfl ?_
        refine x_iconst (v := 1) dL_law_207 (by decide) ?_
        refine x_iadd dL_law_208 ?_
        have hg_10 := x_gd hf
        replace hf := hg_10.2
        refine x_scd hX hbl hg_10.1 dL_law_209 ?_
        refine x_aload_n dL_law_210 rfl ?_
        refine x_iload dL_law_211 rfl ?_
        refine x_iconst (v := 2) dL_law_213 (by decide) ?_
        refine x_iadd dL_law_214 ?_
        have hg_11 := x_gd hf
        replace hf := hg_11.2
        refine x_scd hX hbl hg_11.1 dL_law_215 ?_
        refine x_aload_n dL_law_216 rfl ?_
        refine x_iload dL_law_217 rfl ?_
        refine x_iconst (v := 3) dL_law_219 (by decide) ?_
        refine x_iadd dL_law_220 ?_
        have hg_12 := x_gd hf
        replace hf := hg_12.2
        refine x_scd hX hbl hg_12.1 dL_law_221 ?_
        obtain ⟨q_13, hq_13, hf⟩ := Option.bind_eq_some_iff.mp hf
        refine f_cVi mX10_fact [.int (xs (x4 + (1 : Int32)).toNatClampNeg), .int (xs (x4 + (2 : Int32)).toNatClampNeg), .int (xs (x4 + (3 : Int32)).toNatClampNeg)] [.int (q_9.1)] dL_law_222 cs_RL_31 ⟨w_1172, w_1173⟩ (ci := 10) rfl (by decide) sh_87 rfl rfl (Nat.le_of_ble_eq_true rfl) (by omega) (c_X10_fact (d := d - 1) (by omega) (xs (x4 + (1 : Int32)).toNatClampNeg) (xs (x4 + (2 : Int32)).toNatClampNeg) (xs (x4 + (3 : Int32)).toNatClampNeg) q_9.2 q_13 hq_13) ?_
        refine x_icmp_eq 1161 dL_law_225 (by decide) (fun hc => ?_) (fun hc => ?_)
        · replace hf := x_ift hc hf
          refine x_iinc (v := x4 + 7) (lv' := [(0, .ref b), (1, .ref (xB E + 0)), (2, .ref (xB E + 87)), (3, .ref (xB E + 125)), (4, .int (x4 + 7))]) dL_law_1161 4 [1, 2, 3, 4, 0] rfl rfl (Nat.le_of_ble_eq_true rfl) rfl ?_
          refine x_goto 23 dL_law_1164 (by decide) ?_
          exact ih _ _ _ _ (by omega) (by omega) hf
        · replace hf := x_iff hc hf
          refine x_iconst (v := 0) dL_law_228 (by decide) ?_
          exact x_zret dL_law_229 rfl (by decide) (by cases hf; exact hR)
      replace hf := x_iff hc hf
      have hn1 := hc
      by_cases hc : ((xs (x4).toNatClampNeg) &&& (31 : Int32)) = 2
      · replace hf := x_ift hc hf
        refine x_tableIn 230 dL_law_40 (by rw [hc]; decide) (by rw [hc]; decide) (by rw [hc]; rfl) (by decide) ?_
        refine x_aload_n dL_law_230 rfl ?_
        refine x_aload_n dL_law_231 rfl ?_
        refine x_iload dL_law_232 rfl ?_
        refine x_iconst (v := 1) dL_law_234 (by decide) ?_
        refine x_iadd dL_law_235 ?_
        have hg_14 := x_gd hf
        replace hf := hg_14.2
        refine x_scd hX hbl hg_14.1 dL_law_236 ?_
        refine x_aload_n dL_law_237 rfl ?_
        refine x_iload dL_law_238 rfl ?_
        refine x_iconst (v := 2) dL_law_240 (by decide) ?_
        refine x_iadd dL_law_241 ?_
        have hg_15 := x_gd hf
        replace hf := hg_15.2
        refine x_scd hX hbl hg_15.1 dL_law_242 ?_
        refine x_aload_n dL_law_243 rfl ?_
        refine x_iload dL_law_244 rfl ?_
        refine x_iconst (v := 3) dL_law_246 (by decide) ?_
        refine x_iadd dL_law_247 ?_
        have hg_16 := x_gd hf
        replace hf := hg_16.2
        refine x_scd hX hbl hg_16.1 dL_law_248 ?_
        obtain ⟨q_17, hq_17, hf⟩ := Option.bind_eq_some_iff.mp hf
        refine f_cVi mX9_line [.int (xs (x4 + (1 : Int32)).toNatClampNeg), .int (xs (x4 + (2 : Int32)).toNatClampNeg), .int (xs (x4 + (3 : Int32)).toNatClampNeg)] [] dL_law_249 cs_RL_32 ⟨w_409, w_410⟩ (ci := 9) rfl (by decide) sh_0 rfl rfl (Nat.le_of_ble_eq_true rfl) (by omega) (c_X9_line (d := d - 1) (by omega) (xs (x4 + (1 : Int32)).toNatClampNeg) (xs (x4 + (2 : Int32)).toNatClampNeg) (xs (x4 + (3 : Int32)).toNatClampNeg) m q_17 hq_17) ?_
        refine x_aload_n dL_law_252 rfl ?_
        refine x_aload_n dL_law_253 rfl ?_
        refine x_iload dL_law_254 rfl ?_
        refine x_iconst (v := 1) dL_law_256 (by decide) ?_
        refine x_iadd dL_law_257 ?_
        have hg_18 := x_gd hf
        replace hf := hg_18.2
        refine x_scd hX hbl hg_18.1 dL_law_258 ?_
        refine x_aload_n dL_law_259 rfl ?_
        refine x_iload dL_law_260 rfl ?_
        refine x_iconst (v := 2) dL_law_262 (by decide) ?_
        refine x_iadd dL_law_263 ?_
        have hg_19 := x_gd hf
        replace hf := hg_19.2
        refine x_scd hX hbl hg_19.1 dL_law_264 ?_
        refine x_aload_n dL_law_265 rfl ?_
        refine x_iload dL_law_266 rfl ?_
        refine x_iconst (v := 3) dL_law_268 (by decide) ?_
        refine x_iadd dL_law_269 ?_
        have hg_20 := x_gd hf
        replace hf := hg_20.2
        refine x_scd hX hbl hg_20.1 dL_law_270 ?_
        obtain ⟨q_21, hq_21, hf⟩ := Option.bind_eq_some_iff.mp hf
        refine f_cVi mX10_line_ [.int (xs (x4 + (1 : Int32)).toNatClampNeg), .int (xs (x4 + (2 : Int32)).toNatClampNeg), .int (xs (x4 + (3 : Int32)).toNatClampNeg)] [.int (q_17.1)] dL_law_271 cs_RL_36 ⟨w_1182, w_1183⟩ (ci := 10) rfl (by decide) sh_87 rfl rfl (Nat.le_of_ble_eq_true rfl) (by omega) (c_X10_line_ (d := d - 1) (by omega) (xs (x4 + (1 : Int32)).toNatClampNeg) (xs (x4 + (2 : Int32)).toNatClampNeg) (xs (x4 + (3 : Int32)).toNatClampNeg) q_17.2 q_21 hq_21) ?_
        refine x_icmp_eq 1161 dL_law_274 (by decide) (fun hc => ?_) (fun hc => ?_)
        · replace hf := x_ift hc hf
          refine x_iinc (v := x4 + 7) (lv' := [(0, .ref b), (1, .ref (xB E + 0)), (2, .ref (xB E + 87)), (3, .ref (xB E + 125)), (4, .int (x4 + 7))]) dL_law_1161 4 [1, 2, 3, 4, 0] rfl rfl (Nat.le_of_ble_eq_true rfl) rfl ?_
          refine x_goto 23 dL_law_1164 (by decide) ?_
          exact ih _ _ _ _ (by omega) (by omega) hf
        · replace hf := x_iff hc hf
          refine x_iconst (v := 0) dL_law_277 (by decide) ?_
          exact x_zret dL_law_278 rfl (by decide) (by cases hf; exact hR)
      replace hf := x_iff hc hf
      have hn2 := hc
      by_cases hc : ((xs (x4).toNatClampNeg) &&& (31 : Int32)) = 3
      · replace hf := x_ift hc hf
        refine x_tableIn 279 dL_law_40 (by rw [hc]; decide) (by rw [hc]; decide) (by rw [hc]; rfl) (by decide) ?_
        refine x_aload_n dL_law_279 rfl ?_
        refine x_aload_n dL_law_280 rfl ?_
        refine x_iload dL_law_281 rfl ?_
        refine x_iconst (v := 1) dL_law_283 (by decide) ?_
        refine x_iadd dL_law_284 ?_
        have hg_22 := x_gd hf
        replace hf := hg_22.2
        refine x_scd hX hbl hg_22.1 dL_law_285 ?_
        refine x_aload_n dL_law_286 rfl ?_
        refine x_iload dL_law_287 rfl ?_
        refine x_iconst (v := 2) dL_law_289 (by decide) ?_
        refine x_iadd dL_law_290 ?_
        have hg_23 := x_gd hf
        replace hf := hg_23.2
        refine x_scd hX hbl hg_23.1 dL_law_291 ?_
        obtain ⟨q_24, hq_24, hf⟩ := Option.bind_eq_some_iff.mp hf
        refine f_cVi mX9_check [.int (xs (x4 + (1 : Int32)).toNatClampNeg), .int (xs (x4 + (2 : Int32)).toNatClampNeg)] [] dL_law_292 cs_RL_37 ⟨w_417, w_418⟩ (ci := 9) rfl (by decide) sh_0 rfl rfl (Nat.le_of_ble_eq_true rfl) (by omega) (c_X9_check (d := d - 1) (by omega) (xs (x4 + (1 : Int32)).toNatClampNeg) (xs (x4 + (2 : Int32)).toNatClampNeg) m q_24 hq_24) ?_
        refine x_aload_n dL_law_295 rfl ?_
        refine x_aload_n dL_law_296 rfl ?_
        refine x_iload dL_law_297 rfl ?_
        refine x_iconst (v := 1) dL_law_299 (by decide) ?_
        refine x_iadd dL_law_300 ?_
        have hg_25 := x_gd hf
        replace hf := hg_25.2
        refine x_scd hX hbl hg_25.1 dL_law_301 ?_
        refine x_aload_n dL_law_302 rfl ?_
        refine x_iload dL_law_303 rfl ?_
        refine x_iconst (v := 2) dL_law_305 (by decide) ?_
        refine x_iadd dL_law_306 ?_
        have hg_26 := x_gd hf
        replace hf := hg_26.2
        refine x_scd hX hbl hg_26.1 dL_law_307 ?_
        obtain ⟨q_27, hq_27, hf⟩ := Option.bind_eq_some_iff.mp hf
        refine f_cVi mX10_check [.int (xs (x4 + (1 : Int32)).toNatClampNeg), .int (xs (x4 + (2 : Int32)).toNatClampNeg)] [.int (q_24.1)] dL_law_308 cs_RL_40 ⟨w_1207, w_1208⟩ (ci := 10) rfl (by decide) sh_87 rfl rfl (Nat.le_of_ble_eq_true rfl) (by omega) (c_X10_check (d := d - 1) (by omega) (xs (x4 + (1 : Int32)).toNatClampNeg) (xs (x4 + (2 : Int32)).toNatClampNeg) q_24.2 q_27 hq_27) ?_
        refine x_icmp_eq 1161 dL_law_311 (by decide) (fun hc => ?_) (fun hc => ?_)
        · replace hf := x_ift hc hf
          refine x_iinc (v := x4 + 7) (lv' := [(0, .ref b), (1, .ref (xB E + 0)), (2, .ref (xB E + 87)), (3, .ref (xB E + 125)), (4, .int (x4 + 7))]) dL_law_1161 4 [1, 2, 3, 4, 0] rfl rfl (Nat.le_of_ble_eq_true rfl) rfl ?_
          refine x_goto 23 dL_law_1164 (by decide) ?_
          exact ih _ _ _ _ (by omega) (by omega) hf
        · replace hf := x_iff hc hf
          refine x_iconst (v := 0) dL_law_314 (by decide) ?_
          exact x_zret dL_law_315 rfl (by decide) (by cases hf; exact hR)
      replace hf := x_iff hc hf
      have hn3 := hc
      by_cases hc : ((xs (x4).toNatClampNeg) &&& (31 : Int32)) = 4
      · replace hf := x_ift hc hf
        refine x_tableIn 316 dL_law_40 (by rw [hc]; decide) (by rw [hc]; decide) (by rw [hc]; rfl) (by decide) ?_
        refine x_aload_n dL_law_316 rfl ?_
        refine x_aload_n dL_law_317 rfl ?_
        refine x_iload dL_law_318 rfl ?_
        refine x_iconst (v := 1) dL_law_320 (by decide) ?_
        refine x_iadd dL_law_321 ?_
        have hg_28 := x_gd hf
        replace hf := hg_28.2
        refine x_scd hX hbl hg_28.1 dL_law_322 ?_
        obtain ⟨q_29, hq_29, hf⟩ := Option.bind_eq_some_iff.mp hf
        refine f_cVi mX9_rate [.int (xs (x4 + (1 : Int32)).toNatClampNeg)] [] dL_law_323 cs_RL_41 ⟨w_445, w_446⟩ (ci := 9) rfl (by decide) sh_0 rfl rfl (Nat.le_of_ble_eq_true rfl) (by omega) (c_X9_rate (d := d - 1) (by omega) (xs (x4 + (1 : Int32)).toNatClampNeg) m q_29 hq_29) ?_
        refine x_aload_n dL_law_326 rfl ?_
        refine x_aload_n dL_law_327 rfl ?_
        refine x_iload dL_law_328 rfl ?_
        refine x_iconst (v := 1) dL_law_330 (by decide) ?_
        refine x_iadd dL_law_331 ?_
        have hg_30 := x_gd hf
        replace hf := hg_30.2
        refine x_scd hX hbl hg_30.1 dL_law_332 ?_
        obtain ⟨q_31, hq_31, hf⟩ := Option.bind_eq_some_iff.mp hf
        refine f_cVi mX10_rate [.int (xs (x4 + (1 : Int32)).toNatClampNeg)] [.int (q_29.1)] dL_law_333 cs_RL_44 ⟨w_1190, w_1191⟩ (ci := 10) rfl (by decide) sh_87 rfl rfl (Nat.le_of_ble_eq_true rfl) (by omega) (c_X10_rate (d := d - 1) (by omega) (xs (x4 + (1 : Int32)).toNatClampNeg) q_29.2 q_31 hq_31) ?_
        refine x_icmp_eq 1161 dL_law_336 (by decide) (fun hc => ?_) (fun hc => ?_)
        · replace hf := x_ift hc hf
          refine x_iinc (v := x4 + 7) (lv' := [(0, .ref b), (1, .ref (xB E + 0)), (2, .ref (xB E + 87)), (3, .ref (xB E + 125)), (4, .int (x4 + 7))]) dL_law_1161 4 [1, 2, 3, 4, 0] rfl rfl (Nat.le_of_ble_eq_true rfl) rfl ?_
          refine x_goto 23 dL_law_1164 (by decide) ?_
          exact ih _ _ _ _ (by omega) (by omega) hf
        · replace hf := x_iff hc hf
          refine x_iconst (v := 0) dL_law_339 (by decide) ?_
          exact x_zret dL_law_340 rfl (by decide) (by cases hf; exact hR)
      replace hf := x_iff hc hf
      have hn4 := hc
      by_cases hc : ((xs (x4).toNatClampNeg) &&& (31 : Int32)) = 5
      · replace hf := x_ift hc hf
        refine x_tableIn 341 dL_law_40 (by rw [hc]; decide) (by rw [hc]; decide) (by rw [hc]; rfl) (by decide) ?_
        refine x_aload_n dL_law_341 rfl ?_
        refine x_aload_n dL_law_342 rfl ?_
        refine x_iload dL_law_343 rfl ?_
        refine x_iconst (v := 1) dL_law_345 (by decide) ?_
        refine x_iadd dL_law_346 ?_
        have hg_32 := x_gd hf
        replace hf := hg_32.2
        refine x_scd hX hbl hg_32.1 dL_law_347 ?_
        obtain ⟨q_33, hq_33, hf⟩ := Option.bind_eq_some_iff.mp hf
        refine f_cVi mX9_chance [.int (xs (x4 + (1 : Int32)).toNatClampNeg)] [] dL_law_348 cs_RL_45 ⟨w_460, w_461⟩ (ci := 9) rfl (by decide) sh_0 rfl rfl (Nat.le_of_ble_eq_true rfl) (by omega) (c_X9_chance (d := d - 1) (by omega) (xs (x4 + (1 : Int32)).toNatClampNeg) m q_33 hq_33) ?_
        refine x_aload_n dL_law_351 rfl ?_
        refine x_aload_n dL_law_352 rfl ?_
        refine x_iload dL_law_353 rfl ?_
        refine x_iconst (v := 1) dL_law_355 (by decide) ?_
        refine x_iadd dL_law_356 ?_
        have hg_34 := x_gd hf
        replace hf := hg_34.2
        refine x_scd hX hbl hg_34.1 dL_law_357 ?_
        obtain ⟨q_35, hq_35, hf⟩ := Option.bind_eq_some_iff.mp hf
        refine f_cVi mX10_chance [.int (xs (x4 + (1 : Int32)).toNatClampNeg)] [.int (q_33.1)] dL_law_358 cs_RL_48 ⟨w_1199, w_1200⟩ (ci := 10) rfl (by decide) sh_87 rfl rfl (Nat.le_of_ble_eq_true rfl) (by omega) (c_X10_chance (d := d - 1) (by omega) (xs (x4 + (1 : Int32)).toNatClampNeg) q_33.2 q_35 hq_35) ?_
        refine x_icmp_eq 1161 dL_law_361 (by decide) (fun hc => ?_) (fun hc => ?_)
        · replace hf := x_ift hc hf
          refine x_iinc (v := x4 + 7) (lv' := [(0, .ref b), (1, .ref (xB E + 0)), (2, .ref (xB E + 87)), (3, .ref (xB E + 125)), (4, .int (x4 + 7))]) dL_law_1161 4 [1, 2, 3, 4, 0] rfl rfl (Nat.le_of_ble_eq_true rfl) rfl ?_
          refine x_goto 23 dL_law_1164 (by decide) ?_
          exact ih _ _ _ _ (by omega) (by omega) hf
        · replace hf := x_iff hc hf
          refine x_iconst (v := 0) dL_law_364 (by decide) ?_
          exact x_zret dL_law_365 rfl (by decide) (by cases hf; exact hR)
      replace hf := x_iff hc hf
      have hn5 := hc
      by_cases hc : ((xs (x4).toNatClampNeg) &&& (31 : Int32)) = 6
      · replace hf := x_ift hc hf
        refine x_tableIn 366 dL_law_40 (by rw [hc]; decide) (by rw [hc]; decide) (by rw [hc]; rfl) (by decide) ?_
        refine x_aload_n dL_law_366 rfl ?_
        refine x_aload_n dL_law_367 rfl ?_
        refine x_iload dL_law_368 rfl ?_
        refine x_iconst (v := 1) dL_law_370 (by decide) ?_
        refine x_iadd dL_law_371 ?_
        have hg_36 := x_gd hf
        replace hf := hg_36.2
        refine x_scd hX hbl hg_36.1 dL_law_372 ?_
        refine x_aload_n dL_law_373 rfl ?_
        refine x_iload dL_law_374 rfl ?_
        refine x_iconst (v := 2) dL_law_376 (by decide) ?_
        refine x_iadd dL_law_377 ?_
        have hg_37 := x_gd hf
        replace hf := hg_37.2
        refine x_scd hX hbl hg_37.1 dL_law_378 ?_
        obtain ⟨q_38, hq_38, hf⟩ := Option.bind_eq_some_iff.mp hf
        refine f_cVi mX9_takes [.int (xs (x4 + (1 : Int32)).toNatClampNeg), .int (xs (x4 + (2 : Int32)).toNatClampNeg)] [] dL_law_379 cs_RL_49 ⟨w_469, w_470⟩ (ci := 9) rfl (by decide) sh_0 rfl rfl (Nat.le_of_ble_eq_true rfl) (by omega) (c_X9_takes (d := d - 1) (by omega) (xs (x4 + (1 : Int32)).toNatClampNeg) (xs (x4 + (2 : Int32)).toNatClampNeg) m q_38 hq_38) ?_
        refine x_aload_n dL_law_382 rfl ?_
        refine x_aload_n dL_law_383 rfl ?_
        refine x_iload dL_law_384 rfl ?_
        refine x_iconst (v := 1) dL_law_386 (by decide) ?_
        refine x_iadd dL_law_387 ?_
        have hg_39 := x_gd hf
        replace hf := hg_39.2
        refine x_scd hX hbl hg_39.1 dL_law_388 ?_
        refine x_aload_n dL_law_389 rfl ?_
        refine x_iload dL_law_390 rfl ?_
        refine x_iconst (v := 2) dL_law_392 (by decide) ?_
        refine x_iadd dL_law_393 ?_
        have hg_40 := x_gd hf
        replace hf := hg_40.2
        refine x_scd hX hbl hg_40.1 dL_law_394 ?_
        obtain ⟨q_41, hq_41, hf⟩ := Option.bind_eq_some_iff.mp hf
        refine f_cVi mX10_takes [.int (xs (x4 + (1 : Int32)).toNatClampNeg), .int (xs (x4 + (2 : Int32)).toNatClampNeg)] [.int (q_38.1)] dL_law_395 cs_RL_53 ⟨w_1215, w_1216⟩ (ci := 10) rfl (by decide) sh_87 rfl rfl (Nat.le_of_ble_eq_true rfl) (by omega) (c_X10_takes (d := d - 1) (by omega) (xs (x4 + (1 : Int32)).toNatClampNeg) (xs (x4 + (2 : Int32)).toNatClampNeg) q_38.2 q_41 hq_41) ?_
        refine x_icmp_eq 1161 dL_law_398 (by decide) (fun hc => ?_) (fun hc => ?_)
        · replace hf := x_ift hc hf
          refine x_iinc (v := x4 + 7) (lv' := [(0, .ref b), (1, .ref (xB E + 0)), (2, .ref (xB E + 87)), (3, .ref (xB E + 125)), (4, .int (x4 + 7))]) dL_law_1161 4 [1, 2, 3, 4, 0] rfl rfl (Nat.le_of_ble_eq_true rfl) rfl ?_
          refine x_goto 23 dL_law_1164 (by decide) ?_
          exact ih _ _ _ _ (by omega) (by omega) hf
        · replace hf := x_iff hc hf
          refine x_iconst (v := 0) dL_law_401 (by decide) ?_
          exact x_zret dL_law_402 rfl (by decide) (by cases hf; exact hR)
      replace hf := x_iff hc hf
      have hn6 := hc
      by_cases hc : ((xs (x4).toNatClampNeg) &&& (31 : Int32)) = 7
      · replace hf := x_ift hc hf
        refine x_tableIn 403 dL_law_40 (by rw [hc]; decide) (by rw [hc]; decide) (by rw [hc]; rfl) (by decide) ?_
        refine x_aload_n dL_law_403 rfl ?_
        refine x_aload_n dL_law_404 rfl ?_
        refine x_iload dL_law_405 rfl ?_
        refine x_iconst (v := 1) dL_law_407 (by decide) ?_
        refine x_iadd dL_law_408 ?_
        have hg_42 := x_gd hf
        replace hf := hg_42.2
        refine x_scd hX hbl hg_42.1 dL_law_409 ?_
        refine x_aload_n dL_law_410 rfl ?_
        refine x_iload dL_law_411 rfl ?_
        refine x_iconst (v := 2) dL_law_413 (by decide) ?_
        refine x_iadd dL_law_414 ?_
        have hg_43 := x_gd hf
        replace hf := hg_43.2
        refine x_scd hX hbl hg_43.1 dL_law_415 ?_
        obtain ⟨q_44, hq_44, hf⟩ := Option.bind_eq_some_iff.mp hf
        refine f_cVi mX9_plan [.int (xs (x4 + (1 : Int32)).toNatClampNeg), .int (xs (x4 + (2 : Int32)).toNatClampNeg)] [] dL_law_416 cs_RL_54 ⟨w_473, w_474⟩ (ci := 9) rfl (by decide) sh_0 rfl rfl (Nat.le_of_ble_eq_true rfl) (by omega) (c_X9_plan (d := d - 1) (by omega) (xs (x4 + (1 : Int32)).toNatClampNeg) (xs (x4 + (2 : Int32)).toNatClampNeg) m q_44 hq_44) ?_
        refine x_aload_n dL_law_419 rfl ?_
        refine x_aload_n dL_law_420 rfl ?_
        refine x_iload dL_law_421 rfl ?_
        refine x_iconst (v := 1) dL_law_423 (by decide) ?_
        refine x_iadd dL_law_424 ?_
        have hg_45 := x_gd hf
        replace hf := hg_45.2
        refine x_scd hX hbl hg_45.1 dL_law_425 ?_
        refine x_aload_n dL_law_426 rfl ?_
        refine x_iload dL_law_427 rfl ?_
        refine x_iconst (v := 2) dL_law_429 (by decide) ?_
        refine x_iadd dL_law_430 ?_
        have hg_46 := x_gd hf
        replace hf := hg_46.2
        refine x_scd hX hbl hg_46.1 dL_law_431 ?_
        obtain ⟨q_47, hq_47, hf⟩ := Option.bind_eq_some_iff.mp hf
        refine f_cVi mX10_plan [.int (xs (x4 + (1 : Int32)).toNatClampNeg), .int (xs (x4 + (2 : Int32)).toNatClampNeg)] [.int (q_44.1)] dL_law_432 cs_RL_57 ⟨w_1219, w_1220⟩ (ci := 10) rfl (by decide) sh_87 rfl rfl (Nat.le_of_ble_eq_true rfl) (by omega) (c_X10_plan (d := d - 1) (by omega) (xs (x4 + (1 : Int32)).toNatClampNeg) (xs (x4 + (2 : Int32)).toNatClampNeg) q_44.2 q_47 hq_47) ?_
        refine x_icmp_eq 1161 dL_law_435 (by decide) (fun hc => ?_) (fun hc => ?_)
        · replace hf := x_ift hc hf
          refine x_iinc (v := x4 + 7) (lv' := [(0, .ref b), (1, .ref (xB E + 0)), (2, .ref (xB E + 87)), (3, .ref (xB E + 125)), (4, .int (x4 + 7))]) dL_law_1161 4 [1, 2, 3, 4, 0] rfl rfl (Nat.le_of_ble_eq_true rfl) rfl ?_
          refine x_goto 23 dL_law_1164 (by decide) ?_
          exact ih _ _ _ _ (by omega) (by omega) hf
        · replace hf := x_iff hc hf
          refine x_iconst (v := 0) dL_law_438 (by decide) ?_
          exact x_zret dL_law_439 rfl (by decide) (by cases hf; exact hR)
      replace hf := x_iff hc hf
      have hn7 := hc
      by_cases hc : ((xs (x4).toNatClampNeg) &&& (31 : Int32)) = 8
      · replace hf := x_ift hc hf
        refine x_tableIn 440 dL_law_40 (by rw [hc]; decide) (by rw [hc]; decide) (by rw [hc]; rfl) (by decide) ?_
        refine x_aload_n dL_law_440 rfl ?_
        refine x_aload_n dL_law_441 rfl ?_
        refine x_iload dL_law_442 rfl ?_
        refine x_iconst (v := 1) dL_law_444 (by decide) ?_
        refine x_iadd dL_law_445 ?_
        have hg_48 := x_gd hf
        replace hf := hg_48.2
        refine x_scd hX hbl hg_48.1 dL_law_446 ?_
        refine x_aload_n dL_law_447 rfl ?_
        refine x_iload dL_law_448 rfl ?_
        refine x_iconst (v := 2) dL_law_450 (by decide) ?_
        refine x_iadd dL_law_451 ?_
        have hg_49 := x_gd hf
        replace hf := hg_49.2
        refine x_scd hX hbl hg_49.1 dL_law_452 ?_
        refine x_aload_n dL_law_453 rfl ?_
        refine x_iload dL_law_454 rfl ?_
        refine x_iconst (v := 3) dL_law_456 (by decide) ?_
        refine x_iadd dL_law_457 ?_
        have hg_50 := x_gd hf
        replace hf := hg_50.2
        refine x_scd hX hbl hg_50.1 dL_law_458 ?_
        obtain ⟨q_51, hq_51, hf⟩ := Option.bind_eq_some_iff.mp hf
        refine f_cVi mX9_letter [.int (xs (x4 + (1 : Int32)).toNatClampNeg), .int (xs (x4 + (2 : Int32)).toNatClampNeg), .int (xs (x4 + (3 : Int32)).toNatClampNeg)] [] dL_law_459 cs_RL_58 ⟨w_507, w_508⟩ (ci := 9) rfl (by decide) sh_0 rfl rfl (Nat.le_of_ble_eq_true rfl) (by omega) (c_X9_letter (d := d - 1) (by omega) (xs (x4 + (1 : Int32)).toNatClampNeg) (xs (x4 + (2 : Int32)).toNatClampNeg) (xs (x4 + (3 : Int32)).toNatClampNeg) m q_51 hq_51) ?_
        refine x_aload_n dL_law_462 rfl ?_
        refine x_aload_n dL_law_463 rfl ?_
        refine x_iload dL_law_464 rfl ?_
        refine x_iconst (v := 1) dL_law_466 (by decide) ?_
        refine x_iadd dL_law_467 ?_
        have hg_52 := x_gd hf
        replace hf := hg_52.2
        refine x_scd hX hbl hg_52.1 dL_law_468 ?_
        refine x_aload_n dL_law_469 rfl ?_
        refine x_iload dL_law_470 rfl ?_
        refine x_iconst (v := 2) dL_law_472 (by decide) ?_
        refine x_iadd dL_law_473 ?_
        have hg_53 := x_gd hf
        replace hf := hg_53.2
        refine x_scd hX hbl hg_53.1 dL_law_474 ?_
        refine x_aload_n dL_law_475 rfl ?_
        refine x_iload dL_law_476 rfl ?_
        refine x_iconst (v := 3) dL_law_478 (by decide) ?_
        refine x_iadd dL_law_479 ?_
        have hg_54 := x_gd hf
        replace hf := hg_54.2
        refine x_scd hX hbl hg_54.1 dL_law_480 ?_
        obtain ⟨q_55, hq_55, hf⟩ := Option.bind_eq_some_iff.mp hf
        refine f_cVi mX10_letter [.int (xs (x4 + (1 : Int32)).toNatClampNeg), .int (xs (x4 + (2 : Int32)).toNatClampNeg), .int (xs (x4 + (3 : Int32)).toNatClampNeg)] [.int (q_51.1)] dL_law_481 cs_RL_61 ⟨w_1233, w_1234⟩ (ci := 10) rfl (by decide) sh_87 rfl rfl (Nat.le_of_ble_eq_true rfl) (by omega) (c_X10_letter (d := d - 1) (by omega) (xs (x4 + (1 : Int32)).toNatClampNeg) (xs (x4 + (2 : Int32)).toNatClampNeg) (xs (x4 + (3 : Int32)).toNatClampNeg) q_51.2 q_55 hq_55) ?_
        refine x_icmp_eq 1161 dL_law_484 (by decide) (fun hc => ?_) (fun hc => ?_)
        · replace hf := x_ift hc hf
          refine x_iinc (v := x4 + 7) (lv' := [(0, .ref b), (1, .ref (xB E + 0)), (2, .ref (xB E + 87)), (3, .ref (xB E + 125)), (4, .int (x4 + 7))]) dL_law_1161 4 [1, 2, 3, 4, 0] rfl rfl (Nat.le_of_ble_eq_true rfl) rfl ?_
          refine x_goto 23 dL_law_1164 (by decide) ?_
          exact ih _ _ _ _ (by omega) (by omega) hf
        · replace hf := x_iff hc hf
          refine x_iconst (v := 0) dL_law_487 (by decide) ?_
          exact x_zret dL_law_488 rfl (by decide) (by cases hf; exact hR)
      replace hf := x_iff hc hf
      have hn8 := hc
      by_cases hc : ((xs (x4).toNatClampNeg) &&& (31 : Int32)) = 9
      · replace hf := x_ift hc hf
        refine x_tableIn 489 dL_law_40 (by rw [hc]; decide) (by rw [hc]; decide) (by rw [hc]; rfl) (by decide) ?_
        refine x_aload_n dL_law_489 rfl ?_
        refine x_aload_n dL_law_490 rfl ?_
        refine x_iload dL_law_491 rfl ?_
        refine x_iconst (v := 1) dL_law_493 (by decide) ?_
        refine x_iadd dL_law_494 ?_
        have hg_56 := x_gd hf
        replace hf := hg_56.2
        refine x_scd hX hbl hg_56.1 dL_law_495 ?_
        obtain ⟨q_57, hq_57, hf⟩ := Option.bind_eq_some_iff.mp hf
        refine f_cVi mX9_weight [.int (xs (x4 + (1 : Int32)).toNatClampNeg)] [] dL_law_496 cs_RL_62 ⟨w_518, w_519⟩ (ci := 9) rfl (by decide) sh_0 rfl rfl (Nat.le_of_ble_eq_true rfl) (by omega) (c_X9_weight (d := d - 1) (by omega) (xs (x4 + (1 : Int32)).toNatClampNeg) m q_57 hq_57) ?_
        refine x_aload_n dL_law_499 rfl ?_
        refine x_aload_n dL_law_500 rfl ?_
        refine x_iload dL_law_501 rfl ?_
        refine x_iconst (v := 1) dL_law_503 (by decide) ?_
        refine x_iadd dL_law_504 ?_
        have hg_58 := x_gd hf
        replace hf := hg_58.2
        refine x_scd hX hbl hg_58.1 dL_law_505 ?_
        obtain ⟨q_59, hq_59, hf⟩ := Option.bind_eq_some_iff.mp hf
        refine f_cVi mX10_weight [.int (xs (x4 + (1 : Int32)).toNatClampNeg)] [.int (q_57.1)] dL_law_506 cs_RL_65 ⟨w_1237, w_1238⟩ (ci := 10) rfl (by decide) sh_87 rfl rfl (Nat.le_of_ble_eq_true rfl) (by omega) (c_X10_weight (d := d - 1) (by omega) (xs (x4 + (1 : Int32)).toNatClampNeg) q_57.2 q_59 hq_59) ?_
        refine x_icmp_eq 1161 dL_law_509 (by decide) (fun hc => ?_) (fun hc => ?_)
        · replace hf := x_ift hc hf
          refine x_iinc (v := x4 + 7) (lv' := [(0, .ref b), (1, .ref (xB E + 0)), (2, .ref (xB E + 87)), (3, .ref (xB E + 125)), (4, .int (x4 + 7))]) dL_law_1161 4 [1, 2, 3, 4, 0] rfl rfl (Nat.le_of_ble_eq_true rfl) rfl ?_
          refine x_goto 23 dL_law_1164 (by decide) ?_
          exact ih _ _ _ _ (by omega) (by omega) hf
        · replace hf := x_iff hc hf
          refine x_iconst (v := 0) dL_law_512 (by decide) ?_
          exact x_zret dL_law_513 rfl (by decide) (by cases hf; exact hR)
      replace hf := x_iff hc hf
      have hn9 := hc
      by_cases hc : ((xs (x4).toNatClampNeg) &&& (31 : Int32)) = 10
      · replace hf := x_ift hc hf
        refine x_tableIn 514 dL_law_40 (by rw [hc]; decide) (by rw [hc]; decide) (by rw [hc]; rfl) (by decide) ?_
        refine x_aload_n dL_law_514 rfl ?_
        refine x_aload_n dL_law_515 rfl ?_
        refine x_iload dL_law_516 rfl ?_
        refine x_iconst (v := 1) dL_law_518 (by decide) ?_
        refine x_iadd dL_law_519 ?_
        have hg_60 := x_gd hf
        replace hf := hg_60.2
        refine x_scd hX hbl hg_60.1 dL_law_520 ?_
        obtain ⟨q_61, hq_61, hf⟩ := Option.bind_eq_some_iff.mp hf
        refine f_cVi mX9_believed [.int (xs (x4 + (1 : Int32)).toNatClampNeg)] [] dL_law_521 cs_RL_66 ⟨w_527, w_528⟩ (ci := 9) rfl (by decide) sh_0 rfl rfl (Nat.le_of_ble_eq_true rfl) (by omega) (c_X9_believed (d := d - 1) (by omega) (xs (x4 + (1 : Int32)).toNatClampNeg) m q_61 hq_61) ?_
        refine x_aload_n dL_law_524 rfl ?_
        refine x_aload_n dL_law_525 rfl ?_
        refine x_iload dL_law_526 rfl ?_
        refine x_iconst (v := 1) dL_law_528 (by decide) ?_
        refine x_iadd dL_law_529 ?_
        have hg_62 := x_gd hf
        replace hf := hg_62.2
        refine x_scd hX hbl hg_62.1 dL_law_530 ?_
        obtain ⟨q_63, hq_63, hf⟩ := Option.bind_eq_some_iff.mp hf
        refine f_cVi mX10_believed [.int (xs (x4 + (1 : Int32)).toNatClampNeg)] [.int (q_61.1)] dL_law_531 cs_RL_69 ⟨w_1245, w_1246⟩ (ci := 10) rfl (by decide) sh_87 rfl rfl (Nat.le_of_ble_eq_true rfl) (by omega) (c_X10_believed (d := d - 1) (by omega) (xs (x4 + (1 : Int32)).toNatClampNeg) q_61.2 q_63 hq_63) ?_
        refine x_icmp_eq 1161 dL_law_534 (by decide) (fun hc => ?_) (fun hc => ?_)
        · replace hf := x_ift hc hf
          refine x_iinc (v := x4 + 7) (lv' := [(0, .ref b), (1, .ref (xB E + 0)), (2, .ref (xB E + 87)), (3, .ref (xB E + 125)), (4, .int (x4 + 7))]) dL_law_1161 4 [1, 2, 3, 4, 0] rfl rfl (Nat.le_of_ble_eq_true rfl) rfl ?_
          refine x_goto 23 dL_law_1164 (by decide) ?_
          exact ih _ _ _ _ (by omega) (by omega) hf
        · replace hf := x_iff hc hf
          refine x_iconst (v := 0) dL_law_537 (by decide) ?_
          exact x_zret dL_law_538 rfl (by decide) (by cases hf; exact hR)
      replace hf := x_iff hc hf
      have hn10 := hc
      by_cases hc : ((xs (x4).toNatClampNeg) &&& (31 : Int32)) = 11
      · replace hf := x_ift hc hf
        refine x_tableIn 539 dL_law_40 (by rw [hc]; decide) (by rw [hc]; decide) (by rw [hc]; rfl) (by decide) ?_
        refine x_aload_n dL_law_539 rfl ?_
        refine x_aload_n dL_law_540 rfl ?_
        refine x_iload dL_law_541 rfl ?_
        refine x_iconst (v := 1) dL_law_543 (by decide) ?_
        refine x_iadd dL_law_544 ?_
        have hg_64 := x_gd hf
        replace hf := hg_64.2
        refine x_scd hX hbl hg_64.1 dL_law_545 ?_
        obtain ⟨q_65, hq_65, hf⟩ := Option.bind_eq_some_iff.mp hf
        refine f_cVi mX9_quarrel [.int (xs (x4 + (1 : Int32)).toNatClampNeg)] [] dL_law_546 cs_RL_70 ⟨w_541, w_542⟩ (ci := 9) rfl (by decide) sh_0 rfl rfl (Nat.le_of_ble_eq_true rfl) (by omega) (c_X9_quarrel (d := d - 1) (by omega) (xs (x4 + (1 : Int32)).toNatClampNeg) m q_65 hq_65) ?_
        refine x_aload_n dL_law_549 rfl ?_
        refine x_aload_n dL_law_550 rfl ?_
        refine x_iload dL_law_551 rfl ?_
        refine x_iconst (v := 1) dL_law_553 (by decide) ?_
        refine x_iadd dL_law_554 ?_
        have hg_66 := x_gd hf
        replace hf := hg_66.2
        refine x_scd hX hbl hg_66.1 dL_law_555 ?_
        obtain ⟨q_67, hq_67, hf⟩ := Option.bind_eq_some_iff.mp hf
        refine f_cVi mX10_quarrel [.int (xs (x4 + (1 : Int32)).toNatClampNeg)] [.int (q_65.1)] dL_law_556 cs_RL_73 ⟨w_1261, w_1262⟩ (ci := 10) rfl (by decide) sh_87 rfl rfl (Nat.le_of_ble_eq_true rfl) (by omega) (c_X10_quarrel (d := d - 1) (by omega) (xs (x4 + (1 : Int32)).toNatClampNeg) q_65.2 q_67 hq_67) ?_
        refine x_icmp_eq 1161 dL_law_559 (by decide) (fun hc => ?_) (fun hc => ?_)
        · replace hf := x_ift hc hf
          refine x_iinc (v := x4 + 7) (lv' := [(0, .ref b), (1, .ref (xB E + 0)), (2, .ref (xB E + 87)), (3, .ref (xB E + 125)), (4, .int (x4 + 7))]) dL_law_1161 4 [1, 2, 3, 4, 0] rfl rfl (Nat.le_of_ble_eq_true rfl) rfl ?_
          refine x_goto 23 dL_law_1164 (by decide) ?_
          exact ih _ _ _ _ (by omega) (by omega) hf
        · replace hf := x_iff hc hf
          refine x_iconst (v := 0) dL_law_562 (by decide) ?_
          exact x_zret dL_law_563 rfl (by decide) (by cases hf; exact hR)
      replace hf := x_iff hc hf
      have hn11 := hc
      by_cases hc : ((xs (x4).toNatClampNeg) &&& (31 : Int32)) = 12
      · replace hf := x_ift hc hf
        refine x_tableIn 564 dL_law_40 (by rw [hc]; decide) (by rw [hc]; decide) (by rw [hc]; rfl) (by decide) ?_
        refine x_aload_n dL_law_564 rfl ?_
        refine x_aload_n dL_law_565 rfl ?_
        refine x_iload dL_law_566 rfl ?_
        refine x_iconst (v := 1) dL_law_568 (by decide) ?_
        refine x_iadd dL_law_569 ?_
        have hg_68 := x_gd hf
        replace hf := hg_68.2
        refine x_scd hX hbl hg_68.1 dL_law_570 ?_
        obtain ⟨q_69, hq_69, hf⟩ := Option.bind_eq_some_iff.mp hf
        refine f_cVi mX9_proof [.int (xs (x4 + (1 : Int32)).toNatClampNeg)] [] dL_law_571 cs_RL_74 ⟨w_549, w_550⟩ (ci := 9) rfl (by decide) sh_0 rfl rfl (Nat.le_of_ble_eq_true rfl) (by omega) (c_X9_proof (d := d - 1) (by omega) (xs (x4 + (1 : Int32)).toNatClampNeg) m q_69 hq_69) ?_
        refine x_aload_n dL_law_574 rfl ?_
        refine x_aload_n dL_law_575 rfl ?_
        refine x_iload dL_law_576 rfl ?_
        refine x_iconst (v := 1) dL_law_578 (by decide) ?_
        refine x_iadd dL_law_579 ?_
        have hg_70 := x_gd hf
        replace hf := hg_70.2
        refine x_scd hX hbl hg_70.1 dL_law_580 ?_
        obtain ⟨q_71, hq_71, hf⟩ := Option.bind_eq_some_iff.mp hf
        refine f_cVi mX10_proof [.int (xs (x4 + (1 : Int32)).toNatClampNeg)] [.int (q_69.1)] dL_law_581 cs_RL_77 ⟨w_1265, w_1266⟩ (ci := 10) rfl (by decide) sh_87 rfl rfl (Nat.le_of_ble_eq_true rfl) (by omega) (c_X10_proof (d := d - 1) (by omega) (xs (x4 + (1 : Int32)).toNatClampNeg) q_69.2 q_71 hq_71) ?_
        refine x_icmp_eq 1161 dL_law_584 (by decide) (fun hc => ?_) (fun hc => ?_)
        · replace hf := x_ift hc hf
          refine x_iinc (v := x4 + 7) (lv' := [(0, .ref b), (1, .ref (xB E + 0)), (2, .ref (xB E + 87)), (3, .ref (xB E + 125)), (4, .int (x4 + 7))]) dL_law_1161 4 [1, 2, 3, 4, 0] rfl rfl (Nat.le_of_ble_eq_true rfl) rfl ?_
          refine x_goto 23 dL_law_1164 (by decide) ?_
          exact ih _ _ _ _ (by omega) (by omega) hf
        · replace hf := x_iff hc hf
          refine x_iconst (v := 0) dL_law_587 (by decide) ?_
          exact x_zret dL_law_588 rfl (by decide) (by cases hf; exact hR)
      replace hf := x_iff hc hf
      have hn12 := hc
      by_cases hc : ((xs (x4).toNatClampNeg) &&& (31 : Int32)) = 13
      · replace hf := x_ift hc hf
        refine x_tableIn 589 dL_law_40 (by rw [hc]; decide) (by rw [hc]; decide) (by rw [hc]; rfl) (by decide) ?_
        refine x_aload_n dL_law_589 rfl ?_
        refine x_aload_n dL_law_590 rfl ?_
        refine x_iload dL_law_591 rfl ?_
        refine x_iconst (v := 1) dL_law_593 (by decide) ?_
        refine x_iadd dL_law_594 ?_
        have hg_72 := x_gd hf
        replace hf := hg_72.2
        refine x_scd hX hbl hg_72.1 dL_law_595 ?_
        refine x_aload_n dL_law_596 rfl ?_
        refine x_iload dL_law_597 rfl ?_
        refine x_iconst (v := 2) dL_law_599 (by decide) ?_
        refine x_iadd dL_law_600 ?_
        have hg_73 := x_gd hf
        replace hf := hg_73.2
        refine x_scd hX hbl hg_73.1 dL_law_601 ?_
        refine x_aload_n dL_law_602 rfl ?_
        refine x_iload dL_law_603 rfl ?_
        refine x_iconst (v := 3) dL_law_605 (by decide) ?_
        refine x_iadd dL_law_606 ?_
        have hg_74 := x_gd hf
        replace hf := hg_74.2
        refine x_scd hX hbl hg_74.1 dL_law_607 ?_
        obtain ⟨q_75, hq_75, hf⟩ := Option.bind_eq_some_iff.mp hf
        refine f_cVi mX9_mark [.int (xs (x4 + (1 : Int32)).toNatClampNeg), .int (xs (x4 + (2 : Int32)).toNatClampNeg), .int (xs (x4 + (3 : Int32)).toNatClampNeg)] [] dL_law_608 cs_RL_78 ⟨w_557, w_558⟩ (ci := 9) rfl (by decide) sh_0 rfl rfl (Nat.le_of_ble_eq_true rfl) (by omega) (c_X9_mark (d := d - 1) (by omega) (xs (x4 + (1 : Int32)).toNatClampNeg) (xs (x4 + (2 : Int32)).toNatClampNeg) (xs (x4 + (3 : Int32)).toNatClampNeg) m q_75 hq_75) ?_
        refine x_aload_n dL_law_611 rfl ?_
        refine x_aload_n dL_law_612 rfl ?_
        refine x_iload dL_law_613 rfl ?_
        refine x_iconst (v := 1) dL_law_615 (by decide) ?_
        refine x_iadd dL_law_616 ?_
        have hg_76 := x_gd hf
        replace hf := hg_76.2
        refine x_scd hX hbl hg_76.1 dL_law_617 ?_
        refine x_aload_n dL_law_618 rfl ?_
        refine x_iload dL_law_619 rfl ?_
        refine x_iconst (v := 2) dL_law_621 (by decide) ?_
        refine x_iadd dL_law_622 ?_
        have hg_77 := x_gd hf
        replace hf := hg_77.2
        refine x_scd hX hbl hg_77.1 dL_law_623 ?_
        refine x_aload_n dL_law_624 rfl ?_
        refine x_iload dL_law_625 rfl ?_
        refine x_iconst (v := 3) dL_law_627 (by decide) ?_
        refine x_iadd dL_law_628 ?_
        have hg_78 := x_gd hf
        replace hf := hg_78.2
        refine x_scd hX hbl hg_78.1 dL_law_629 ?_
        obtain ⟨q_79, hq_79, hf⟩ := Option.bind_eq_some_iff.mp hf
        refine f_cVi mX10_mark [.int (xs (x4 + (1 : Int32)).toNatClampNeg), .int (xs (x4 + (2 : Int32)).toNatClampNeg), .int (xs (x4 + (3 : Int32)).toNatClampNeg)] [.int (q_75.1)] dL_law_630 cs_RL_81 ⟨w_1269, w_1270⟩ (ci := 10) rfl (by decide) sh_87 rfl rfl (Nat.le_of_ble_eq_true rfl) (by omega) (c_X10_mark (d := d - 1) (by omega) (xs (x4 + (1 : Int32)).toNatClampNeg) (xs (x4 + (2 : Int32)).toNatClampNeg) (xs (x4 + (3 : Int32)).toNatClampNeg) q_75.2 q_79 hq_79) ?_
        refine x_icmp_eq 1161 dL_law_633 (by decide) (fun hc => ?_) (fun hc => ?_)
        · replace hf := x_ift hc hf
          refine x_iinc (v := x4 + 7) (lv' := [(0, .ref b), (1, .ref (xB E + 0)), (2, .ref (xB E + 87)), (3, .ref (xB E + 125)), (4, .int (x4 + 7))]) dL_law_1161 4 [1, 2, 3, 4, 0] rfl rfl (Nat.le_of_ble_eq_true rfl) rfl ?_
          refine x_goto 23 dL_law_1164 (by decide) ?_
          exact ih _ _ _ _ (by omega) (by omega) hf
        · replace hf := x_iff hc hf
          refine x_iconst (v := 0) dL_law_636 (by decide) ?_
          exact x_zret dL_law_637 rfl (by decide) (by cases hf; exact hR)
      replace hf := x_iff hc hf
      have hn13 := hc
      by_cases hc : ((xs (x4).toNatClampNeg) &&& (31 : Int32)) = 14
      · replace hf := x_ift hc hf
        refine x_tableIn 638 dL_law_40 (by rw [hc]; decide) (by rw [hc]; decide) (by rw [hc]; rfl) (by decide) ?_
        refine x_aload_n dL_law_638 rfl ?_
        refine x_aload_n dL_law_639 rfl ?_
        refine x_iload dL_law_640 rfl ?_
        refine x_iconst (v := 1) dL_law_642 (by decide) ?_
        refine x_iadd dL_law_643 ?_
        have hg_80 := x_gd hf
        replace hf := hg_80.2
        refine x_scd hX hbl hg_80.1 dL_law_644 ?_
        refine x_aload_n dL_law_645 rfl ?_
        obtain ⟨q_81, hq_81, hf⟩ := Option.bind_eq_some_iff.mp hf
        refine f_cL_shift hT0 dL_law_646 (Nat.le_of_ble_eq_true rfl) (by omega) (by omega) (by omega) hq_81 ?_
        refine x_istore (lv' := [(0, .ref b), (1, .ref (xB E + 0)), (2, .ref (xB E + 87)), (3, .ref (xB E + 125)), (4, .int (x4)), (5, .int (q_81.1))]) dL_law_649 [1, 2, 3, 4, 5, 0] (Nat.le_of_ble_eq_true rfl) rfl ?_
        refine x_aload_n dL_law_651 rfl ?_
        refine x_aload_n dL_law_652 rfl ?_
        refine x_iload dL_law_653 rfl ?_
        refine x_iconst (v := 1) dL_law_655 (by decide) ?_
        refine x_iadd dL_law_656 ?_
        have hg_82 := x_gd hf
        replace hf := hg_82.2
        refine x_scd hX hbl hg_82.1 dL_law_657 ?_
        obtain ⟨q_83, hq_83, hf⟩ := Option.bind_eq_some_iff.mp hf
        refine f_cVi mX10_shift [.int (xs (x4 + (1 : Int32)).toNatClampNeg)] [] dL_law_658 cs_RL_87 ⟨w_1273, w_1274⟩ (ci := 10) rfl (by decide) sh_87 rfl rfl (Nat.le_of_ble_eq_true rfl) (by omega) (c_X10_shift (d := d - 1) (by omega) (xs (x4 + (1 : Int32)).toNatClampNeg) q_81.2 q_83 hq_83) ?_
        refine x_istore (lv' := [(0, .ref b), (1, .ref (xB E + 0)), (2, .ref (xB E + 87)), (3, .ref (xB E + 125)), (4, .int (x4)), (5, .int (q_81.1)), (6, .int (q_83.1))]) dL_law_661 [1, 2, 3, 4, 5, 6, 0] (Nat.le_of_ble_eq_true rfl) rfl ?_
        refine x_aload_n dL_law_663 rfl ?_
        obtain ⟨q_84, hq_84, hf⟩ := Option.bind_eq_some_iff.mp hf
        refine f_cVi mX10_thrown [] [] dL_law_664 cs_RL_88 ⟨w_911, w_912⟩ (ci := 10) rfl (by decide) sh_87 rfl rfl (Nat.le_of_ble_eq_true rfl) (by omega) (c_X10_thrown (d := d - 1) (by omega) q_83.2 q_84 hq_84) ?_
        refine x_iload dL_law_667 rfl ?_
        refine x_icmp_eq 674 dL_law_669 (by decide) (fun hc => ?_) (fun hc => ?_)
        · replace hf := x_ift hc hf
          refine x_iload dL_law_674 rfl ?_
          refine x_if_ne 691 dL_law_676 (by decide) (fun hc => ?_) (fun hc => ?_)
          · replace hf := x_iff hc hf
            refine x_goto 1161 dL_law_691 (by decide) ?_
            refine x_iinc (v := x4 + 7) (lv' := [(0, .ref b), (1, .ref (xB E + 0)), (2, .ref (xB E + 87)), (3, .ref (xB E + 125)), (4, .int (x4 + 7))]) dL_law_1161 4 [1, 2, 3, 4, 0] rfl rfl (Nat.le_of_ble_eq_true rfl) rfl ?_
            refine x_goto 23 dL_law_1164 (by decide) ?_
            exact ih _ _ _ _ (by omega) (by omega) hf
          · replace hf := x_ift hc hf
            refine x_aload_n dL_law_679 rfl ?_
            refine x_iconst (v := 0) dL_law_680 (by decide) ?_
            have hg_85 := x_gd hf
            replace hf := hg_85.2
            refine f_lald dL_law_681 (by decide) sh_125 hg_85.1 ?_
            refine x_iload dL_law_682 rfl ?_
            refine x_i2l dL_law_684 ?_
            refine x_lcmp dL_law_685 ?_
            refine x_if_eq 691 dL_law_686 (by decide) (fun hc => ?_) (fun hc => ?_)
            · replace hf := x_ift hc hf
              refine x_goto 1161 dL_law_691 (by decide) ?_
              refine x_iinc (v := x4 + 7) (lv' := [(0, .ref b), (1, .ref (xB E + 0)), (2, .ref (xB E + 87)), (3, .ref (xB E + 125)), (4, .int (x4 + 7))]) dL_law_1161 4 [1, 2, 3, 4, 0] rfl rfl (Nat.le_of_ble_eq_true rfl) rfl ?_
              refine x_goto 23 dL_law_1164 (by decide) ?_
              exact ih _ _ _ _ (by omega) (by omega) hf
            · replace hf := x_iff hc hf
              refine x_iconst (v := 0) dL_law_689 (by decide) ?_
              exact x_zret dL_law_690 rfl (by decide) (by cases hf; exact hR)
        · replace hf := x_iff hc hf
          refine x_iconst (v := 0) dL_law_672 (by decide) ?_
          exact x_zret dL_law_673 rfl (by decide) (by cases hf; exact hR)
      replace hf := x_iff hc hf
      have hn14 := hc
      by_cases hc : ((xs (x4).toNatClampNeg) &&& (31 : Int32)) = 15
      · replace hf := x_ift hc hf
        refine x_tableIn 694 dL_law_40 (by rw [hc]; decide) (by rw [hc]; decide) (by rw [hc]; rfl) (by decide) ?_
        refine x_aload_n dL_law_694 rfl ?_
        refine x_aload_n dL_law_695 rfl ?_
        refine x_iload dL_law_696 rfl ?_
        refine x_iconst (v := 1) dL_law_698 (by decide) ?_
        refine x_iadd dL_law_699 ?_
        have hg_86 := x_gd hf
        replace hf := hg_86.2
        refine x_scd hX hbl hg_86.1 dL_law_700 ?_
        refine x_aload_n dL_law_701 rfl ?_
        refine x_iload dL_law_702 rfl ?_
        refine x_iconst (v := 2) dL_law_704 (by decide) ?_
        refine x_iadd dL_law_705 ?_
        have hg_87 := x_gd hf
        replace hf := hg_87.2
        refine x_scd hX hbl hg_87.1 dL_law_706 ?_
        refine x_if_eq 714 dL_law_707 (by decide) (fun hc => ?_) (fun hc => ?_)
        · replace hf := x_ift hc hf
          refine x_iconst (v := 0) dL_law_714 (by decide) ?_
          obtain ⟨q_88, hq_88, hf⟩ := Option.bind_eq_some_iff.mp hf
          refine f_cVi mX9_paid [.int (xs (x4 + (1 : Int32)).toNatClampNeg), .int ((0 : Int32))] [] dL_law_715 cs_RL_92 ⟨w_564, w_565⟩ (ci := 9) rfl (by decide) sh_0 rfl rfl (Nat.le_of_ble_eq_true rfl) (by omega) (c_X9_paid (d := d - 1) (by omega) (xs (x4 + (1 : Int32)).toNatClampNeg) ((0 : Int32)) m q_88 hq_88) ?_
          refine x_aload_n dL_law_718 rfl ?_
          refine x_aload_n dL_law_719 rfl ?_
          refine x_iload dL_law_720 rfl ?_
          refine x_iconst (v := 1) dL_law_722 (by decide) ?_
          refine x_iadd dL_law_723 ?_
          have hg_89 := x_gd hf
          replace hf := hg_89.2
          refine x_scd hX hbl hg_89.1 dL_law_724 ?_
          refine x_aload_n dL_law_725 rfl ?_
          refine x_iload dL_law_726 rfl ?_
          refine x_iconst (v := 2) dL_law_728 (by decide) ?_
          refine x_iadd dL_law_729 ?_
          have hg_90 := x_gd hf
          replace hf := hg_90.2
          refine x_scd hX hbl hg_90.1 dL_law_730 ?_
          refine x_if_eq 738 dL_law_731 (by decide) (fun hc => ?_) (fun hc => ?_)
          · replace hf := x_ift hc hf
            refine x_iconst (v := 0) dL_law_738 (by decide) ?_
            obtain ⟨q_91, hq_91, hf⟩ := Option.bind_eq_some_iff.mp hf
            refine f_cVi mX10_paid [.int (xs (x4 + (1 : Int32)).toNatClampNeg), .int ((0 : Int32))] [.int (q_88.1)] dL_law_739 cs_RL_96 ⟨w_1281, w_1282⟩ (ci := 10) rfl (by decide) sh_87 rfl rfl (Nat.le_of_ble_eq_true rfl) (by omega) (c_X10_paid (d := d - 1) (by omega) (xs (x4 + (1 : Int32)).toNatClampNeg) ((0 : Int32)) q_88.2 q_91 hq_91) ?_
            refine x_icmp_eq 1161 dL_law_742 (by decide) (fun hc => ?_) (fun hc => ?_)
            · replace hf := x_ift hc hf
              refine x_iinc (v := x4 + 7) (lv' := [(0, .ref b), (1, .ref (xB E + 0)), (2, .ref (xB E + 87)), (3, .ref (xB E + 125)), (4, .int (x4 + 7))]) dL_law_1161 4 [1, 2, 3, 4, 0] rfl rfl (Nat.le_of_ble_eq_true rfl) rfl ?_
              refine x_goto 23 dL_law_1164 (by decide) ?_
              exact ih _ _ _ _ (by omega) (by omega) hf
            · replace hf := x_iff hc hf
              refine x_iconst (v := 0) dL_law_745 (by decide) ?_
              exact x_zret dL_law_746 rfl (by decide) (by cases hf; exact hR)
          · replace hf := x_iff hc hf
            refine x_iconst (v := 1) dL_law_734 (by decide) ?_
            refine x_goto 739 dL_law_735 (by decide) ?_
            obtain ⟨q_92, hq_92, hf⟩ := Option.bind_eq_some_iff.mp hf
            refine f_cVi mX10_paid [.int (xs (x4 + (1 : Int32)).toNatClampNeg), .int ((1 : Int32))] [.int (q_88.1)] dL_law_739 cs_RL_96 ⟨w_1281, w_1282⟩ (ci := 10) rfl (by decide) sh_87 rfl rfl (Nat.le_of_ble_eq_true rfl) (by omega) (c_X10_paid (d := d - 1) (by omega) (xs (x4 + (1 : Int32)).toNatClampNeg) ((1 : Int32)) q_88.2 q_92 hq_92) ?_
            refine x_icmp_eq 1161 dL_law_742 (by decide) (fun hc => ?_) (fun hc => ?_)
            · replace hf := x_ift hc hf
              refine x_iinc (v := x4 + 7) (lv' := [(0, .ref b), (1, .ref (xB E + 0)), (2, .ref (xB E + 87)), (3, .ref (xB E + 125)), (4, .int (x4 + 7))]) dL_law_1161 4 [1, 2, 3, 4, 0] rfl rfl (Nat.le_of_ble_eq_true rfl) rfl ?_
              refine x_goto 23 dL_law_1164 (by decide) ?_
              exact ih _ _ _ _ (by omega) (by omega) hf
            · replace hf := x_iff hc hf
              refine x_iconst (v := 0) dL_law_745 (by decide) ?_
              exact x_zret dL_law_746 rfl (by decide) (by cases hf; exact hR)
        · replace hf := x_iff hc hf
          refine x_iconst (v := 1) dL_law_710 (by decide) ?_
          refine x_goto 715 dL_law_711 (by decide) ?_
          obtain ⟨q_93, hq_93, hf⟩ := Option.bind_eq_some_iff.mp hf
          refine f_cVi mX9_paid [.int (xs (x4 + (1 : Int32)).toNatClampNeg), .int ((1 : Int32))] [] dL_law_715 cs_RL_92 ⟨w_564, w_565⟩ (ci := 9) rfl (by decide) sh_0 rfl rfl (Nat.le_of_ble_eq_true rfl) (by omega) (c_X9_paid (d := d - 1) (by omega) (xs (x4 + (1 : Int32)).toNatClampNeg) ((1 : Int32)) m q_93 hq_93) ?_
          refine x_aload_n dL_law_718 rfl ?_
          refine x_aload_n dL_law_719 rfl ?_
          refine x_iload dL_law_720 rfl ?_
          refine x_iconst (v := 1) dL_law_722 (by decide) ?_
          refine x_iadd dL_law_723 ?_
          have hg_94 := x_gd hf
          replace hf := hg_94.2
          refine x_scd hX hbl hg_94.1 dL_law_724 ?_
          refine x_aload_n dL_law_725 rfl ?_
          refine x_iload dL_law_726 rfl ?_
          refine x_iconst (v := 2) dL_law_728 (by decide) ?_
          refine x_iadd dL_law_729 ?_
          have hg_95 := x_gd hf
          replace hf := hg_95.2
          refine x_scd hX hbl hg_95.1 dL_law_730 ?_
          refine x_if_eq 738 dL_law_731 (by decide) (fun hc => ?_) (fun hc => ?_)
          · replace hf := x_ift hc hf
            refine x_iconst (v := 0) dL_law_738 (by decide) ?_
            obtain ⟨q_96, hq_96, hf⟩ := Option.bind_eq_some_iff.mp hf
            refine f_cVi mX10_paid [.int (xs (x4 + (1 : Int32)).toNatClampNeg), .int ((0 : Int32))] [.int (q_93.1)] dL_law_739 cs_RL_96 ⟨w_1281, w_1282⟩ (ci := 10) rfl (by decide) sh_87 rfl rfl (Nat.le_of_ble_eq_true rfl) (by omega) (c_X10_paid (d := d - 1) (by omega) (xs (x4 + (1 : Int32)).toNatClampNeg) ((0 : Int32)) q_93.2 q_96 hq_96) ?_
            refine x_icmp_eq 1161 dL_law_742 (by decide) (fun hc => ?_) (fun hc => ?_)
            · replace hf := x_ift hc hf
              refine x_iinc (v := x4 + 7) (lv' := [(0, .ref b), (1, .ref (xB E + 0)), (2, .ref (xB E + 87)), (3, .ref (xB E + 125)), (4, .int (x4 + 7))]) dL_law_1161 4 [1, 2, 3, 4, 0] rfl rfl (Nat.le_of_ble_eq_true rfl) rfl ?_
              refine x_goto 23 dL_law_1164 (by decide) ?_
              exact ih _ _ _ _ (by omega) (by omega) hf
            · replace hf := x_iff hc hf
              refine x_iconst (v := 0) dL_law_745 (by decide) ?_
              exact x_zret dL_law_746 rfl (by decide) (by cases hf; exact hR)
          · replace hf := x_iff hc hf
            refine x_iconst (v := 1) dL_law_734 (by decide) ?_
            refine x_goto 739 dL_law_735 (by decide) ?_
            obtain ⟨q_97, hq_97, hf⟩ := Option.bind_eq_some_iff.mp hf
            refine f_cVi mX10_paid [.int (xs (x4 + (1 : Int32)).toNatClampNeg), .int ((1 : Int32))] [.int (q_93.1)] dL_law_739 cs_RL_96 ⟨w_1281, w_1282⟩ (ci := 10) rfl (by decide) sh_87 rfl rfl (Nat.le_of_ble_eq_true rfl) (by omega) (c_X10_paid (d := d - 1) (by omega) (xs (x4 + (1 : Int32)).toNatClampNeg) ((1 : Int32)) q_93.2 q_97 hq_97) ?_
            refine x_icmp_eq 1161 dL_law_742 (by decide) (fun hc => ?_) (fun hc => ?_)
            · replace hf := x_ift hc hf
              refine x_iinc (v := x4 + 7) (lv' := [(0, .ref b), (1, .ref (xB E + 0)), (2, .ref (xB E + 87)), (3, .ref (xB E + 125)), (4, .int (x4 + 7))]) dL_law_1161 4 [1, 2, 3, 4, 0] rfl rfl (Nat.le_of_ble_eq_true rfl) rfl ?_
              refine x_goto 23 dL_law_1164 (by decide) ?_
              exact ih _ _ _ _ (by omega) (by omega) hf
            · replace hf := x_iff hc hf
              refine x_iconst (v := 0) dL_law_745 (by decide) ?_
              exact x_zret dL_law_746 rfl (by decide) (by cases hf; exact hR)
      replace hf := x_iff hc hf
      have hn15 := hc
      by_cases hc : ((xs (x4).toNatClampNeg) &&& (31 : Int32)) = 16
      · replace hf := x_ift hc hf
        refine x_tableIn 747 dL_law_40 (by rw [hc]; decide) (by rw [hc]; decide) (by rw [hc]; rfl) (by decide) ?_
        refine x_aload_n dL_law_747 rfl ?_
        refine x_aload_n dL_law_748 rfl ?_
        refine x_iload dL_law_749 rfl ?_
        refine x_iconst (v := 1) dL_law_751 (by decide) ?_
        refine x_iadd dL_law_752 ?_
        have hg_98 := x_gd hf
        replace hf := hg_98.2
        refine x_scd hX hbl hg_98.1 dL_law_753 ?_
        refine x_i2l dL_law_754 ?_
        refine x_bipush (v := 32) dL_law_755 (by decide) ?_
        refine x_lshl dL_law_757 ?_
        refine x_aload_n dL_law_758 rfl ?_
        refine x_iload dL_law_759 rfl ?_
        refine x_iconst (v := 2) dL_law_761 (by decide) ?_
        refine x_iadd dL_law_762 ?_
        have hg_99 := x_gd hf
        replace hf := hg_99.2
        refine x_scd hX hbl hg_99.1 dL_law_763 ?_
        refine x_i2l dL_law_764 ?_
        refine x_ldc2 (v := 4294967295) dL_law_765 w_1328 ?_
        refine x_land dL_law_768 ?_
        refine x_lor dL_law_769 ?_
        refine x_aload_n dL_law_770 rfl ?_
        refine x_iload dL_law_771 rfl ?_
        refine x_iconst (v := 3) dL_law_773 (by decide) ?_
        refine x_iadd dL_law_774 ?_
        have hg_100 := x_gd hf
        replace hf := hg_100.2
        refine x_scd hX hbl hg_100.1 dL_law_775 ?_
        refine x_i2l dL_law_776 ?_
        refine x_bipush (v := 32) dL_law_777 (by decide) ?_
        refine x_lshl dL_law_779 ?_
        refine x_aload_n dL_law_780 rfl ?_
        refine x_iload dL_law_781 rfl ?_
        refine x_iconst (v := 4) dL_law_783 (by decide) ?_
        refine x_iadd dL_law_784 ?_
        have hg_101 := x_gd hf
        replace hf := hg_101.2
        refine x_scd hX hbl hg_101.1 dL_law_785 ?_
        refine x_i2l dL_law_786 ?_
        refine x_ldc2 (v := 4294967295) dL_law_787 w_1328 ?_
        refine x_land dL_law_790 ?_
        refine x_lor dL_law_791 ?_
        refine x_aload_n dL_law_792 rfl ?_
        refine x_iload dL_law_793 rfl ?_
        refine x_iconst (v := 5) dL_law_795 (by decide) ?_
        refine x_iadd dL_law_796 ?_
        have hg_102 := x_gd hf
        replace hf := hg_102.2
        refine x_scd hX hbl hg_102.1 dL_law_797 ?_
        refine x_i2l dL_law_798 ?_
        refine x_bipush (v := 32) dL_law_799 (by decide) ?_
        refine x_lshl dL_law_801 ?_
        refine x_aload_n dL_law_802 rfl ?_
        refine x_iload dL_law_803 rfl ?_
        refine x_bipush (v := 6) dL_law_805 (by decide) ?_
        refine x_iadd dL_law_807 ?_
        have hg_103 := x_gd hf
        replace hf := hg_103.2
        refine x_scd hX hbl hg_103.1 dL_law_808 ?_
        refine x_i2l dL_law_809 ?_
        refine x_ldc2 (v := 4294967295) dL_law_810 w_1328 ?_
        refine x_land dL_law_813 ?_
        refine x_lor dL_law_814 ?_
        obtain ⟨q_104, hq_104, hf⟩ := Option.bind_eq_some_iff.mp hf
        refine f_cVi mX9_feed [.long ((((xs (x4 + (1 : Int32)).toNatClampNeg).toInt64) <<< ((32 : Int32).toInt64 &&& 63)) ||| (((xs (x4 + (2 : Int32)).toNatClampNeg).toInt64) &&& (4294967295 : Int64))), .long ((((xs (x4 + (3 : Int32)).toNatClampNeg).toInt64) <<< ((32 : Int32).toInt64 &&& 63)) ||| (((xs (x4 + (4 : Int32)).toNatClampNeg).toInt64) &&& (4294967295 : Int64))), .long ((((xs (x4 + (5 : Int32)).toNatClampNeg).toInt64) <<< ((32 : Int32).toInt64 &&& 63)) ||| (((xs (x4 + (6 : Int32)).toNatClampNeg).toInt64) &&& (4294967295 : Int64)))] [] dL_law_815 cs_RL_99 ⟨w_568, w_569⟩ (ci := 9) rfl (by decide) sh_0 rfl rfl (Nat.le_of_ble_eq_true rfl) (by omega) (c_X9_feed (d := d - 1) (by omega) ((((xs (x4 + (1 : Int32)).toNatClampNeg).toInt64) <<< ((32 : Int32).toInt64 &&& 63)) ||| (((xs (x4 + (2 : Int32)).toNatClampNeg).toInt64) &&& (4294967295 : Int64))) ((((xs (x4 + (3 : Int32)).toNatClampNeg).toInt64) <<< ((32 : Int32).toInt64 &&& 63)) ||| (((xs (x4 + (4 : Int32)).toNatClampNeg).toInt64) &&& (4294967295 : Int64))) ((((xs (x4 + (5 : Int32)).toNatClampNeg).toInt64) <<< ((32 : Int32).toInt64 &&& 63)) ||| (((xs (x4 + (6 : Int32)).toNatClampNeg).toInt64) &&& (4294967295 : Int64))) m q_104 hq_104) ?_
        refine x_aload_n dL_law_818 rfl ?_
        refine x_aload_n dL_law_819 rfl ?_
        refine x_iload dL_law_820 rfl ?_
        refine x_iconst (v := 1) dL_law_822 (by decide) ?_
        refine x_iadd dL_law_823 ?_
        have hg_105 := x_gd hf
        replace hf := hg_105.2
        refine x_scd hX hbl hg_105.1 dL_law_824 ?_
        refine x_i2l dL_law_825 ?_
        refine x_bipush (v := 32) dL_law_826 (by decide) ?_
        refine x_lshl dL_law_828 ?_
        refine x_aload_n dL_law_829 rfl ?_
        refine x_iload dL_law_830 rfl ?_
        refine x_iconst (v := 2) dL_law_832 (by decide) ?_
        refine x_iadd dL_law_833 ?_
        have hg_106 := x_gd hf
        replace hf := hg_106.2
        refine x_scd hX hbl hg_106.1 dL_law_834 ?_
        refine x_i2l dL_law_835 ?_
        refine x_ldc2 (v := 4294967295) dL_law_836 w_1328 ?_
        refine x_land dL_law_839 ?_
        refine x_lor dL_law_840 ?_
        refine x_aload_n dL_law_841 rfl ?_
        refine x_iload dL_law_842 rfl ?_
        refine x_iconst (v := 3) dL_law_844 (by decide) ?_
        refine x_iadd dL_law_845 ?_
        have hg_107 := x_gd hf
        replace hf := hg_107.2
        refine x_scd hX hbl hg_107.1 dL_law_846 ?_
        refine x_i2l dL_law_847 ?_
        refine x_bipush (v := 32) dL_law_848 (by decide) ?_
        refine x_lshl dL_law_850 ?_
        refine x_aload_n dL_law_851 rfl ?_
        refine x_iload dL_law_852 rfl ?_
        refine x_iconst (v := 4) dL_law_854 (by decide) ?_
        refine x_iadd dL_law_855 ?_
        have hg_108 := x_gd hf
        replace hf := hg_108.2
        refine x_scd hX hbl hg_108.1 dL_law_856 ?_
        refine x_i2l dL_law_857 ?_
        refine x_ldc2 (v := 4294967295) dL_law_858 w_1328 ?_
        refine x_land dL_law_861 ?_
        refine x_lor dL_law_862 ?_
        refine x_aload_n dL_law_863 rfl ?_
        refine x_iload dL_law_864 rfl ?_
        refine x_iconst (v := 5) dL_law_866 (by decide) ?_
        refine x_iadd dL_law_867 ?_
        have hg_109 := x_gd hf
        replace hf := hg_109.2
        refine x_scd hX hbl hg_109.1 dL_law_868 ?_
        refine x_i2l dL_law_869 ?_
        refine x_bipush (v := 32) dL_law_870 (by decide) ?_
        refine x_lshl dL_law_872 ?_
        refine x_aload_n dL_law_873 rfl ?_
        refine x_iload dL_law_874 rfl ?_
        refine x_bipush (v := 6) dL_law_876 (by decide) ?_
        refine x_iadd dL_law_878 ?_
        have hg_110 := x_gd hf
        replace hf := hg_110.2
        refine x_scd hX hbl hg_110.1 dL_law_879 ?_
        refine x_i2l dL_law_880 ?_
        refine x_ldc2 (v := 4294967295) dL_law_881 w_1328 ?_
        refine x_land dL_law_884 ?_
        refine x_lor dL_law_885 ?_
        obtain ⟨q_111, hq_111, hf⟩ := Option.bind_eq_some_iff.mp hf
        refine f_cVi mX10_feed [.long ((((xs (x4 + (1 : Int32)).toNatClampNeg).toInt64) <<< ((32 : Int32).toInt64 &&& 63)) ||| (((xs (x4 + (2 : Int32)).toNatClampNeg).toInt64) &&& (4294967295 : Int64))), .long ((((xs (x4 + (3 : Int32)).toNatClampNeg).toInt64) <<< ((32 : Int32).toInt64 &&& 63)) ||| (((xs (x4 + (4 : Int32)).toNatClampNeg).toInt64) &&& (4294967295 : Int64))), .long ((((xs (x4 + (5 : Int32)).toNatClampNeg).toInt64) <<< ((32 : Int32).toInt64 &&& 63)) ||| (((xs (x4 + (6 : Int32)).toNatClampNeg).toInt64) &&& (4294967295 : Int64)))] [.int (q_104.1)] dL_law_886 cs_RL_103 ⟨w_915, w_916⟩ (ci := 10) rfl (by decide) sh_87 rfl rfl (Nat.le_of_ble_eq_true rfl) (by omega) (c_X10_feed (d := d - 1) (by omega) ((((xs (x4 + (1 : Int32)).toNatClampNeg).toInt64) <<< ((32 : Int32).toInt64 &&& 63)) ||| (((xs (x4 + (2 : Int32)).toNatClampNeg).toInt64) &&& (4294967295 : Int64))) ((((xs (x4 + (3 : Int32)).toNatClampNeg).toInt64) <<< ((32 : Int32).toInt64 &&& 63)) ||| (((xs (x4 + (4 : Int32)).toNatClampNeg).toInt64) &&& (4294967295 : Int64))) ((((xs (x4 + (5 : Int32)).toNatClampNeg).toInt64) <<< ((32 : Int32).toInt64 &&& 63)) ||| (((xs (x4 + (6 : Int32)).toNatClampNeg).toInt64) &&& (4294967295 : Int64))) q_104.2 q_111 hq_111) ?_
        refine x_icmp_eq 1161 dL_law_889 (by decide) (fun hc => ?_) (fun hc => ?_)
        · replace hf := x_ift hc hf
          refine x_iinc (v := x4 + 7) (lv' := [(0, .ref b), (1, .ref (xB E + 0)), (2, .ref (xB E + 87)), (3, .ref (xB E + 125)), (4, .int (x4 + 7))]) dL_law_1161 4 [1, 2, 3, 4, 0] rfl rfl (Nat.le_of_ble_eq_true rfl) rfl ?_
          refine x_goto 23 dL_law_1164 (by decide) ?_
          exact ih _ _ _ _ (by omega) (by omega) hf
        · replace hf := x_iff hc hf
          refine x_iconst (v := 0) dL_law_892 (by decide) ?_
          exact x_zret dL_law_893 rfl (by decide) (by cases hf; exact hR)
      replace hf := x_iff hc hf
      have hn16 := hc
      by_cases hc : ((xs (x4).toNatClampNeg) &&& (31 : Int32)) = 17
      · replace hf := x_ift hc hf
        refine x_tableIn 894 dL_law_40 (by rw [hc]; decide) (by rw [hc]; decide) (by rw [hc]; rfl) (by decide) ?_
        refine x_aload_n dL_law_894 rfl ?_
        obtain ⟨q_112, hq_112, hf⟩ := Option.bind_eq_some_iff.mp hf
        refine f_cVi mX9_text [] [] dL_law_895 cs_RL_104 ⟨w_581, w_582⟩ (ci := 9) rfl (by decide) sh_0 rfl rfl (Nat.le_of_ble_eq_true rfl) (by omega) (c_X9_text (d := d - 1) (by omega) m q_112 hq_112) ?_
        refine x_aload_n dL_law_898 rfl ?_
        obtain ⟨q_113, hq_113, hf⟩ := Option.bind_eq_some_iff.mp hf
        refine f_cVi mX10_text [] [.int (q_112.1)] dL_law_899 cs_RL_107 ⟨w_1092, w_1093⟩ (ci := 10) rfl (by decide) sh_87 rfl rfl (Nat.le_of_ble_eq_true rfl) (by omega) (c_X10_text (d := d - 1) (by omega) q_112.2 q_113 hq_113) ?_
        refine x_icmp_eq 1161 dL_law_902 (by decide) (fun hc => ?_) (fun hc => ?_)
        · replace hf := x_ift hc hf
          refine x_iinc (v := x4 + 7) (lv' := [(0, .ref b), (1, .ref (xB E + 0)), (2, .ref (xB E + 87)), (3, .ref (xB E + 125)), (4, .int (x4 + 7))]) dL_law_1161 4 [1, 2, 3, 4, 0] rfl rfl (Nat.le_of_ble_eq_true rfl) rfl ?_
          refine x_goto 23 dL_law_1164 (by decide) ?_
          exact ih _ _ _ _ (by omega) (by omega) hf
        · replace hf := x_iff hc hf
          refine x_iconst (v := 0) dL_law_905 (by decide) ?_
          exact x_zret dL_law_906 rfl (by decide) (by cases hf; exact hR)
      replace hf := x_iff hc hf
      have hn17 := hc
      by_cases hc : ((xs (x4).toNatClampNeg) &&& (31 : Int32)) = 18
      · replace hf := x_ift hc hf
        refine x_tableIn 907 dL_law_40 (by rw [hc]; decide) (by rw [hc]; decide) (by rw [hc]; rfl) (by decide) ?_
        refine x_aload_n dL_law_907 rfl ?_
        refine x_aload_n dL_law_908 rfl ?_
        refine x_iload dL_law_909 rfl ?_
        refine x_iconst (v := 1) dL_law_911 (by decide) ?_
        refine x_iadd dL_law_912 ?_
        have hg_114 := x_gd hf
        replace hf := hg_114.2
        refine x_scd hX hbl hg_114.1 dL_law_913 ?_
        obtain ⟨q_115, hq_115, hf⟩ := Option.bind_eq_some_iff.mp hf
        refine f_cVi mX9_stars [.int (xs (x4 + (1 : Int32)).toNatClampNeg)] [] dL_law_914 cs_RL_108 ⟨w_747, w_748⟩ (ci := 9) rfl (by decide) sh_0 rfl rfl (Nat.le_of_ble_eq_true rfl) (by omega) (c_X9_stars (d := d - 1) (by omega) (xs (x4 + (1 : Int32)).toNatClampNeg) m q_115 hq_115) ?_
        refine x_aload_n dL_law_917 rfl ?_
        refine x_aload_n dL_law_918 rfl ?_
        refine x_iload dL_law_919 rfl ?_
        refine x_iconst (v := 1) dL_law_921 (by decide) ?_
        refine x_iadd dL_law_922 ?_
        have hg_116 := x_gd hf
        replace hf := hg_116.2
        refine x_scd hX hbl hg_116.1 dL_law_923 ?_
        obtain ⟨q_117, hq_117, hf⟩ := Option.bind_eq_some_iff.mp hf
        refine f_cVi mX10_stars [.int (xs (x4 + (1 : Int32)).toNatClampNeg)] [.int (q_115.1)] dL_law_924 cs_RL_111 ⟨w_1285, w_1286⟩ (ci := 10) rfl (by decide) sh_87 rfl rfl (Nat.le_of_ble_eq_true rfl) (by omega) (c_X10_stars (d := d - 1) (by omega) (xs (x4 + (1 : Int32)).toNatClampNeg) q_115.2 q_117 hq_117) ?_
        refine x_icmp_eq 1161 dL_law_927 (by decide) (fun hc => ?_) (fun hc => ?_)
        · replace hf := x_ift hc hf
          refine x_iinc (v := x4 + 7) (lv' := [(0, .ref b), (1, .ref (xB E + 0)), (2, .ref (xB E + 87)), (3, .ref (xB E + 125)), (4, .int (x4 + 7))]) dL_law_1161 4 [1, 2, 3, 4, 0] rfl rfl (Nat.le_of_ble_eq_true rfl) rfl ?_
          refine x_goto 23 dL_law_1164 (by decide) ?_
          exact ih _ _ _ _ (by omega) (by omega) hf
        · replace hf := x_iff hc hf
          refine x_iconst (v := 0) dL_law_930 (by decide) ?_
          exact x_zret dL_law_931 rfl (by decide) (by cases hf; exact hR)
      replace hf := x_iff hc hf
      have hn18 := hc
      by_cases hc : ((xs (x4).toNatClampNeg) &&& (31 : Int32)) = 19
      · replace hf := x_ift hc hf
        refine x_tableIn 932 dL_law_40 (by rw [hc]; decide) (by rw [hc]; decide) (by rw [hc]; rfl) (by decide) ?_
        refine x_aload_n dL_law_932 rfl ?_
        refine x_aload_n dL_law_933 rfl ?_
        refine x_iload dL_law_934 rfl ?_
        refine x_iconst (v := 1) dL_law_936 (by decide) ?_
        refine x_iadd dL_law_937 ?_
        have hg_118 := x_gd hf
        replace hf := hg_118.2
        refine x_scd hX hbl hg_118.1 dL_law_938 ?_
        refine x_aload_n dL_law_939 rfl ?_
        refine x_iload dL_law_940 rfl ?_
        refine x_iconst (v := 2) dL_law_942 (by decide) ?_
        refine x_iadd dL_law_943 ?_
        have hg_119 := x_gd hf
        replace hf := hg_119.2
        refine x_scd hX hbl hg_119.1 dL_law_944 ?_
        obtain ⟨q_120, hq_120, hf⟩ := Option.bind_eq_some_iff.mp hf
        refine f_cVi mX9_number [.int (xs (x4 + (1 : Int32)).toNatClampNeg), .int (xs (x4 + (2 : Int32)).toNatClampNeg)] [] dL_law_945 cs_RL_112 ⟨w_788, w_789⟩ (ci := 9) rfl (by decide) sh_0 rfl rfl (Nat.le_of_ble_eq_true rfl) (by omega) (c_X9_number (d := d - 1) (by omega) (xs (x4 + (1 : Int32)).toNatClampNeg) (xs (x4 + (2 : Int32)).toNatClampNeg) m q_120 hq_120) ?_
        refine x_aload_n dL_law_948 rfl ?_
        refine x_aload_n dL_law_949 rfl ?_
        refine x_iload dL_law_950 rfl ?_
        refine x_iconst (v := 1) dL_law_952 (by decide) ?_
        refine x_iadd dL_law_953 ?_
        have hg_121 := x_gd hf
        replace hf := hg_121.2
        refine x_scd hX hbl hg_121.1 dL_law_954 ?_
        refine x_aload_n dL_law_955 rfl ?_
        refine x_iload dL_law_956 rfl ?_
        refine x_iconst (v := 2) dL_law_958 (by decide) ?_
        refine x_iadd dL_law_959 ?_
        have hg_122 := x_gd hf
        replace hf := hg_122.2
        refine x_scd hX hbl hg_122.1 dL_law_960 ?_
        obtain ⟨q_123, hq_123, hf⟩ := Option.bind_eq_some_iff.mp hf
        refine f_cVi mX10_number [.int (xs (x4 + (1 : Int32)).toNatClampNeg), .int (xs (x4 + (2 : Int32)).toNatClampNeg)] [.int (q_120.1)] dL_law_961 cs_RL_115 ⟨w_1297, w_1298⟩ (ci := 10) rfl (by decide) sh_87 rfl rfl (Nat.le_of_ble_eq_true rfl) (by omega) (c_X10_number (d := d - 1) (by omega) (xs (x4 + (1 : Int32)).toNatClampNeg) (xs (x4 + (2 : Int32)).toNatClampNeg) q_120.2 q_123 hq_123) ?_
        refine x_icmp_eq 1161 dL_law_964 (by decide) (fun hc => ?_) (fun hc => ?_)
        · replace hf := x_ift hc hf
          refine x_iinc (v := x4 + 7) (lv' := [(0, .ref b), (1, .ref (xB E + 0)), (2, .ref (xB E + 87)), (3, .ref (xB E + 125)), (4, .int (x4 + 7))]) dL_law_1161 4 [1, 2, 3, 4, 0] rfl rfl (Nat.le_of_ble_eq_true rfl) rfl ?_
          refine x_goto 23 dL_law_1164 (by decide) ?_
          exact ih _ _ _ _ (by omega) (by omega) hf
        · replace hf := x_iff hc hf
          refine x_iconst (v := 0) dL_law_967 (by decide) ?_
          exact x_zret dL_law_968 rfl (by decide) (by cases hf; exact hR)
      replace hf := x_iff hc hf
      have hn19 := hc
      by_cases hc : ((xs (x4).toNatClampNeg) &&& (31 : Int32)) = 20
      · replace hf := x_ift hc hf
        refine x_tableIn 969 dL_law_40 (by rw [hc]; decide) (by rw [hc]; decide) (by rw [hc]; rfl) (by decide) ?_
        refine x_aload_n dL_law_969 rfl ?_
        obtain ⟨q_124, hq_124, hf⟩ := Option.bind_eq_some_iff.mp hf
        refine f_cVi mX9_edition [] [] dL_law_970 cs_RL_116 ⟨w_803, w_804⟩ (ci := 9) rfl (by decide) sh_0 rfl rfl (Nat.le_of_ble_eq_true rfl) (by omega) (c_X9_edition (d := d - 1) (by omega) m q_124 hq_124) ?_
        refine x_aload_n dL_law_973 rfl ?_
        obtain ⟨q_125, hq_125, hf⟩ := Option.bind_eq_some_iff.mp hf
        refine f_cVi mX10_edition [] [.int (q_124.1)] dL_law_974 cs_RL_119 ⟨w_1309, w_1310⟩ (ci := 10) rfl (by decide) sh_87 rfl rfl (Nat.le_of_ble_eq_true rfl) (by omega) (c_X10_edition (d := d - 1) (by omega) q_124.2 q_125 hq_125) ?_
        refine x_icmp_eq 1161 dL_law_977 (by decide) (fun hc => ?_) (fun hc => ?_)
        · replace hf := x_ift hc hf
          refine x_iinc (v := x4 + 7) (lv' := [(0, .ref b), (1, .ref (xB E + 0)), (2, .ref (xB E + 87)), (3, .ref (xB E + 125)), (4, .int (x4 + 7))]) dL_law_1161 4 [1, 2, 3, 4, 0] rfl rfl (Nat.le_of_ble_eq_true rfl) rfl ?_
          refine x_goto 23 dL_law_1164 (by decide) ?_
          exact ih _ _ _ _ (by omega) (by omega) hf
        · replace hf := x_iff hc hf
          refine x_iconst (v := 0) dL_law_980 (by decide) ?_
          exact x_zret dL_law_981 rfl (by decide) (by cases hf; exact hR)
      replace hf := x_iff hc hf
      have hn20 := hc
      by_cases hc : ((xs (x4).toNatClampNeg) &&& (31 : Int32)) = 21
      · replace hf := x_ift hc hf
        refine x_tableIn 982 dL_law_40 (by rw [hc]; decide) (by rw [hc]; decide) (by rw [hc]; rfl) (by decide) ?_
        refine x_aload_n dL_law_982 rfl ?_
        refine x_aload_n dL_law_983 rfl ?_
        refine x_iload dL_law_984 rfl ?_
        refine x_iconst (v := 1) dL_law_986 (by decide) ?_
        refine x_iadd dL_law_987 ?_
        have hg_126 := x_gd hf
        replace hf := hg_126.2
        refine x_scd hX hbl hg_126.1 dL_law_988 ?_
        refine x_aload_n dL_law_989 rfl ?_
        refine x_iload dL_law_990 rfl ?_
        refine x_iconst (v := 2) dL_law_992 (by decide) ?_
        refine x_iadd dL_law_993 ?_
        have hg_127 := x_gd hf
        replace hf := hg_127.2
        refine x_scd hX hbl hg_127.1 dL_law_994 ?_
        refine x_aload_n dL_law_995 rfl ?_
        refine x_iload dL_law_996 rfl ?_
        refine x_iconst (v := 3) dL_law_998 (by decide) ?_
        refine x_iadd dL_law_999 ?_
        have hg_128 := x_gd hf
        replace hf := hg_128.2
        refine x_scd hX hbl hg_128.1 dL_law_1000 ?_
        obtain ⟨q_129, hq_129, hf⟩ := Option.bind_eq_some_iff.mp hf
        refine f_cVi mX9_printed [.int (xs (x4 + (1 : Int32)).toNatClampNeg), .int (xs (x4 + (2 : Int32)).toNatClampNeg), .int (xs (x4 + (3 : Int32)).toNatClampNeg)] [] dL_law_1001 cs_RL_120 ⟨w_811, w_812⟩ (ci := 9) rfl (by decide) sh_0 rfl rfl (Nat.le_of_ble_eq_true rfl) (by omega) (c_X9_printed (d := d - 1) (by omega) (xs (x4 + (1 : Int32)).toNatClampNeg) (xs (x4 + (2 : Int32)).toNatClampNeg) (xs (x4 + (3 : Int32)).toNatClampNeg) m q_129 hq_129) ?_
        refine x_aload_n dL_law_1004 rfl ?_
        refine x_aload_n dL_law_1005 rfl ?_
        refine x_iload dL_law_1006 rfl ?_
        refine x_iconst (v := 1) dL_law_1008 (by decide) ?_
        refine x_iadd dL_law_1009 ?_
        have hg_130 := x_gd hf
        replace hf := hg_130.2
        refine x_scd hX hbl hg_130.1 dL_law_1010 ?_
        refine x_aload_n dL_law_1011 rfl ?_
        refine x_iload dL_law_1012 rfl ?_
        refine x_iconst (v := 2) dL_law_1014 (by decide) ?_
        refine x_iadd dL_law_1015 ?_
        have hg_131 := x_gd hf
        replace hf := hg_131.2
        refine x_scd hX hbl hg_131.1 dL_law_1016 ?_
        refine x_aload_n dL_law_1017 rfl ?_
        refine x_iload dL_law_1018 rfl ?_
        refine x_iconst (v := 3) dL_law_1020 (by decide) ?_
        refine x_iadd dL_law_1021 ?_
        have hg_132 := x_gd hf
        replace hf := hg_132.2
        refine x_scd hX hbl hg_132.1 dL_law_1022 ?_
        obtain ⟨q_133, hq_133, hf⟩ := Option.bind_eq_some_iff.mp hf
        refine f_cVi mX10_printed [.int (xs (x4 + (1 : Int32)).toNatClampNeg), .int (xs (x4 + (2 : Int32)).toNatClampNeg), .int (xs (x4 + (3 : Int32)).toNatClampNeg)] [.int (q_129.1)] dL_law_1023 cs_RL_123 ⟨w_1313, w_1314⟩ (ci := 10) rfl (by decide) sh_87 rfl rfl (Nat.le_of_ble_eq_true rfl) (by omega) (c_X10_printed (d := d - 1) (by omega) (xs (x4 + (1 : Int32)).toNatClampNeg) (xs (x4 + (2 : Int32)).toNatClampNeg) (xs (x4 + (3 : Int32)).toNatClampNeg) q_129.2 q_133 hq_133) ?_
        refine x_icmp_eq 1161 dL_law_1026 (by decide) (fun hc => ?_) (fun hc => ?_)
        · replace hf := x_ift hc hf
          refine x_iinc (v := x4 + 7) (lv' := [(0, .ref b), (1, .ref (xB E + 0)), (2, .ref (xB E + 87)), (3, .ref (xB E + 125)), (4, .int (x4 + 7))]) dL_law_1161 4 [1, 2, 3, 4, 0] rfl rfl (Nat.le_of_ble_eq_true rfl) rfl ?_
          refine x_goto 23 dL_law_1164 (by decide) ?_
          exact ih _ _ _ _ (by omega) (by omega) hf
        · replace hf := x_iff hc hf
          refine x_iconst (v := 0) dL_law_1029 (by decide) ?_
          exact x_zret dL_law_1030 rfl (by decide) (by cases hf; exact hR)
      replace hf := x_iff hc hf
      have hn21 := hc
      by_cases hc : ((xs (x4).toNatClampNeg) &&& (31 : Int32)) = 22
      · replace hf := x_ift hc hf
        refine x_tableIn 1031 dL_law_40 (by rw [hc]; decide) (by rw [hc]; decide) (by rw [hc]; rfl) (by decide) ?_
        refine x_aload_n dL_law_1031 rfl ?_
        refine x_aload_n dL_law_1032 rfl ?_
        refine x_iload dL_law_1033 rfl ?_
        refine x_iconst (v := 1) dL_law_1035 (by decide) ?_
        refine x_iadd dL_law_1036 ?_
        have hg_134 := x_gd hf
        replace hf := hg_134.2
        refine x_scd hX hbl hg_134.1 dL_law_1037 ?_
        refine x_aload_n dL_law_1038 rfl ?_
        refine x_iload dL_law_1039 rfl ?_
        refine x_iconst (v := 2) dL_law_1041 (by decide) ?_
        refine x_iadd dL_law_1042 ?_
        have hg_135 := x_gd hf
        replace hf := hg_135.2
        refine x_scd hX hbl hg_135.1 dL_law_1043 ?_
        obtain ⟨q_136, hq_136, hf⟩ := Option.bind_eq_some_iff.mp hf
        refine f_cVi mX9_errors [.int (xs (x4 + (1 : Int32)).toNatClampNeg), .int (xs (x4 + (2 : Int32)).toNatClampNeg)] [] dL_law_1044 cs_RL_124 ⟨w_820, w_821⟩ (ci := 9) rfl (by decide) sh_0 rfl rfl (Nat.le_of_ble_eq_true rfl) (by omega) (c_X9_errors (d := d - 1) (by omega) (xs (x4 + (1 : Int32)).toNatClampNeg) (xs (x4 + (2 : Int32)).toNatClampNeg) m q_136 hq_136) ?_
        refine x_aload_n dL_law_1047 rfl ?_
        refine x_aload_n dL_law_1048 rfl ?_
        refine x_iload dL_law_1049 rfl ?_
        refine x_iconst (v := 1) dL_law_1051 (by decide) ?_
        refine x_iadd dL_law_1052 ?_
        have hg_137 := x_gd hf
        replace hf := hg_137.2
        refine x_scd hX hbl hg_137.1 dL_law_1053 ?_
        refine x_aload_n dL_law_1054 rfl ?_
        refine x_iload dL_law_1055 rfl ?_
        refine x_iconst (v := 2) dL_law_1057 (by decide) ?_
        refine x_iadd dL_law_1058 ?_
        have hg_138 := x_gd hf
        replace hf := hg_138.2
        refine x_scd hX hbl hg_138.1 dL_law_1059 ?_
        obtain ⟨q_139, hq_139, hf⟩ := Option.bind_eq_some_iff.mp hf
        refine f_cVi mX10_errors [.int (xs (x4 + (1 : Int32)).toNatClampNeg), .int (xs (x4 + (2 : Int32)).toNatClampNeg)] [.int (q_136.1)] dL_law_1060 cs_RL_127 ⟨w_1317, w_1318⟩ (ci := 10) rfl (by decide) sh_87 rfl rfl (Nat.le_of_ble_eq_true rfl) (by omega) (c_X10_errors (d := d - 1) (by omega) (xs (x4 + (1 : Int32)).toNatClampNeg) (xs (x4 + (2 : Int32)).toNatClampNeg) q_136.2 q_139 hq_139) ?_
        refine x_icmp_eq 1161 dL_law_1063 (by decide) (fun hc => ?_) (fun hc => ?_)
        · replace hf := x_ift hc hf
          refine x_iinc (v := x4 + 7) (lv' := [(0, .ref b), (1, .ref (xB E + 0)), (2, .ref (xB E + 87)), (3, .ref (xB E + 125)), (4, .int (x4 + 7))]) dL_law_1161 4 [1, 2, 3, 4, 0] rfl rfl (Nat.le_of_ble_eq_true rfl) rfl ?_
          refine x_goto 23 dL_law_1164 (by decide) ?_
          exact ih _ _ _ _ (by omega) (by omega) hf
        · replace hf := x_iff hc hf
          refine x_iconst (v := 0) dL_law_1066 (by decide) ?_
          exact x_zret dL_law_1067 rfl (by decide) (by cases hf; exact hR)
      replace hf := x_iff hc hf
      have hn22 := hc
      by_cases hc : ((xs (x4).toNatClampNeg) &&& (31 : Int32)) = 23
      · replace hf := x_ift hc hf
        refine x_tableIn 1068 dL_law_40 (by rw [hc]; decide) (by rw [hc]; decide) (by rw [hc]; rfl) (by decide) ?_
        refine x_aload_n dL_law_1068 rfl ?_
        refine x_aload_n dL_law_1069 rfl ?_
        refine x_iload dL_law_1070 rfl ?_
        refine x_iconst (v := 1) dL_law_1072 (by decide) ?_
        refine x_iadd dL_law_1073 ?_
        have hg_140 := x_gd hf
        replace hf := hg_140.2
        refine x_scd hX hbl hg_140.1 dL_law_1074 ?_
        obtain ⟨q_141, hq_141, hf⟩ := Option.bind_eq_some_iff.mp hf
        refine f_cVi mX9_count [.int (xs (x4 + (1 : Int32)).toNatClampNeg)] [] dL_law_1075 cs_RL_128 ⟨w_824, w_825⟩ (ci := 9) rfl (by decide) sh_0 rfl rfl (Nat.le_of_ble_eq_true rfl) (by omega) (c_X9_count (d := d - 1) (by omega) (xs (x4 + (1 : Int32)).toNatClampNeg) m q_141 hq_141) ?_
        refine x_aload_n dL_law_1078 rfl ?_
        refine x_aload_n dL_law_1079 rfl ?_
        refine x_iload dL_law_1080 rfl ?_
        refine x_iconst (v := 1) dL_law_1082 (by decide) ?_
        refine x_iadd dL_law_1083 ?_
        have hg_142 := x_gd hf
        replace hf := hg_142.2
        refine x_scd hX hbl hg_142.1 dL_law_1084 ?_
        obtain ⟨q_143, hq_143, hf⟩ := Option.bind_eq_some_iff.mp hf
        refine f_cVi mX10_count [.int (xs (x4 + (1 : Int32)).toNatClampNeg)] [.int (q_141.1)] dL_law_1085 cs_RL_131 ⟨w_1321, w_1322⟩ (ci := 10) rfl (by decide) sh_87 rfl rfl (Nat.le_of_ble_eq_true rfl) (by omega) (c_X10_count (d := d - 1) (by omega) (xs (x4 + (1 : Int32)).toNatClampNeg) q_141.2 q_143 hq_143) ?_
        refine x_icmp_eq 1161 dL_law_1088 (by decide) (fun hc => ?_) (fun hc => ?_)
        · replace hf := x_ift hc hf
          refine x_iinc (v := x4 + 7) (lv' := [(0, .ref b), (1, .ref (xB E + 0)), (2, .ref (xB E + 87)), (3, .ref (xB E + 125)), (4, .int (x4 + 7))]) dL_law_1161 4 [1, 2, 3, 4, 0] rfl rfl (Nat.le_of_ble_eq_true rfl) rfl ?_
          refine x_goto 23 dL_law_1164 (by decide) ?_
          exact ih _ _ _ _ (by omega) (by omega) hf
        · replace hf := x_iff hc hf
          refine x_iconst (v := 0) dL_law_1091 (by decide) ?_
          exact x_zret dL_law_1092 rfl (by decide) (by cases hf; exact hR)
      replace hf := x_iff hc hf
      have hn23 := hc
      by_cases hc : ((xs (x4).toNatClampNeg) &&& (31 : Int32)) = 24
      · replace hf := x_ift hc hf
        refine x_tableIn 1093 dL_law_40 (by rw [hc]; decide) (by rw [hc]; decide) (by rw [hc]; rfl) (by decide) ?_
        refine x_aload_n dL_law_1093 rfl ?_
        refine x_aload_n dL_law_1094 rfl ?_
        refine x_iload dL_law_1095 rfl ?_
        refine x_iconst (v := 1) dL_law_1097 (by decide) ?_
        refine x_iadd dL_law_1098 ?_
        have hg_144 := x_gd hf
        replace hf := hg_144.2
        refine x_scd hX hbl hg_144.1 dL_law_1099 ?_
        refine x_aload_n dL_law_1100 rfl ?_
        refine x_iload dL_law_1101 rfl ?_
        refine x_iconst (v := 2) dL_law_1103 (by decide) ?_
        refine x_iadd dL_law_1104 ?_
        have hg_145 := x_gd hf
        replace hf := hg_145.2
        refine x_scd hX hbl hg_145.1 dL_law_1105 ?_
        refine x_aload_n dL_law_1106 rfl ?_
        obtain ⟨q_146, hq_146, hf⟩ := Option.bind_eq_some_iff.mp hf
        refine f_cL_look hT0 dL_law_1107 (Nat.le_of_ble_eq_true rfl) (by omega) (by omega) (by omega) hq_146 ?_
        refine x_istore (lv' := [(0, .ref b), (1, .ref (xB E + 0)), (2, .ref (xB E + 87)), (3, .ref (xB E + 125)), (4, .int (x4)), (5, .int (q_146.1))]) dL_law_1110 [1, 2, 3, 4, 5, 0] (Nat.le_of_ble_eq_true rfl) rfl ?_
        refine x_aload_n dL_law_1112 rfl ?_
        refine x_aload_n dL_law_1113 rfl ?_
        refine x_iload dL_law_1114 rfl ?_
        refine x_iconst (v := 1) dL_law_1116 (by decide) ?_
        refine x_iadd dL_law_1117 ?_
        have hg_147 := x_gd hf
        replace hf := hg_147.2
        refine x_scd hX hbl hg_147.1 dL_law_1118 ?_
        refine x_aload_n dL_law_1119 rfl ?_
        refine x_iload dL_law_1120 rfl ?_
        refine x_iconst (v := 2) dL_law_1122 (by decide) ?_
        refine x_iadd dL_law_1123 ?_
        have hg_148 := x_gd hf
        replace hf := hg_148.2
        refine x_scd hX hbl hg_148.1 dL_law_1124 ?_
        obtain ⟨q_149, hq_149, hf⟩ := Option.bind_eq_some_iff.mp hf
        refine f_cVi mX10_look [.int (xs (x4 + (1 : Int32)).toNatClampNeg), .int (xs (x4 + (2 : Int32)).toNatClampNeg)] [] dL_law_1125 cs_RL_135 ⟨w_1325, w_1326⟩ (ci := 10) rfl (by decide) sh_87 rfl rfl (Nat.le_of_ble_eq_true rfl) (by omega) (c_X10_look (d := d - 1) (by omega) (xs (x4 + (1 : Int32)).toNatClampNeg) (xs (x4 + (2 : Int32)).toNatClampNeg) q_146.2 q_149 hq_149) ?_
        refine x_istore (lv' := [(0, .ref b), (1, .ref (xB E + 0)), (2, .ref (xB E + 87)), (3, .ref (xB E + 125)), (4, .int (x4)), (5, .int (q_146.1)), (6, .int (q_149.1))]) dL_law_1128 [1, 2, 3, 4, 5, 6, 0] (Nat.le_of_ble_eq_true rfl) rfl ?_
        refine x_aload_n dL_law_1130 rfl ?_
        obtain ⟨q_150, hq_150, hf⟩ := Option.bind_eq_some_iff.mp hf
        refine f_cVi mX10_thrown [] [] dL_law_1131 cs_RL_88 ⟨w_911, w_912⟩ (ci := 10) rfl (by decide) sh_87 rfl rfl (Nat.le_of_ble_eq_true rfl) (by omega) (c_X10_thrown (d := d - 1) (by omega) q_149.2 q_150 hq_150) ?_
        refine x_iload dL_law_1134 rfl ?_
        refine x_icmp_eq 1141 dL_law_1136 (by decide) (fun hc => ?_) (fun hc => ?_)
        · replace hf := x_ift hc hf
          refine x_iload dL_law_1141 rfl ?_
          refine x_if_ne 1158 dL_law_1143 (by decide) (fun hc => ?_) (fun hc => ?_)
          · replace hf := x_iff hc hf
            refine x_goto 1161 dL_law_1158 (by decide) ?_
            refine x_iinc (v := x4 + 7) (lv' := [(0, .ref b), (1, .ref (xB E + 0)), (2, .ref (xB E + 87)), (3, .ref (xB E + 125)), (4, .int (x4 + 7))]) dL_law_1161 4 [1, 2, 3, 4, 0] rfl rfl (Nat.le_of_ble_eq_true rfl) rfl ?_
            refine x_goto 23 dL_law_1164 (by decide) ?_
            exact ih _ _ _ _ (by omega) (by omega) hf
          · replace hf := x_ift hc hf
            refine x_aload_n dL_law_1146 rfl ?_
            refine x_iconst (v := 0) dL_law_1147 (by decide) ?_
            have hg_151 := x_gd hf
            replace hf := hg_151.2
            refine f_lald dL_law_1148 (by decide) sh_125 hg_151.1 ?_
            refine x_iload dL_law_1149 rfl ?_
            refine x_i2l dL_law_1151 ?_
            refine x_lcmp dL_law_1152 ?_
            refine x_if_eq 1158 dL_law_1153 (by decide) (fun hc => ?_) (fun hc => ?_)
            · replace hf := x_ift hc hf
              refine x_goto 1161 dL_law_1158 (by decide) ?_
              refine x_iinc (v := x4 + 7) (lv' := [(0, .ref b), (1, .ref (xB E + 0)), (2, .ref (xB E + 87)), (3, .ref (xB E + 125)), (4, .int (x4 + 7))]) dL_law_1161 4 [1, 2, 3, 4, 0] rfl rfl (Nat.le_of_ble_eq_true rfl) rfl ?_
              refine x_goto 23 dL_law_1164 (by decide) ?_
              exact ih _ _ _ _ (by omega) (by omega) hf
            · replace hf := x_iff hc hf
              refine x_iconst (v := 0) dL_law_1156 (by decide) ?_
              exact x_zret dL_law_1157 rfl (by decide) (by cases hf; exact hR)
        · replace hf := x_iff hc hf
          refine x_iconst (v := 0) dL_law_1139 (by decide) ?_
          exact x_zret dL_law_1140 rfl (by decide) (by cases hf; exact hR)
      replace hf := x_iff hc hf
      have hn24 := hc
      refine x_tableOut 1161 dL_law_40 (xtab_out 0 24 [0, 1, 2, 3, 4, 5, 6, 7, 8, 9, 10, 11, 12, 13, 14, 15, 16, 17, 18, 19, 20, 21, 22, 23, 24] (by decide) (by simp only [List.forall_mem_cons, List.not_mem_nil, false_implies, implies_true, and_true]; exact ⟨hn0, hn1, hn2, hn3, hn4, hn5, hn6, hn7, hn8, hn9, hn10, hn11, hn12, hn13, hn14, hn15, hn16, hn17, hn18, hn19, hn20, hn21, hn22, hn23, hn24⟩)) (by decide) ?_
      refine x_iinc (v := x4 + 7) (lv' := [(0, .ref b), (1, .ref (xB E + 0)), (2, .ref (xB E + 87)), (3, .ref (xB E + 125)), (4, .int (x4 + 7))]) dL_law_1161 4 [1, 2, 3, 4, 0] rfl rfl (Nat.le_of_ble_eq_true rfl) rfl ?_
      refine x_goto 23 dL_law_1164 (by decide) ?_
      exact ih _ _ _ _ (by omega) (by omega) hf
set_option maxHeartbeats 4000000 in
set_option maxRecDepth 100000 in
theorem pF_L_law {E : xE} {d : Nat} {mc ms : Nat} {nm : String} {Q : Option Value → xS → Prop} (hd : 88 ≤ d) (out : Int32 × xMem) (hR : Q (some (.int out.1)) (xf E out.2)) (Ls : Nat) (xs : Nat → Int32) {b : Nat} (hX : va_X b Ls xs E.2.1 E.2.1.heap) (hbl : b < xB E) (hT0 : xThr E) (m : xMem) {rc rs : Nat} (hrc : xfuel ≤ rc) (hrs : 6 * xfuel ≤ rs) (hf : F_L_law Ls xs m = some out) : xX E (mLaw nm) d mc ms rc rs Q 20 [(0, .ref b), (1, .ref (xB E + 0)), (2, .ref (xB E + 87)), (3, .ref (xB E + 125))] [] (xf E m) := by
  unfold F_L_law at hf
  refine x_iconst (v := 0) dL_law_20 (by decide) ?_
  refine x_istore (lv' := [(0, .ref b), (1, .ref (xB E + 0)), (2, .ref (xB E + 87)), (3, .ref (xB E + 125)), (4, .int ((0 : Int32)))]) dL_law_21 [1, 2, 3, 4, 0] (Nat.le_of_ble_eq_true rfl) rfl ?_
  refine pL_L_law_23 hd out hR Ls xs hX hbl hT0 xfuel _ _ _ _ hrc hrs hf
