def L_L_law_18 (n : Nat) (L : Nat) (xs : Nat → Int32) : Nat → Int32 → AH → Option (Int32 × AH)
  | 0, _, _ => none
  | m + 1, x3, h =>
    if ((Int32.ofNat L) - 6) < x3 then
      some (1, h)
    else
      bif (am_in x3 L) then
        if ((xs (Int32.toNatClampNeg x3)) &&& 63) = 0 then
          bif (am_in (x3 + 1) L) then
            bif (am_in (x3 + 2) L) then
              am_b (M_X8_type n (xs (Int32.toNatClampNeg (x3 + 1))) (xs (Int32.toNatClampNeg (x3 + 2))) h) fun v2 h1 =>
              bif (am_in (x3 + 1) L) then
                bif (am_in (x3 + 2) L) then
                  am_b (M_X9_type (xs (Int32.toNatClampNeg (x3 + 1))) (xs (Int32.toNatClampNeg (x3 + 2))) h1) fun v4 h3 =>
                  if v2 = v4 then
                    L_L_law_18 n L xs m (x3 + 6) h3
                  else
                    some (0, h3)
                else none
              else none
            else none
          else none
        else
        if ((xs (Int32.toNatClampNeg x3)) &&& 63) = 1 then
          bif (am_in (x3 + 1) L) then
            am_b (M_X8_wipe n (xs (Int32.toNatClampNeg (x3 + 1))) h) fun v6 h5 =>
            bif (am_in (x3 + 1) L) then
              am_b (M_X9_wipe (xs (Int32.toNatClampNeg (x3 + 1))) h5) fun v8 h7 =>
              if v6 = v8 then
                L_L_law_18 n L xs m (x3 + 6) h7
              else
                some (0, h7)
            else none
          else none
        else
        if ((xs (Int32.toNatClampNeg x3)) &&& 63) = 2 then
          bif (am_in (x3 + 1) L) then
            am_b (M_X8_undo n (xs (Int32.toNatClampNeg (x3 + 1))) h) fun v10 h9 =>
            bif (am_in (x3 + 1) L) then
              am_b (M_X9_undo (xs (Int32.toNatClampNeg (x3 + 1))) h9) fun v12 h11 =>
              if v10 = v12 then
                L_L_law_18 n L xs m (x3 + 6) h11
              else
                some (0, h11)
            else none
          else none
        else
        if ((xs (Int32.toNatClampNeg x3)) &&& 63) = 3 then
          bif (am_in (x3 + 1) L) then
            bif (am_in (x3 + 1) L) then
              am_b (M_X9_fault n (xs (Int32.toNatClampNeg (x3 + 1))) h) fun v14 h13 =>
              if (M_X8_fault (xs (Int32.toNatClampNeg (x3 + 1))) h) = v14 then
                L_L_law_18 n L xs m (x3 + 6) h13
              else
                some (0, h13)
            else none
          else none
        else
        if ((xs (Int32.toNatClampNeg x3)) &&& 63) = 4 then
          bif (am_in (x3 + 1) L) then
            bif (am_in (x3 + 2) L) then
              am_o (M_X8_piece (xs (Int32.toNatClampNeg (x3 + 1))) (xs (Int32.toNatClampNeg (x3 + 2))) h) fun v15 =>
              bif (am_in (x3 + 1) L) then
                bif (am_in (x3 + 2) L) then
                  am_b (M_X9_piece n (xs (Int32.toNatClampNeg (x3 + 1))) (xs (Int32.toNatClampNeg (x3 + 2))) h) fun v17 h16 =>
                  if v15 = v17 then
                    L_L_law_18 n L xs m (x3 + 6) h16
                  else
                    some (0, h16)
                else none
              else none
            else none
          else none
        else
        if ((xs (Int32.toNatClampNeg x3)) &&& 63) = 5 then
          bif (am_in (x3 + 1) L) then
            bif (am_in (x3 + 2) L) then
              am_o (M_X8_guest (xs (Int32.toNatClampNeg (x3 + 1))) (xs (Int32.toNatClampNeg (x3 + 2))) h) fun v18 =>
              bif (am_in (x3 + 1) L) then
                bif (am_in (x3 + 2) L) then
                  am_b (M_X9_guest n (xs (Int32.toNatClampNeg (x3 + 1))) (xs (Int32.toNatClampNeg (x3 + 2))) h) fun v20 h19 =>
                  if v18 = v20 then
                    L_L_law_18 n L xs m (x3 + 6) h19
                  else
                    some (0, h19)
                else none
              else none
            else none
          else none
        else
        if ((xs (Int32.toNatClampNeg x3)) &&& 63) = 6 then
          bif (am_in (x3 + 1) L) then
            bif (am_in (x3 + 2) L) then
              am_b (M_X8_set n (xs (Int32.toNatClampNeg (x3 + 1))) (xs (Int32.toNatClampNeg (x3 + 2))) h) fun v22 h21 =>
              bif (am_in (x3 + 1) L) then
                bif (am_in (x3 + 2) L) then
                  am_b (M_X9_set (xs (Int32.toNatClampNeg (x3 + 1))) (xs (Int32.toNatClampNeg (x3 + 2))) h21) fun v24 h23 =>
                  if v22 = v24 then
                    L_L_law_18 n L xs m (x3 + 6) h23
                  else
                    some (0, h23)
                else none
              else none
            else none
          else none
        else
        if ((xs (Int32.toNatClampNeg x3)) &&& 63) = 7 then
          bif (am_in (x3 + 1) L) then
            bif (am_in (x3 + 2) L) then
              bif (am_in (x3 + 3) L) then
                am_b (M_X8_event n (xs (Int32.toNatClampNeg (x3 + 1))) (xs (Int32.toNatClampNeg (x3 + 2))) (xs (Int32.toNatClampNeg (x3 + 3))) h) fun v26 h25 =>
                bif (am_in (x3 + 1) L) then
                  bif (am_in (x3 + 2) L) then
                    bif (am_in (x3 + 3) L) then
                      am_b (M_X9_event (xs (Int32.toNatClampNeg (x3 + 1))) (xs (Int32.toNatClampNeg (x3 + 2))) (xs (Int32.toNatClampNeg (x3 + 3))) h25) fun v28 h27 =>
                      if v26 = v28 then
                        L_L_law_18 n L xs m (x3 + 6) h27
                      else
                        some (0, h27)
                    else none
                  else none
                else none
              else none
            else none
          else none
        else
        if ((xs (Int32.toNatClampNeg x3)) &&& 63) = 8 then
          am_b (M_X8_back n h) fun v30 h29 =>
          am_b (M_X9_back h29) fun v32 h31 =>
          if v30 = v32 then
            L_L_law_18 n L xs m (x3 + 6) h31
          else
            some (0, h31)
        else
        if ((xs (Int32.toNatClampNeg x3)) &&& 63) = 9 then
          bif (am_in (x3 + 1) L) then
            am_b (M_X8_read n (xs (Int32.toNatClampNeg (x3 + 1))) h) fun v34 h33 =>
            bif (am_in (x3 + 1) L) then
              am_b (M_X9_read n (xs (Int32.toNatClampNeg (x3 + 1))) h33) fun v36 h35 =>
              if v34 = v36 then
                L_L_law_18 n L xs m (x3 + 6) h35
              else
                some (0, h35)
            else none
          else none
        else
        if ((xs (Int32.toNatClampNeg x3)) &&& 63) = 10 then
          bif (am_in (x3 + 1) L) then
            bif (am_in (x3 + 2) L) then
              am_b (M_X8_at n (xs (Int32.toNatClampNeg (x3 + 1))) (xs (Int32.toNatClampNeg (x3 + 2))) h) fun v38 h37 =>
              bif (am_in (x3 + 1) L) then
                bif (am_in (x3 + 2) L) then
                  am_b (M_X9_at n (xs (Int32.toNatClampNeg (x3 + 1))) (xs (Int32.toNatClampNeg (x3 + 2))) h37) fun v40 h39 =>
                  if v38 = v40 then
                    L_L_law_18 n L xs m (x3 + 6) h39
                  else
                    some (0, h39)
                else none
              else none
            else none
          else none
        else
        if ((xs (Int32.toNatClampNeg x3)) &&& 63) = 11 then
          bif (am_in (x3 + 1) L) then
            bif (am_in (x3 + 2) L) then
              bif (am_in (x3 + 3) L) then
                am_b (M_X8_is n (xs (Int32.toNatClampNeg (x3 + 1))) (xs (Int32.toNatClampNeg (x3 + 2))) (xs (Int32.toNatClampNeg (x3 + 3))) h) fun v42 h41 =>
                bif (am_in (x3 + 1) L) then
                  bif (am_in (x3 + 2) L) then
                    bif (am_in (x3 + 3) L) then
                      am_b (M_X9_is n (xs (Int32.toNatClampNeg (x3 + 1))) (xs (Int32.toNatClampNeg (x3 + 2))) (xs (Int32.toNatClampNeg (x3 + 3))) h41) fun v44 h43 =>
                      if v42 = v44 then
                        L_L_law_18 n L xs m (x3 + 6) h43
                      else
                        some (0, h43)
                    else none
                  else none
                else none
              else none
            else none
          else none
        else
        if ((xs (Int32.toNatClampNeg x3)) &&& 63) = 12 then
          bif (am_in (x3 + 1) L) then
            am_b (M_X8_line n (xs (Int32.toNatClampNeg (x3 + 1))) h) fun v46 h45 =>
            bif (am_in (x3 + 1) L) then
              am_b (M_X9_line n (xs (Int32.toNatClampNeg (x3 + 1))) h45) fun v48 h47 =>
              if v46 = v48 then
                L_L_law_18 n L xs m (x3 + 6) h47
              else
                some (0, h47)
            else none
          else none
        else
        if ((xs (Int32.toNatClampNeg x3)) &&& 63) = 13 then
          bif (am_in (x3 + 1) L) then
            am_b (M_X8_sum n (xs (Int32.toNatClampNeg (x3 + 1))) h) fun v50 h49 =>
            bif (am_in (x3 + 1) L) then
              am_b (M_X9_sum n (xs (Int32.toNatClampNeg (x3 + 1))) h49) fun v52 h51 =>
              if v50 = v52 then
                L_L_law_18 n L xs m (x3 + 6) h51
              else
                some (0, h51)
            else none
          else none
        else
        if ((xs (Int32.toNatClampNeg x3)) &&& 63) = 14 then
          am_b (M_X8_first n h) fun v54 h53 =>
          am_b (M_X9_first n h53) fun v56 h55 =>
          if v54 = v56 then
            L_L_law_18 n L xs m (x3 + 6) h55
          else
            some (0, h55)
        else
        if ((xs (Int32.toNatClampNeg x3)) &&& 63) = 15 then
          bif (am_in (x3 + 1) L) then
            am_b (M_X8_hottest n (xs (Int32.toNatClampNeg (x3 + 1))) h) fun v58 h57 =>
            bif (am_in (x3 + 1) L) then
              am_b (M_X9_hottest n (xs (Int32.toNatClampNeg (x3 + 1))) h57) fun v60 h59 =>
              if v58 = v60 then
                L_L_law_18 n L xs m (x3 + 6) h59
              else
                some (0, h59)
            else none
          else none
        else
        if ((xs (Int32.toNatClampNeg x3)) &&& 63) = 16 then
          bif (am_in (x3 + 1) L) then
            am_b (M_X8_waited n (xs (Int32.toNatClampNeg (x3 + 1))) h) fun v62 h61 =>
            bif (am_in (x3 + 1) L) then
              am_b (M_X9_waited n (xs (Int32.toNatClampNeg (x3 + 1))) h61) fun v64 h63 =>
              if v62 = v64 then
                L_L_law_18 n L xs m (x3 + 6) h63
              else
                some (0, h63)
            else none
          else none
        else
        if ((xs (Int32.toNatClampNeg x3)) &&& 63) = 17 then
          am_b (M_X8_thirst n h) fun v66 h65 =>
          am_b (M_X9_thirst n h65) fun v68 h67 =>
          if v66 = v68 then
            L_L_law_18 n L xs m (x3 + 6) h67
          else
            some (0, h67)
        else
        if ((xs (Int32.toNatClampNeg x3)) &&& 63) = 18 then
          bif (am_in (x3 + 1) L) then
            bif (am_in (x3 + 2) L) then
              am_b (M_X8_better n (xs (Int32.toNatClampNeg (x3 + 1))) (xs (Int32.toNatClampNeg (x3 + 2))) h) fun v70 h69 =>
              bif (am_in (x3 + 1) L) then
                bif (am_in (x3 + 2) L) then
                  am_b (M_X9_better n (xs (Int32.toNatClampNeg (x3 + 1))) (xs (Int32.toNatClampNeg (x3 + 2))) h69) fun v72 h71 =>
                  if v70 = v72 then
                    L_L_law_18 n L xs m (x3 + 6) h71
                  else
                    some (0, h71)
                else none
              else none
            else none
          else none
        else
        if ((xs (Int32.toNatClampNeg x3)) &&& 63) = 19 then
          bif (am_in (x3 + 1) L) then
            am_b (M_X8_fill n (xs (Int32.toNatClampNeg (x3 + 1))) h) fun v74 h73 =>
            bif (am_in (x3 + 1) L) then
              am_b (M_X9_fill n (xs (Int32.toNatClampNeg (x3 + 1))) h73) fun v76 h75 =>
              if v74 = v76 then
                L_L_law_18 n L xs m (x3 + 6) h75
              else
                some (0, h75)
            else none
          else none
        else
        if ((xs (Int32.toNatClampNeg x3)) &&& 63) = 20 then
          bif (am_in (x3 + 1) L) then
            bif (am_in (x3 + 2) L) then
              am_b (M_X8_come n (xs (Int32.toNatClampNeg (x3 + 1))) (xs (Int32.toNatClampNeg (x3 + 2))) h) fun v78 h77 =>
              bif (am_in (x3 + 1) L) then
                bif (am_in (x3 + 2) L) then
                  am_b (M_X9_come n (xs (Int32.toNatClampNeg (x3 + 1))) (xs (Int32.toNatClampNeg (x3 + 2))) h77) fun v80 h79 =>
                  if v78 = v80 then
                    L_L_law_18 n L xs m (x3 + 6) h79
                  else
                    some (0, h79)
                else none
              else none
            else none
          else none
        else
        if ((xs (Int32.toNatClampNeg x3)) &&& 63) = 21 then
          bif (am_in (x3 + 1) L) then
            am_b (M_X8_spare n (xs (Int32.toNatClampNeg (x3 + 1))) h) fun v82 h81 =>
            bif (am_in (x3 + 1) L) then
              am_b (M_X9_spare n (xs (Int32.toNatClampNeg (x3 + 1))) h81) fun v84 h83 =>
              if v82 = v84 then
                L_L_law_18 n L xs m (x3 + 6) h83
              else
                some (0, h83)
            else none
          else none
        else
        if ((xs (Int32.toNatClampNeg x3)) &&& 63) = 22 then
          bif (am_in (x3 + 1) L) then
            bif (am_in (x3 + 2) L) then
              am_b (M_X8_seen (xs (Int32.toNatClampNeg (x3 + 1))) (xs (Int32.toNatClampNeg (x3 + 2))) h) fun v86 h85 =>
              bif (am_in (x3 + 1) L) then
                bif (am_in (x3 + 2) L) then
                  am_b (M_X9_seen (xs (Int32.toNatClampNeg (x3 + 1))) (xs (Int32.toNatClampNeg (x3 + 2))) h85) fun v88 h87 =>
                  if v86 = v88 then
                    L_L_law_18 n L xs m (x3 + 6) h87
                  else
                    some (0, h87)
                else none
              else none
            else none
          else none
        else
        if ((xs (Int32.toNatClampNeg x3)) &&& 63) = 23 then
          am_b (M_X8_forget h) fun v90 h89 =>
          am_b (M_X9_forget h89) fun v92 h91 =>
          if v90 = v92 then
            L_L_law_18 n L xs m (x3 + 6) h91
          else
            some (0, h91)
        else
        if ((xs (Int32.toNatClampNeg x3)) &&& 63) = 24 then
          am_b (M_X8_never n h) fun v94 h93 =>
          am_b (M_X9_never n h93) fun v96 h95 =>
          if v94 = v96 then
            L_L_law_18 n L xs m (x3 + 6) h95
          else
            some (0, h95)
        else
        if ((xs (Int32.toNatClampNeg x3)) &&& 63) = 25 then
          am_b (M_X8_waters n h) fun v98 h97 =>
          am_b (M_X9_waters n h97) fun v100 h99 =>
          if v98 = v100 then
            L_L_law_18 n L xs m (x3 + 6) h99
          else
            some (0, h99)
        else
        if ((xs (Int32.toNatClampNeg x3)) &&& 63) = 26 then
          bif (am_in (x3 + 1) L) then
            am_b (M_X8_kind n (xs (Int32.toNatClampNeg (x3 + 1))) h) fun v102 h101 =>
            bif (am_in (x3 + 1) L) then
              am_b (M_X9_kind n (xs (Int32.toNatClampNeg (x3 + 1))) h101) fun v104 h103 =>
              if v102 = v104 then
                L_L_law_18 n L xs m (x3 + 6) h103
              else
                some (0, h103)
            else none
          else none
        else
        if ((xs (Int32.toNatClampNeg x3)) &&& 63) = 27 then
          am_b (M_X8_ask n h) fun v106 h105 =>
          am_b (M_X9_ask n h105) fun v108 h107 =>
          if v106 = v108 then
            L_L_law_18 n L xs m (x3 + 6) h107
          else
            some (0, h107)
        else
        if ((xs (Int32.toNatClampNeg x3)) &&& 63) = 28 then
          bif (am_in (x3 + 1) L) then
            bif (am_in (x3 + 2) L) then
              bif (am_in (x3 + 3) L) then
                am_b (M_X8_chance n (xs (Int32.toNatClampNeg (x3 + 1))) (xs (Int32.toNatClampNeg (x3 + 2))) (xs (Int32.toNatClampNeg (x3 + 3))) h) fun v110 h109 =>
                bif (am_in (x3 + 1) L) then
                  bif (am_in (x3 + 2) L) then
                    bif (am_in (x3 + 3) L) then
                      am_b (M_X9_chance n (xs (Int32.toNatClampNeg (x3 + 1))) (xs (Int32.toNatClampNeg (x3 + 2))) (xs (Int32.toNatClampNeg (x3 + 3))) h109) fun v112 h111 =>
                      if (lg_cmp v110 v112) = 0 then
                        L_L_law_18 n L xs m (x3 + 6) h111
                      else
                        some (0, h111)
                    else none
                  else none
                else none
              else none
            else none
          else none
        else
        if ((xs (Int32.toNatClampNeg x3)) &&& 63) = 29 then
          bif (am_in (x3 + 1) L) then
            bif (am_in (x3 + 2) L) then
              bif (am_in (x3 + 3) L) then
                am_b (M_X8_evenings n (xs (Int32.toNatClampNeg (x3 + 1))) (xs (Int32.toNatClampNeg (x3 + 2))) (xs (Int32.toNatClampNeg (x3 + 3))) h) fun v114 h113 =>
                bif (am_in (x3 + 1) L) then
                  bif (am_in (x3 + 2) L) then
                    bif (am_in (x3 + 3) L) then
                      am_b (M_X9_evenings n (xs (Int32.toNatClampNeg (x3 + 1))) (xs (Int32.toNatClampNeg (x3 + 2))) (xs (Int32.toNatClampNeg (x3 + 3))) h113) fun v116 h115 =>
                      if v114 = v116 then
                        L_L_law_18 n L xs m (x3 + 6) h115
                      else
                        some (0, h115)
                    else none
                  else none
                else none
              else none
            else none
          else none
        else
        if ((xs (Int32.toNatClampNeg x3)) &&& 63) = 30 then
          bif (am_in (x3 + 1) L) then
            bif (am_in (x3 + 2) L) then
              bif (am_in (x3 + 3) L) then
                am_b (M_X8_sheet n (xs (Int32.toNatClampNeg (x3 + 1))) (xs (Int32.toNatClampNeg (x3 + 2))) (xs (Int32.toNatClampNeg (x3 + 3))) h) fun v118 h117 =>
                bif (am_in (x3 + 1) L) then
                  bif (am_in (x3 + 2) L) then
                    bif (am_in (x3 + 3) L) then
                      am_b (M_X9_sheet n (xs (Int32.toNatClampNeg (x3 + 1))) (xs (Int32.toNatClampNeg (x3 + 2))) (xs (Int32.toNatClampNeg (x3 + 3))) h117) fun v120 h119 =>
                      if v118 = v120 then
                        L_L_law_18 n L xs m (x3 + 6) h119
                      else
                        some (0, h119)
                    else none
                  else none
                else none
              else none
            else none
          else none
        else
        if ((xs (Int32.toNatClampNeg x3)) &&& 63) = 31 then
          bif (am_in (x3 + 1) L) then
            am_b (M_X8_lose (xs (Int32.toNatClampNeg (x3 + 1))) h) fun v122 h121 =>
            bif (am_in (x3 + 1) L) then
              am_b (M_X9_lose (xs (Int32.toNatClampNeg (x3 + 1))) h121) fun v124 h123 =>
              if v122 = v124 then
                L_L_law_18 n L xs m (x3 + 6) h123
              else
                some (0, h123)
            else none
          else none
        else
        if ((xs (Int32.toNatClampNeg x3)) &&& 63) = 32 then
          bif (am_in (x3 + 1) L) then
            bif (am_in (x3 + 2) L) then
              bif (am_in (x3 + 3) L) then
                bif (am_in (x3 + 4) L) then
                  am_b (M_X8_put (xs (Int32.toNatClampNeg (x3 + 1))) (xs (Int32.toNatClampNeg (x3 + 2))) (xs (Int32.toNatClampNeg (x3 + 3))) (xs (Int32.toNatClampNeg (x3 + 4))) h) fun v126 h125 =>
                  bif (am_in (x3 + 1) L) then
                    bif (am_in (x3 + 2) L) then
                      bif (am_in (x3 + 3) L) then
                        bif (am_in (x3 + 4) L) then
                          am_b (M_X9_put (xs (Int32.toNatClampNeg (x3 + 1))) (xs (Int32.toNatClampNeg (x3 + 2))) (xs (Int32.toNatClampNeg (x3 + 3))) (xs (Int32.toNatClampNeg (x3 + 4))) h125) fun v128 h127 =>
                          if v126 = v128 then
                            L_L_law_18 n L xs m (x3 + 6) h127
                          else
                            some (0, h127)
                        else none
                      else none
                    else none
                  else none
                else none
              else none
            else none
          else none
        else
        if ((xs (Int32.toNatClampNeg x3)) &&& 63) = 33 then
          bif (am_in (x3 + 1) L) then
            bif (am_in (x3 + 2) L) then
              bif (am_in (x3 + 3) L) then
                am_b (M_X8_get (xs (Int32.toNatClampNeg (x3 + 1))) (xs (Int32.toNatClampNeg (x3 + 2))) (xs (Int32.toNatClampNeg (x3 + 3))) h) fun v130 h129 =>
                bif (am_in (x3 + 1) L) then
                  bif (am_in (x3 + 2) L) then
                    bif (am_in (x3 + 3) L) then
                      am_b (M_X9_get (xs (Int32.toNatClampNeg (x3 + 1))) (xs (Int32.toNatClampNeg (x3 + 2))) (xs (Int32.toNatClampNeg (x3 + 3))) h129) fun v132 h131 =>
                      if v130 = v132 then
                        L_L_law_18 n L xs m (x3 + 6) h131
                      else
                        some (0, h131)
                    else none
                  else none
                else none
              else none
            else none
          else none
        else
        if ((xs (Int32.toNatClampNeg x3)) &&& 63) = 34 then
          bif (am_in (x3 + 1) L) then
            bif (am_in (x3 + 2) L) then
              bif (am_in (x3 + 3) L) then
                bif (am_in (x3 + 4) L) then
                  bif (am_in (x3 + 5) L) then
                    am_b (M_X8_copy (xs (Int32.toNatClampNeg (x3 + 1))) (xs (Int32.toNatClampNeg (x3 + 2))) (xs (Int32.toNatClampNeg (x3 + 3))) (xs (Int32.toNatClampNeg (x3 + 4))) (xs (Int32.toNatClampNeg (x3 + 5))) h) fun v134 h133 =>
                    bif (am_in (x3 + 1) L) then
                      bif (am_in (x3 + 2) L) then
                        bif (am_in (x3 + 3) L) then
                          bif (am_in (x3 + 4) L) then
                            bif (am_in (x3 + 5) L) then
                              am_b (M_X9_copy n (xs (Int32.toNatClampNeg (x3 + 1))) (xs (Int32.toNatClampNeg (x3 + 2))) (xs (Int32.toNatClampNeg (x3 + 3))) (xs (Int32.toNatClampNeg (x3 + 4))) (xs (Int32.toNatClampNeg (x3 + 5))) h133) fun v136 h135 =>
                              if v134 = v136 then
                                L_L_law_18 n L xs m (x3 + 6) h135
                              else
                                some (0, h135)
                            else none
                          else none
                        else none
                      else none
                    else none
                  else none
                else none
              else none
            else none
          else none
        else
        if ((xs (Int32.toNatClampNeg x3)) &&& 63) = 35 then
          bif (am_in (x3 + 1) L) then
            bif (am_in (x3 + 2) L) then
              am_b (M_X8_write n (xs (Int32.toNatClampNeg (x3 + 1))) (xs (Int32.toNatClampNeg (x3 + 2))) h) fun v138 h137 =>
              bif (am_in (x3 + 1) L) then
                bif (am_in (x3 + 2) L) then
                  am_b (M_X9_write n (xs (Int32.toNatClampNeg (x3 + 1))) (xs (Int32.toNatClampNeg (x3 + 2))) h137) fun v140 h139 =>
                  if v138 = v140 then
                    L_L_law_18 n L xs m (x3 + 6) h139
                  else
                    some (0, h139)
                else none
              else none
            else none
          else none
        else
        if ((xs (Int32.toNatClampNeg x3)) &&& 63) = 36 then
          bif (am_in (x3 + 1) L) then
            am_b (M_X8_count n (xs (Int32.toNatClampNeg (x3 + 1))) h) fun v142 h141 =>
            bif (am_in (x3 + 1) L) then
              am_b (M_X9_count n (xs (Int32.toNatClampNeg (x3 + 1))) h141) fun v144 h143 =>
              if v142 = v144 then
                L_L_law_18 n L xs m (x3 + 6) h143
              else
                some (0, h143)
            else none
          else none
        else
        if ((xs (Int32.toNatClampNeg x3)) &&& 63) = 37 then
          am_b (M_X8_digest n h) fun v146 h145 =>
          am_b (M_X9_digest n h145) fun v148 h147 =>
          if (lg_cmp v146 v148) = 0 then
            L_L_law_18 n L xs m (x3 + 6) h147
          else
            some (0, h147)
        else
          L_L_law_18 n L xs m (x3 + 6) h
      else none
set_option maxRecDepth 10000 in
set_option maxHeartbeats 20000000 in
theorem E_L_L_law_18 (n : Nat) (L : Nat) (xs : Nat → Int32) (vR : Int32) (hR : AH) : ∀ (m : Nat) (x3 : Int32) (h : AH), L_L_law_18 n L xs m x3 h = some (vR, hR) → Ev (some (L, xs)) mr_L_law (18, [(0, .ref 206), (1, .ref 0), (2, .ref 75), (3, .int x3)], [], h) (some (.int vR)) hR := by
  intro m
  induction m with
  | zero =>
    intro x3 h hM
    exact (am_no hM).elim
  | succ m ih =>
    intro x3 h hM
    rw [L_L_law_18] at hM
    refine Ev.steps (B := (24, [(0, .ref 206), (1, .ref 0), (2, .ref 75), (3, .int x3)], [.int ((Int32.ofNat L) - 6), .int x3], h)) 5 rfl ?_
    refine Ev.br (b := decide (((Int32.ofNat L) - 6) < x3)) rfl (fun c1 => ?_) (fun c1 => ?_)
    · have c1 := of_decide_eq_true c1
      rw [if_pos c1] at hM
      refine Ev.steps (B := (1283, [(0, .ref 206), (1, .ref 0), (2, .ref 75), (3, .int x3)], [.int 1], h)) 1 rfl ?_
      obtain ⟨rfl, rfl⟩ := am_sp hM
      exact Ev.ret rfl
    · have c1 := of_decide_eq_false c1
      rw [if_neg c1] at hM
      refine Ev.steps (B := (29, [(0, .ref 206), (1, .ref 0), (2, .ref 75), (3, .int x3)], [.int x3, .ref 206], h)) 2 rfl ?_
      obtain ⟨g2, hM⟩ := am_gS hM
      refine Ev.g (B := (30, [(0, .ref 206), (1, .ref 0), (2, .ref 75), (3, .int x3)], [.int (xs (Int32.toNatClampNeg x3))], h)) g2 rfl ?_
      refine Ev.steps (B := (33, [(0, .ref 206), (1, .ref 0), (2, .ref 75), (3, .int x3)], [.int ((xs (Int32.toNatClampNeg x3)) &&& 63)], h)) 2 rfl ?_
      refine Ev.step (B := (am_sel ((xs (Int32.toNatClampNeg x3)) &&& 63) [(0, 200), (1, 233), (2, 256), (3, 279), (4, 302), (5, 335), (6, 368), (7, 401), (8, 444), (9, 457), (10, 480), (11, 513), (12, 556), (13, 579), (14, 602), (15, 615), (16, 638), (17, 661), (18, 674), (19, 707), (20, 730), (21, 763), (22, 786), (23, 819), (24, 832), (25, 845), (26, 858), (27, 881), (28, 894), (29, 938), (30, 981), (31, 1024), (32, 1047), (33, 1100), (34, 1143), (35, 1206), (36, 1239), (37, 1262)] 1276, [(0, .ref 206), (1, .ref 0), (2, .ref 75), (3, .int x3)], [], h)) rfl ?_
      refine Ev.sw (fun c3 => ?_) (fun c3 => ?_)
      · rw [if_pos c3] at hM
        refine Ev.steps (B := (205, [(0, .ref 206), (1, .ref 0), (2, .ref 75), (3, .int x3)], [.int (x3 + 1), .ref 206, .ref 0], h)) 5 rfl ?_
        obtain ⟨g4, hM⟩ := am_gS hM
        refine Ev.g (B := (206, [(0, .ref 206), (1, .ref 0), (2, .ref 75), (3, .int x3)], [.int (xs (Int32.toNatClampNeg (x3 + 1))), .ref 0], h)) g4 rfl ?_
        refine Ev.steps (B := (210, [(0, .ref 206), (1, .ref 0), (2, .ref 75), (3, .int x3)], [.int (x3 + 2), .ref 206, .int (xs (Int32.toNatClampNeg (x3 + 1))), .ref 0], h)) 4 rfl ?_
        obtain ⟨g5, hM⟩ := am_gS hM
        refine Ev.g (B := (211, [(0, .ref 206), (1, .ref 0), (2, .ref 75), (3, .int x3)], [.int (xs (Int32.toNatClampNeg (x3 + 2))), .int (xs (Int32.toNatClampNeg (x3 + 1))), .ref 0], h)) g5 rfl ?_
        obtain ⟨v2, h1, e6, hM⟩ := am_bS hM
        refine Ev.call (q := (mr_X8_type, [.ref 0, .int (xs (Int32.toNatClampNeg (x3 + 1))), .int (xs (Int32.toNatClampNeg (x3 + 2)))], [])) rfl (E_X8_type_0 n (xs (Int32.toNatClampNeg (x3 + 1))) (xs (Int32.toNatClampNeg (x3 + 2))) h v2 h1 e6) ?_
        refine Ev.steps (B := (219, [(0, .ref 206), (1, .ref 0), (2, .ref 75), (3, .int x3)], [.int (x3 + 1), .ref 206, .ref 75, .int v2], h1)) 5 rfl ?_
        obtain ⟨g7, hM⟩ := am_gS hM
        refine Ev.g (B := (220, [(0, .ref 206), (1, .ref 0), (2, .ref 75), (3, .int x3)], [.int (xs (Int32.toNatClampNeg (x3 + 1))), .ref 75, .int v2], h1)) g7 rfl ?_
        refine Ev.steps (B := (224, [(0, .ref 206), (1, .ref 0), (2, .ref 75), (3, .int x3)], [.int (x3 + 2), .ref 206, .int (xs (Int32.toNatClampNeg (x3 + 1))), .ref 75, .int v2], h1)) 4 rfl ?_
        obtain ⟨g8, hM⟩ := am_gS hM
        refine Ev.g (B := (225, [(0, .ref 206), (1, .ref 0), (2, .ref 75), (3, .int x3)], [.int (xs (Int32.toNatClampNeg (x3 + 2))), .int (xs (Int32.toNatClampNeg (x3 + 1))), .ref 75, .int v2], h1)) g8 rfl ?_
        obtain ⟨v4, h3, e9, hM⟩ := am_bS hM
        refine Ev.call (q := (mr_X9_type, [.ref 75, .int (xs (Int32.toNatClampNeg (x3 + 1))), .int (xs (Int32.toNatClampNeg (x3 + 2)))], [.int v2])) rfl (E_X9_type_75 (xs (Int32.toNatClampNeg (x3 + 1))) (xs (Int32.toNatClampNeg (x3 + 2))) h1 v4 h3 e9) ?_
        refine Ev.br (b := decide (v2 = v4)) rfl (fun c10 => ?_) (fun c10 => ?_)
        · have c10 := of_decide_eq_true c10
          rw [if_pos c10] at hM
          refine Ev.steps (B := (18, [(3, .int (x3 + 6)), (0, .ref 206), (1, .ref 0), (2, .ref 75)], [], h3)) 2 rfl ?_
          refine Ev.lv (lv := [(0, .ref 206), (1, .ref 0), (2, .ref 75), (3, .int (x3 + 6))]) ⟨rfl, rfl, rfl, rfl, trivial⟩ rfl rfl ?_
          exact ih (x3 + 6) h3 hM
        · have c10 := of_decide_eq_false c10
          rw [if_neg c10] at hM
          refine Ev.steps (B := (232, [(0, .ref 206), (1, .ref 0), (2, .ref 75), (3, .int x3)], [.int 0], h3)) 1 rfl ?_
          obtain ⟨rfl, rfl⟩ := am_sp hM
          exact Ev.ret rfl
      · rw [if_neg c3] at hM
        refine Ev.sw (fun c11 => ?_) (fun c11 => ?_)
        · rw [if_pos c11] at hM
          refine Ev.steps (B := (238, [(0, .ref 206), (1, .ref 0), (2, .ref 75), (3, .int x3)], [.int (x3 + 1), .ref 206, .ref 0], h)) 5 rfl ?_
          obtain ⟨g12, hM⟩ := am_gS hM
          refine Ev.g (B := (239, [(0, .ref 206), (1, .ref 0), (2, .ref 75), (3, .int x3)], [.int (xs (Int32.toNatClampNeg (x3 + 1))), .ref 0], h)) g12 rfl ?_
          obtain ⟨v6, h5, e13, hM⟩ := am_bS hM
          refine Ev.call (q := (mr_X8_wipe, [.ref 0, .int (xs (Int32.toNatClampNeg (x3 + 1)))], [])) rfl (E_X8_wipe_0 n (xs (Int32.toNatClampNeg (x3 + 1))) h v6 h5 e13) ?_
          refine Ev.steps (B := (247, [(0, .ref 206), (1, .ref 0), (2, .ref 75), (3, .int x3)], [.int (x3 + 1), .ref 206, .ref 75, .int v6], h5)) 5 rfl ?_
          obtain ⟨g14, hM⟩ := am_gS hM
          refine Ev.g (B := (248, [(0, .ref 206), (1, .ref 0), (2, .ref 75), (3, .int x3)], [.int (xs (Int32.toNatClampNeg (x3 + 1))), .ref 75, .int v6], h5)) g14 rfl ?_
          obtain ⟨v8, h7, e15, hM⟩ := am_bS hM
          refine Ev.call (q := (mr_X9_wipe, [.ref 75, .int (xs (Int32.toNatClampNeg (x3 + 1)))], [.int v6])) rfl (E_X9_wipe_75 (xs (Int32.toNatClampNeg (x3 + 1))) h5 v8 h7 e15) ?_
          refine Ev.br (b := decide (v6 = v8)) rfl (fun c16 => ?_) (fun c16 => ?_)
          · have c16 := of_decide_eq_true c16
            rw [if_pos c16] at hM
            refine Ev.steps (B := (18, [(3, .int (x3 + 6)), (0, .ref 206), (1, .ref 0), (2, .ref 75)], [], h7)) 2 rfl ?_
            refine Ev.lv (lv := [(0, .ref 206), (1, .ref 0), (2, .ref 75), (3, .int (x3 + 6))]) ⟨rfl, rfl, rfl, rfl, trivial⟩ rfl rfl ?_
            exact ih (x3 + 6) h7 hM
          · have c16 := of_decide_eq_false c16
            rw [if_neg c16] at hM
            refine Ev.steps (B := (255, [(0, .ref 206), (1, .ref 0), (2, .ref 75), (3, .int x3)], [.int 0], h7)) 1 rfl ?_
            obtain ⟨rfl, rfl⟩ := am_sp hM
            exact Ev.ret rfl
        · rw [if_neg c11] at hM
          refine Ev.sw (fun c17 => ?_) (fun c17 => ?_)
          · rw [if_pos c17] at hM
            refine Ev.steps (B := (261, [(0, .ref 206), (1, .ref 0), (2, .ref 75), (3, .int x3)], [.int (x3 + 1), .ref 206, .ref 0], h)) 5 rfl ?_
            obtain ⟨g18, hM⟩ := am_gS hM
            refine Ev.g (B := (262, [(0, .ref 206), (1, .ref 0), (2, .ref 75), (3, .int x3)], [.int (xs (Int32.toNatClampNeg (x3 + 1))), .ref 0], h)) g18 rfl ?_
            obtain ⟨v10, h9, e19, hM⟩ := am_bS hM
            refine Ev.call (q := (mr_X8_undo, [.ref 0, .int (xs (Int32.toNatClampNeg (x3 + 1)))], [])) rfl (E_X8_undo_0 n (xs (Int32.toNatClampNeg (x3 + 1))) h v10 h9 e19) ?_
            refine Ev.steps (B := (270, [(0, .ref 206), (1, .ref 0), (2, .ref 75), (3, .int x3)], [.int (x3 + 1), .ref 206, .ref 75, .int v10], h9)) 5 rfl ?_
            obtain ⟨g20, hM⟩ := am_gS hM
            refine Ev.g (B := (271, [(0, .ref 206), (1, .ref 0), (2, .ref 75), (3, .int x3)], [.int (xs (Int32.toNatClampNeg (x3 + 1))), .ref 75, .int v10], h9)) g20 rfl ?_
            obtain ⟨v12, h11, e21, hM⟩ := am_bS hM
            refine Ev.call (q := (mr_X9_undo, [.ref 75, .int (xs (Int32.toNatClampNeg (x3 + 1)))], [.int v10])) rfl (E_X9_undo_75 (xs (Int32.toNatClampNeg (x3 + 1))) h9 v12 h11 e21) ?_
            refine Ev.br (b := decide (v10 = v12)) rfl (fun c22 => ?_) (fun c22 => ?_)
            · have c22 := of_decide_eq_true c22
              rw [if_pos c22] at hM
              refine Ev.steps (B := (18, [(3, .int (x3 + 6)), (0, .ref 206), (1, .ref 0), (2, .ref 75)], [], h11)) 2 rfl ?_
              refine Ev.lv (lv := [(0, .ref 206), (1, .ref 0), (2, .ref 75), (3, .int (x3 + 6))]) ⟨rfl, rfl, rfl, rfl, trivial⟩ rfl rfl ?_
              exact ih (x3 + 6) h11 hM
            · have c22 := of_decide_eq_false c22
              rw [if_neg c22] at hM
              refine Ev.steps (B := (278, [(0, .ref 206), (1, .ref 0), (2, .ref 75), (3, .int x3)], [.int 0], h11)) 1 rfl ?_
              obtain ⟨rfl, rfl⟩ := am_sp hM
              exact Ev.ret rfl
          · rw [if_neg c17] at hM
            refine Ev.sw (fun c23 => ?_) (fun c23 => ?_)
            · rw [if_pos c23] at hM
              refine Ev.steps (B := (284, [(0, .ref 206), (1, .ref 0), (2, .ref 75), (3, .int x3)], [.int (x3 + 1), .ref 206, .ref 0], h)) 5 rfl ?_
              obtain ⟨g24, hM⟩ := am_gS hM
              refine Ev.g (B := (285, [(0, .ref 206), (1, .ref 0), (2, .ref 75), (3, .int x3)], [.int (xs (Int32.toNatClampNeg (x3 + 1))), .ref 0], h)) g24 rfl ?_
              refine Ev.call (q := (mr_X8_fault, [.ref 0, .int (xs (Int32.toNatClampNeg (x3 + 1)))], [])) rfl (E_X8_fault_0 (xs (Int32.toNatClampNeg (x3 + 1))) h) ?_
              refine Ev.steps (B := (293, [(0, .ref 206), (1, .ref 0), (2, .ref 75), (3, .int x3)], [.int (x3 + 1), .ref 206, .ref 75, .int (M_X8_fault (xs (Int32.toNatClampNeg (x3 + 1))) h)], h)) 5 rfl ?_
              obtain ⟨g25, hM⟩ := am_gS hM
              refine Ev.g (B := (294, [(0, .ref 206), (1, .ref 0), (2, .ref 75), (3, .int x3)], [.int (xs (Int32.toNatClampNeg (x3 + 1))), .ref 75, .int (M_X8_fault (xs (Int32.toNatClampNeg (x3 + 1))) h)], h)) g25 rfl ?_
              obtain ⟨v14, h13, e26, hM⟩ := am_bS hM
              refine Ev.call (q := (mr_X9_fault, [.ref 75, .int (xs (Int32.toNatClampNeg (x3 + 1)))], [.int (M_X8_fault (xs (Int32.toNatClampNeg (x3 + 1))) h)])) rfl (E_X9_fault_75 n (xs (Int32.toNatClampNeg (x3 + 1))) h v14 h13 e26) ?_
              refine Ev.br (b := decide ((M_X8_fault (xs (Int32.toNatClampNeg (x3 + 1))) h) = v14)) rfl (fun c27 => ?_) (fun c27 => ?_)
              · have c27 := of_decide_eq_true c27
                rw [if_pos c27] at hM
                refine Ev.steps (B := (18, [(3, .int (x3 + 6)), (0, .ref 206), (1, .ref 0), (2, .ref 75)], [], h13)) 2 rfl ?_
                refine Ev.lv (lv := [(0, .ref 206), (1, .ref 0), (2, .ref 75), (3, .int (x3 + 6))]) ⟨rfl, rfl, rfl, rfl, trivial⟩ rfl rfl ?_
                exact ih (x3 + 6) h13 hM
              · have c27 := of_decide_eq_false c27
                rw [if_neg c27] at hM
                refine Ev.steps (B := (301, [(0, .ref 206), (1, .ref 0), (2, .ref 75), (3, .int x3)], [.int 0], h13)) 1 rfl ?_
                obtain ⟨rfl, rfl⟩ := am_sp hM
                exact Ev.ret rfl
            · rw [if_neg c23] at hM
              refine Ev.sw (fun c28 => ?_) (fun c28 => ?_)
              · rw [if_pos c28] at hM
                refine Ev.steps (B := (307, [(0, .ref 206), (1, .ref 0), (2, .ref 75), (3, .int x3)], [.int (x3 + 1), .ref 206, .ref 0], h)) 5 rfl ?_
                obtain ⟨g29, hM⟩ := am_gS hM
                refine Ev.g (B := (308, [(0, .ref 206), (1, .ref 0), (2, .ref 75), (3, .int x3)], [.int (xs (Int32.toNatClampNeg (x3 + 1))), .ref 0], h)) g29 rfl ?_
                refine Ev.steps (B := (312, [(0, .ref 206), (1, .ref 0), (2, .ref 75), (3, .int x3)], [.int (x3 + 2), .ref 206, .int (xs (Int32.toNatClampNeg (x3 + 1))), .ref 0], h)) 4 rfl ?_
                obtain ⟨g30, hM⟩ := am_gS hM
                refine Ev.g (B := (313, [(0, .ref 206), (1, .ref 0), (2, .ref 75), (3, .int x3)], [.int (xs (Int32.toNatClampNeg (x3 + 2))), .int (xs (Int32.toNatClampNeg (x3 + 1))), .ref 0], h)) g30 rfl ?_
                obtain ⟨v15, e31, hM⟩ := am_oS hM
                refine Ev.call (q := (mr_X8_piece, [.ref 0, .int (xs (Int32.toNatClampNeg (x3 + 1))), .int (xs (Int32.toNatClampNeg (x3 + 2)))], [])) rfl (E_X8_piece_0 (xs (Int32.toNatClampNeg (x3 + 1))) (xs (Int32.toNatClampNeg (x3 + 2))) h v15 e31) ?_
                refine Ev.steps (B := (321, [(0, .ref 206), (1, .ref 0), (2, .ref 75), (3, .int x3)], [.int (x3 + 1), .ref 206, .ref 75, .int v15], h)) 5 rfl ?_
                obtain ⟨g32, hM⟩ := am_gS hM
                refine Ev.g (B := (322, [(0, .ref 206), (1, .ref 0), (2, .ref 75), (3, .int x3)], [.int (xs (Int32.toNatClampNeg (x3 + 1))), .ref 75, .int v15], h)) g32 rfl ?_
                refine Ev.steps (B := (326, [(0, .ref 206), (1, .ref 0), (2, .ref 75), (3, .int x3)], [.int (x3 + 2), .ref 206, .int (xs (Int32.toNatClampNeg (x3 + 1))), .ref 75, .int v15], h)) 4 rfl ?_
                obtain ⟨g33, hM⟩ := am_gS hM
                refine Ev.g (B := (327, [(0, .ref 206), (1, .ref 0), (2, .ref 75), (3, .int x3)], [.int (xs (Int32.toNatClampNeg (x3 + 2))), .int (xs (Int32.toNatClampNeg (x3 + 1))), .ref 75, .int v15], h)) g33 rfl ?_
                obtain ⟨v17, h16, e34, hM⟩ := am_bS hM
                refine Ev.call (q := (mr_X9_piece, [.ref 75, .int (xs (Int32.toNatClampNeg (x3 + 1))), .int (xs (Int32.toNatClampNeg (x3 + 2)))], [.int v15])) rfl (E_X9_piece_75 n (xs (Int32.toNatClampNeg (x3 + 1))) (xs (Int32.toNatClampNeg (x3 + 2))) h v17 h16 e34) ?_
                refine Ev.br (b := decide (v15 = v17)) rfl (fun c35 => ?_) (fun c35 => ?_)
                · have c35 := of_decide_eq_true c35
                  rw [if_pos c35] at hM
                  refine Ev.steps (B := (18, [(3, .int (x3 + 6)), (0, .ref 206), (1, .ref 0), (2, .ref 75)], [], h16)) 2 rfl ?_
                  refine Ev.lv (lv := [(0, .ref 206), (1, .ref 0), (2, .ref 75), (3, .int (x3 + 6))]) ⟨rfl, rfl, rfl, rfl, trivial⟩ rfl rfl ?_
                  exact ih (x3 + 6) h16 hM
                · have c35 := of_decide_eq_false c35
                  rw [if_neg c35] at hM
                  refine Ev.steps (B := (334, [(0, .ref 206), (1, .ref 0), (2, .ref 75), (3, .int x3)], [.int 0], h16)) 1 rfl ?_
                  obtain ⟨rfl, rfl⟩ := am_sp hM
                  exact Ev.ret rfl
              · rw [if_neg c28] at hM
                refine Ev.sw (fun c36 => ?_) (fun c36 => ?_)
                · rw [if_pos c36] at hM
                  refine Ev.steps (B := (340, [(0, .ref 206), (1, .ref 0), (2, .ref 75), (3, .int x3)], [.int (x3 + 1), .ref 206, .ref 0], h)) 5 rfl ?_
                  obtain ⟨g37, hM⟩ := am_gS hM
                  refine Ev.g (B := (341, [(0, .ref 206), (1, .ref 0), (2, .ref 75), (3, .int x3)], [.int (xs (Int32.toNatClampNeg (x3 + 1))), .ref 0], h)) g37 rfl ?_
                  refine Ev.steps (B := (345, [(0, .ref 206), (1, .ref 0), (2, .ref 75), (3, .int x3)], [.int (x3 + 2), .ref 206, .int (xs (Int32.toNatClampNeg (x3 + 1))), .ref 0], h)) 4 rfl ?_
                  obtain ⟨g38, hM⟩ := am_gS hM
                  refine Ev.g (B := (346, [(0, .ref 206), (1, .ref 0), (2, .ref 75), (3, .int x3)], [.int (xs (Int32.toNatClampNeg (x3 + 2))), .int (xs (Int32.toNatClampNeg (x3 + 1))), .ref 0], h)) g38 rfl ?_
                  obtain ⟨v18, e39, hM⟩ := am_oS hM
                  refine Ev.call (q := (mr_X8_guest, [.ref 0, .int (xs (Int32.toNatClampNeg (x3 + 1))), .int (xs (Int32.toNatClampNeg (x3 + 2)))], [])) rfl (E_X8_guest_0 (xs (Int32.toNatClampNeg (x3 + 1))) (xs (Int32.toNatClampNeg (x3 + 2))) h v18 e39) ?_
                  refine Ev.steps (B := (354, [(0, .ref 206), (1, .ref 0), (2, .ref 75), (3, .int x3)], [.int (x3 + 1), .ref 206, .ref 75, .int v18], h)) 5 rfl ?_
                  obtain ⟨g40, hM⟩ := am_gS hM
                  refine Ev.g (B := (355, [(0, .ref 206), (1, .ref 0), (2, .ref 75), (3, .int x3)], [.int (xs (Int32.toNatClampNeg (x3 + 1))), .ref 75, .int v18], h)) g40 rfl ?_
                  refine Ev.steps (B := (359, [(0, .ref 206), (1, .ref 0), (2, .ref 75), (3, .int x3)], [.int (x3 + 2), .ref 206, .int (xs (Int32.toNatClampNeg (x3 + 1))), .ref 75, .int v18], h)) 4 rfl ?_
                  obtain ⟨g41, hM⟩ := am_gS hM
                  refine Ev.g (B := (360, [(0, .ref 206), (1, .ref 0), (2, .ref 75), (3, .int x3)], [.int (xs (Int32.toNatClampNeg (x3 + 2))), .int (xs (Int32.toNatClampNeg (x3 + 1))), .ref 75, .int v18], h)) g41 rfl ?_
                  obtain ⟨v20, h19, e42, hM⟩ := am_bS hM
                  refine Ev.call (q := (mr_X9_guest, [.ref 75, .int (xs (Int32.toNatClampNeg (x3 + 1))), .int (xs (Int32.toNatClampNeg (x3 + 2)))], [.int v18])) rfl (E_X9_guest_75 n (xs (Int32.toNatClampNeg (x3 + 1))) (xs (Int32.toNatClampNeg (x3 + 2))) h v20 h19 e42) ?_
                  refine Ev.br (b := decide (v18 = v20)) rfl (fun c43 => ?_) (fun c43 => ?_)
                  · have c43 := of_decide_eq_true c43
                    rw [if_pos c43] at hM
                    refine Ev.steps (B := (18, [(3, .int (x3 + 6)), (0, .ref 206), (1, .ref 0), (2, .ref 75)], [], h19)) 2 rfl ?_
                    refine Ev.lv (lv := [(0, .ref 206), (1, .ref 0), (2, .ref 75), (3, .int (x3 + 6))]) ⟨rfl, rfl, rfl, rfl, trivial⟩ rfl rfl ?_
                    exact ih (x3 + 6) h19 hM
                  · have c43 := of_decide_eq_false c43
                    rw [if_neg c43] at hM
                    refine Ev.steps (B := (367, [(0, .ref 206), (1, .ref 0), (2, .ref 75), (3, .int x3)], [.int 0], h19)) 1 rfl ?_
                    obtain ⟨rfl, rfl⟩ := am_sp hM
                    exact Ev.ret rfl
                · rw [if_neg c36] at hM
                  refine Ev.sw (fun c44 => ?_) (fun c44 => ?_)
                  · rw [if_pos c44] at hM
                    refine Ev.steps (B := (373, [(0, .ref 206), (1, .ref 0), (2, .ref 75), (3, .int x3)], [.int (x3 + 1), .ref 206, .ref 0], h)) 5 rfl ?_
                    obtain ⟨g45, hM⟩ := am_gS hM
                    refine Ev.g (B := (374, [(0, .ref 206), (1, .ref 0), (2, .ref 75), (3, .int x3)], [.int (xs (Int32.toNatClampNeg (x3 + 1))), .ref 0], h)) g45 rfl ?_
                    refine Ev.steps (B := (378, [(0, .ref 206), (1, .ref 0), (2, .ref 75), (3, .int x3)], [.int (x3 + 2), .ref 206, .int (xs (Int32.toNatClampNeg (x3 + 1))), .ref 0], h)) 4 rfl ?_
                    obtain ⟨g46, hM⟩ := am_gS hM
                    refine Ev.g (B := (379, [(0, .ref 206), (1, .ref 0), (2, .ref 75), (3, .int x3)], [.int (xs (Int32.toNatClampNeg (x3 + 2))), .int (xs (Int32.toNatClampNeg (x3 + 1))), .ref 0], h)) g46 rfl ?_
                    obtain ⟨v22, h21, e47, hM⟩ := am_bS hM
                    refine Ev.call (q := (mr_X8_set, [.ref 0, .int (xs (Int32.toNatClampNeg (x3 + 1))), .int (xs (Int32.toNatClampNeg (x3 + 2)))], [])) rfl (E_X8_set_0 n (xs (Int32.toNatClampNeg (x3 + 1))) (xs (Int32.toNatClampNeg (x3 + 2))) h v22 h21 e47) ?_
                    refine Ev.steps (B := (387, [(0, .ref 206), (1, .ref 0), (2, .ref 75), (3, .int x3)], [.int (x3 + 1), .ref 206, .ref 75, .int v22], h21)) 5 rfl ?_
                    obtain ⟨g48, hM⟩ := am_gS hM
                    refine Ev.g (B := (388, [(0, .ref 206), (1, .ref 0), (2, .ref 75), (3, .int x3)], [.int (xs (Int32.toNatClampNeg (x3 + 1))), .ref 75, .int v22], h21)) g48 rfl ?_
                    refine Ev.steps (B := (392, [(0, .ref 206), (1, .ref 0), (2, .ref 75), (3, .int x3)], [.int (x3 + 2), .ref 206, .int (xs (Int32.toNatClampNeg (x3 + 1))), .ref 75, .int v22], h21)) 4 rfl ?_
                    obtain ⟨g49, hM⟩ := am_gS hM
                    refine Ev.g (B := (393, [(0, .ref 206), (1, .ref 0), (2, .ref 75), (3, .int x3)], [.int (xs (Int32.toNatClampNeg (x3 + 2))), .int (xs (Int32.toNatClampNeg (x3 + 1))), .ref 75, .int v22], h21)) g49 rfl ?_
                    obtain ⟨v24, h23, e50, hM⟩ := am_bS hM
                    refine Ev.call (q := (mr_X9_set, [.ref 75, .int (xs (Int32.toNatClampNeg (x3 + 1))), .int (xs (Int32.toNatClampNeg (x3 + 2)))], [.int v22])) rfl (E_X9_set_75 (xs (Int32.toNatClampNeg (x3 + 1))) (xs (Int32.toNatClampNeg (x3 + 2))) h21 v24 h23 e50) ?_
                    refine Ev.br (b := decide (v22 = v24)) rfl (fun c51 => ?_) (fun c51 => ?_)
                    · have c51 := of_decide_eq_true c51
                      rw [if_pos c51] at hM
                      refine Ev.steps (B := (18, [(3, .int (x3 + 6)), (0, .ref 206), (1, .ref 0), (2, .ref 75)], [], h23)) 2 rfl ?_
                      refine Ev.lv (lv := [(0, .ref 206), (1, .ref 0), (2, .ref 75), (3, .int (x3 + 6))]) ⟨rfl, rfl, rfl, rfl, trivial⟩ rfl rfl ?_
                      exact ih (x3 + 6) h23 hM
                    · have c51 := of_decide_eq_false c51
                      rw [if_neg c51] at hM
                      refine Ev.steps (B := (400, [(0, .ref 206), (1, .ref 0), (2, .ref 75), (3, .int x3)], [.int 0], h23)) 1 rfl ?_
                      obtain ⟨rfl, rfl⟩ := am_sp hM
                      exact Ev.ret rfl
                  · rw [if_neg c44] at hM
                    refine Ev.sw (fun c52 => ?_) (fun c52 => ?_)
                    · rw [if_pos c52] at hM
                      refine Ev.steps (B := (406, [(0, .ref 206), (1, .ref 0), (2, .ref 75), (3, .int x3)], [.int (x3 + 1), .ref 206, .ref 0], h)) 5 rfl ?_
                      obtain ⟨g53, hM⟩ := am_gS hM
                      refine Ev.g (B := (407, [(0, .ref 206), (1, .ref 0), (2, .ref 75), (3, .int x3)], [.int (xs (Int32.toNatClampNeg (x3 + 1))), .ref 0], h)) g53 rfl ?_
                      refine Ev.steps (B := (411, [(0, .ref 206), (1, .ref 0), (2, .ref 75), (3, .int x3)], [.int (x3 + 2), .ref 206, .int (xs (Int32.toNatClampNeg (x3 + 1))), .ref 0], h)) 4 rfl ?_
                      obtain ⟨g54, hM⟩ := am_gS hM
                      refine Ev.g (B := (412, [(0, .ref 206), (1, .ref 0), (2, .ref 75), (3, .int x3)], [.int (xs (Int32.toNatClampNeg (x3 + 2))), .int (xs (Int32.toNatClampNeg (x3 + 1))), .ref 0], h)) g54 rfl ?_
                      refine Ev.steps (B := (416, [(0, .ref 206), (1, .ref 0), (2, .ref 75), (3, .int x3)], [.int (x3 + 3), .ref 206, .int (xs (Int32.toNatClampNeg (x3 + 2))), .int (xs (Int32.toNatClampNeg (x3 + 1))), .ref 0], h)) 4 rfl ?_
                      obtain ⟨g55, hM⟩ := am_gS hM
                      refine Ev.g (B := (417, [(0, .ref 206), (1, .ref 0), (2, .ref 75), (3, .int x3)], [.int (xs (Int32.toNatClampNeg (x3 + 3))), .int (xs (Int32.toNatClampNeg (x3 + 2))), .int (xs (Int32.toNatClampNeg (x3 + 1))), .ref 0], h)) g55 rfl ?_
                      obtain ⟨v26, h25, e56, hM⟩ := am_bS hM
                      refine Ev.call (q := (mr_X8_event, [.ref 0, .int (xs (Int32.toNatClampNeg (x3 + 1))), .int (xs (Int32.toNatClampNeg (x3 + 2))), .int (xs (Int32.toNatClampNeg (x3 + 3)))], [])) rfl (E_X8_event_0 n (xs (Int32.toNatClampNeg (x3 + 1))) (xs (Int32.toNatClampNeg (x3 + 2))) (xs (Int32.toNatClampNeg (x3 + 3))) h v26 h25 e56) ?_
                      refine Ev.steps (B := (425, [(0, .ref 206), (1, .ref 0), (2, .ref 75), (3, .int x3)], [.int (x3 + 1), .ref 206, .ref 75, .int v26], h25)) 5 rfl ?_
                      obtain ⟨g57, hM⟩ := am_gS hM
                      refine Ev.g (B := (426, [(0, .ref 206), (1, .ref 0), (2, .ref 75), (3, .int x3)], [.int (xs (Int32.toNatClampNeg (x3 + 1))), .ref 75, .int v26], h25)) g57 rfl ?_
                      refine Ev.steps (B := (430, [(0, .ref 206), (1, .ref 0), (2, .ref 75), (3, .int x3)], [.int (x3 + 2), .ref 206, .int (xs (Int32.toNatClampNeg (x3 + 1))), .ref 75, .int v26], h25)) 4 rfl ?_
                      obtain ⟨g58, hM⟩ := am_gS hM
                      refine Ev.g (B := (431, [(0, .ref 206), (1, .ref 0), (2, .ref 75), (3, .int x3)], [.int (xs (Int32.toNatClampNeg (x3 + 2))), .int (xs (Int32.toNatClampNeg (x3 + 1))), .ref 75, .int v26], h25)) g58 rfl ?_
                      refine Ev.steps (B := (435, [(0, .ref 206), (1, .ref 0), (2, .ref 75), (3, .int x3)], [.int (x3 + 3), .ref 206, .int (xs (Int32.toNatClampNeg (x3 + 2))), .int (xs (Int32.toNatClampNeg (x3 + 1))), .ref 75, .int v26], h25)) 4 rfl ?_
                      obtain ⟨g59, hM⟩ := am_gS hM
                      refine Ev.g (B := (436, [(0, .ref 206), (1, .ref 0), (2, .ref 75), (3, .int x3)], [.int (xs (Int32.toNatClampNeg (x3 + 3))), .int (xs (Int32.toNatClampNeg (x3 + 2))), .int (xs (Int32.toNatClampNeg (x3 + 1))), .ref 75, .int v26], h25)) g59 rfl ?_
                      obtain ⟨v28, h27, e60, hM⟩ := am_bS hM
                      refine Ev.call (q := (mr_X9_event, [.ref 75, .int (xs (Int32.toNatClampNeg (x3 + 1))), .int (xs (Int32.toNatClampNeg (x3 + 2))), .int (xs (Int32.toNatClampNeg (x3 + 3)))], [.int v26])) rfl (E_X9_event_75 (xs (Int32.toNatClampNeg (x3 + 1))) (xs (Int32.toNatClampNeg (x3 + 2))) (xs (Int32.toNatClampNeg (x3 + 3))) h25 v28 h27 e60) ?_
                      refine Ev.br (b := decide (v26 = v28)) rfl (fun c61 => ?_) (fun c61 => ?_)
                      · have c61 := of_decide_eq_true c61
                        rw [if_pos c61] at hM
                        refine Ev.steps (B := (18, [(3, .int (x3 + 6)), (0, .ref 206), (1, .ref 0), (2, .ref 75)], [], h27)) 2 rfl ?_
                        refine Ev.lv (lv := [(0, .ref 206), (1, .ref 0), (2, .ref 75), (3, .int (x3 + 6))]) ⟨rfl, rfl, rfl, rfl, trivial⟩ rfl rfl ?_
                        exact ih (x3 + 6) h27 hM
                      · have c61 := of_decide_eq_false c61
                        rw [if_neg c61] at hM
                        refine Ev.steps (B := (443, [(0, .ref 206), (1, .ref 0), (2, .ref 75), (3, .int x3)], [.int 0], h27)) 1 rfl ?_
                        obtain ⟨rfl, rfl⟩ := am_sp hM
                        exact Ev.ret rfl
                    · rw [if_neg c52] at hM
                      refine Ev.sw (fun c62 => ?_) (fun c62 => ?_)
                      · rw [if_pos c62] at hM
                        refine Ev.steps (B := (445, [(0, .ref 206), (1, .ref 0), (2, .ref 75), (3, .int x3)], [.ref 0], h)) 1 rfl ?_
                        obtain ⟨v30, h29, e63, hM⟩ := am_bS hM
                        refine Ev.call (q := (mr_X8_back, [.ref 0], [])) rfl (E_X8_back_0 n h v30 h29 e63) ?_
                        refine Ev.steps (B := (449, [(0, .ref 206), (1, .ref 0), (2, .ref 75), (3, .int x3)], [.ref 75, .int v30], h29)) 1 rfl ?_
                        obtain ⟨v32, h31, e64, hM⟩ := am_bS hM
                        refine Ev.call (q := (mr_X9_back, [.ref 75], [.int v30])) rfl (E_X9_back_75 h29 v32 h31 e64) ?_
                        refine Ev.br (b := decide (v30 = v32)) rfl (fun c65 => ?_) (fun c65 => ?_)
                        · have c65 := of_decide_eq_true c65
                          rw [if_pos c65] at hM
                          refine Ev.steps (B := (18, [(3, .int (x3 + 6)), (0, .ref 206), (1, .ref 0), (2, .ref 75)], [], h31)) 2 rfl ?_
                          refine Ev.lv (lv := [(0, .ref 206), (1, .ref 0), (2, .ref 75), (3, .int (x3 + 6))]) ⟨rfl, rfl, rfl, rfl, trivial⟩ rfl rfl ?_
                          exact ih (x3 + 6) h31 hM
                        · have c65 := of_decide_eq_false c65
                          rw [if_neg c65] at hM
                          refine Ev.steps (B := (456, [(0, .ref 206), (1, .ref 0), (2, .ref 75), (3, .int x3)], [.int 0], h31)) 1 rfl ?_
                          obtain ⟨rfl, rfl⟩ := am_sp hM
                          exact Ev.ret rfl
                      · rw [if_neg c62] at hM
                        refine Ev.sw (fun c66 => ?_) (fun c66 => ?_)
                        · rw [if_pos c66] at hM
                          refine Ev.steps (B := (462, [(0, .ref 206), (1, .ref 0), (2, .ref 75), (3, .int x3)], [.int (x3 + 1), .ref 206, .ref 0], h)) 5 rfl ?_
                          obtain ⟨g67, hM⟩ := am_gS hM
                          refine Ev.g (B := (463, [(0, .ref 206), (1, .ref 0), (2, .ref 75), (3, .int x3)], [.int (xs (Int32.toNatClampNeg (x3 + 1))), .ref 0], h)) g67 rfl ?_
                          obtain ⟨v34, h33, e68, hM⟩ := am_bS hM
                          refine Ev.call (q := (mr_X8_read, [.ref 0, .int (xs (Int32.toNatClampNeg (x3 + 1)))], [])) rfl (E_X8_read_0 n (xs (Int32.toNatClampNeg (x3 + 1))) h v34 h33 e68) ?_
                          refine Ev.steps (B := (471, [(0, .ref 206), (1, .ref 0), (2, .ref 75), (3, .int x3)], [.int (x3 + 1), .ref 206, .ref 75, .int v34], h33)) 5 rfl ?_
                          obtain ⟨g69, hM⟩ := am_gS hM
                          refine Ev.g (B := (472, [(0, .ref 206), (1, .ref 0), (2, .ref 75), (3, .int x3)], [.int (xs (Int32.toNatClampNeg (x3 + 1))), .ref 75, .int v34], h33)) g69 rfl ?_
                          obtain ⟨v36, h35, e70, hM⟩ := am_bS hM
                          refine Ev.call (q := (mr_X9_read, [.ref 75, .int (xs (Int32.toNatClampNeg (x3 + 1)))], [.int v34])) rfl (E_X9_read_75 n (xs (Int32.toNatClampNeg (x3 + 1))) h33 v36 h35 e70) ?_
                          refine Ev.br (b := decide (v34 = v36)) rfl (fun c71 => ?_) (fun c71 => ?_)
                          · have c71 := of_decide_eq_true c71
                            rw [if_pos c71] at hM
                            refine Ev.steps (B := (18, [(3, .int (x3 + 6)), (0, .ref 206), (1, .ref 0), (2, .ref 75)], [], h35)) 2 rfl ?_
                            refine Ev.lv (lv := [(0, .ref 206), (1, .ref 0), (2, .ref 75), (3, .int (x3 + 6))]) ⟨rfl, rfl, rfl, rfl, trivial⟩ rfl rfl ?_
                            exact ih (x3 + 6) h35 hM
                          · have c71 := of_decide_eq_false c71
                            rw [if_neg c71] at hM
                            refine Ev.steps (B := (479, [(0, .ref 206), (1, .ref 0), (2, .ref 75), (3, .int x3)], [.int 0], h35)) 1 rfl ?_
                            obtain ⟨rfl, rfl⟩ := am_sp hM
                            exact Ev.ret rfl
                        · rw [if_neg c66] at hM
                          refine Ev.sw (fun c72 => ?_) (fun c72 => ?_)
                          · rw [if_pos c72] at hM
                            refine Ev.steps (B := (485, [(0, .ref 206), (1, .ref 0), (2, .ref 75), (3, .int x3)], [.int (x3 + 1), .ref 206, .ref 0], h)) 5 rfl ?_
                            obtain ⟨g73, hM⟩ := am_gS hM
                            refine Ev.g (B := (486, [(0, .ref 206), (1, .ref 0), (2, .ref 75), (3, .int x3)], [.int (xs (Int32.toNatClampNeg (x3 + 1))), .ref 0], h)) g73 rfl ?_
                            refine Ev.steps (B := (490, [(0, .ref 206), (1, .ref 0), (2, .ref 75), (3, .int x3)], [.int (x3 + 2), .ref 206, .int (xs (Int32.toNatClampNeg (x3 + 1))), .ref 0], h)) 4 rfl ?_
                            obtain ⟨g74, hM⟩ := am_gS hM
                            refine Ev.g (B := (491, [(0, .ref 206), (1, .ref 0), (2, .ref 75), (3, .int x3)], [.int (xs (Int32.toNatClampNeg (x3 + 2))), .int (xs (Int32.toNatClampNeg (x3 + 1))), .ref 0], h)) g74 rfl ?_
                            obtain ⟨v38, h37, e75, hM⟩ := am_bS hM
                            refine Ev.call (q := (mr_X8_at, [.ref 0, .int (xs (Int32.toNatClampNeg (x3 + 1))), .int (xs (Int32.toNatClampNeg (x3 + 2)))], [])) rfl (E_X8_at_0 n (xs (Int32.toNatClampNeg (x3 + 1))) (xs (Int32.toNatClampNeg (x3 + 2))) h v38 h37 e75) ?_
                            refine Ev.steps (B := (499, [(0, .ref 206), (1, .ref 0), (2, .ref 75), (3, .int x3)], [.int (x3 + 1), .ref 206, .ref 75, .int v38], h37)) 5 rfl ?_
                            obtain ⟨g76, hM⟩ := am_gS hM
                            refine Ev.g (B := (500, [(0, .ref 206), (1, .ref 0), (2, .ref 75), (3, .int x3)], [.int (xs (Int32.toNatClampNeg (x3 + 1))), .ref 75, .int v38], h37)) g76 rfl ?_
                            refine Ev.steps (B := (504, [(0, .ref 206), (1, .ref 0), (2, .ref 75), (3, .int x3)], [.int (x3 + 2), .ref 206, .int (xs (Int32.toNatClampNeg (x3 + 1))), .ref 75, .int v38], h37)) 4 rfl ?_
                            obtain ⟨g77, hM⟩ := am_gS hM
                            refine Ev.g (B := (505, [(0, .ref 206), (1, .ref 0), (2, .ref 75), (3, .int x3)], [.int (xs (Int32.toNatClampNeg (x3 + 2))), .int (xs (Int32.toNatClampNeg (x3 + 1))), .ref 75, .int v38], h37)) g77 rfl ?_
                            obtain ⟨v40, h39, e78, hM⟩ := am_bS hM
                            refine Ev.call (q := (mr_X9_at, [.ref 75, .int (xs (Int32.toNatClampNeg (x3 + 1))), .int (xs (Int32.toNatClampNeg (x3 + 2)))], [.int v38])) rfl (E_X9_at_75 n (xs (Int32.toNatClampNeg (x3 + 1))) (xs (Int32.toNatClampNeg (x3 + 2))) h37 v40 h39 e78) ?_
                            refine Ev.br (b := decide (v38 = v40)) rfl (fun c79 => ?_) (fun c79 => ?_)
                            · have c79 := of_decide_eq_true c79
                              rw [if_pos c79] at hM
                              refine Ev.steps (B := (18, [(3, .int (x3 + 6)), (0, .ref 206), (1, .ref 0), (2, .ref 75)], [], h39)) 2 rfl ?_
                              refine Ev.lv (lv := [(0, .ref 206), (1, .ref 0), (2, .ref 75), (3, .int (x3 + 6))]) ⟨rfl, rfl, rfl, rfl, trivial⟩ rfl rfl ?_
                              exact ih (x3 + 6) h39 hM
                            · have c79 := of_decide_eq_false c79
                              rw [if_neg c79] at hM
                              refine Ev.steps (B := (512, [(0, .ref 206), (1, .ref 0), (2, .ref 75), (3, .int x3)], [.int 0], h39)) 1 rfl ?_
                              obtain ⟨rfl, rfl⟩ := am_sp hM
                              exact Ev.ret rfl
                          · rw [if_neg c72] at hM
                            refine Ev.sw (fun c80 => ?_) (fun c80 => ?_)
                            · rw [if_pos c80] at hM
                              refine Ev.steps (B := (518, [(0, .ref 206), (1, .ref 0), (2, .ref 75), (3, .int x3)], [.int (x3 + 1), .ref 206, .ref 0], h)) 5 rfl ?_
                              obtain ⟨g81, hM⟩ := am_gS hM
                              refine Ev.g (B := (519, [(0, .ref 206), (1, .ref 0), (2, .ref 75), (3, .int x3)], [.int (xs (Int32.toNatClampNeg (x3 + 1))), .ref 0], h)) g81 rfl ?_
                              refine Ev.steps (B := (523, [(0, .ref 206), (1, .ref 0), (2, .ref 75), (3, .int x3)], [.int (x3 + 2), .ref 206, .int (xs (Int32.toNatClampNeg (x3 + 1))), .ref 0], h)) 4 rfl ?_
                              obtain ⟨g82, hM⟩ := am_gS hM
                              refine Ev.g (B := (524, [(0, .ref 206), (1, .ref 0), (2, .ref 75), (3, .int x3)], [.int (xs (Int32.toNatClampNeg (x3 + 2))), .int (xs (Int32.toNatClampNeg (x3 + 1))), .ref 0], h)) g82 rfl ?_
                              refine Ev.steps (B := (528, [(0, .ref 206), (1, .ref 0), (2, .ref 75), (3, .int x3)], [.int (x3 + 3), .ref 206, .int (xs (Int32.toNatClampNeg (x3 + 2))), .int (xs (Int32.toNatClampNeg (x3 + 1))), .ref 0], h)) 4 rfl ?_
                              obtain ⟨g83, hM⟩ := am_gS hM
                              refine Ev.g (B := (529, [(0, .ref 206), (1, .ref 0), (2, .ref 75), (3, .int x3)], [.int (xs (Int32.toNatClampNeg (x3 + 3))), .int (xs (Int32.toNatClampNeg (x3 + 2))), .int (xs (Int32.toNatClampNeg (x3 + 1))), .ref 0], h)) g83 rfl ?_
                              obtain ⟨v42, h41, e84, hM⟩ := am_bS hM
                              refine Ev.call (q := (mr_X8_is, [.ref 0, .int (xs (Int32.toNatClampNeg (x3 + 1))), .int (xs (Int32.toNatClampNeg (x3 + 2))), .int (xs (Int32.toNatClampNeg (x3 + 3)))], [])) rfl (E_X8_is_0 n (xs (Int32.toNatClampNeg (x3 + 1))) (xs (Int32.toNatClampNeg (x3 + 2))) (xs (Int32.toNatClampNeg (x3 + 3))) h v42 h41 e84) ?_
                              refine Ev.steps (B := (537, [(0, .ref 206), (1, .ref 0), (2, .ref 75), (3, .int x3)], [.int (x3 + 1), .ref 206, .ref 75, .int v42], h41)) 5 rfl ?_
                              obtain ⟨g85, hM⟩ := am_gS hM
                              refine Ev.g (B := (538, [(0, .ref 206), (1, .ref 0), (2, .ref 75), (3, .int x3)], [.int (xs (Int32.toNatClampNeg (x3 + 1))), .ref 75, .int v42], h41)) g85 rfl ?_
                              refine Ev.steps (B := (542, [(0, .ref 206), (1, .ref 0), (2, .ref 75), (3, .int x3)], [.int (x3 + 2), .ref 206, .int (xs (Int32.toNatClampNeg (x3 + 1))), .ref 75, .int v42], h41)) 4 rfl ?_
                              obtain ⟨g86, hM⟩ := am_gS hM
                              refine Ev.g (B := (543, [(0, .ref 206), (1, .ref 0), (2, .ref 75), (3, .int x3)], [.int (xs (Int32.toNatClampNeg (x3 + 2))), .int (xs (Int32.toNatClampNeg (x3 + 1))), .ref 75, .int v42], h41)) g86 rfl ?_
                              refine Ev.steps (B := (547, [(0, .ref 206), (1, .ref 0), (2, .ref 75), (3, .int x3)], [.int (x3 + 3), .ref 206, .int (xs (Int32.toNatClampNeg (x3 + 2))), .int (xs (Int32.toNatClampNeg (x3 + 1))), .ref 75, .int v42], h41)) 4 rfl ?_
                              obtain ⟨g87, hM⟩ := am_gS hM
                              refine Ev.g (B := (548, [(0, .ref 206), (1, .ref 0), (2, .ref 75), (3, .int x3)], [.int (xs (Int32.toNatClampNeg (x3 + 3))), .int (xs (Int32.toNatClampNeg (x3 + 2))), .int (xs (Int32.toNatClampNeg (x3 + 1))), .ref 75, .int v42], h41)) g87 rfl ?_
                              obtain ⟨v44, h43, e88, hM⟩ := am_bS hM
                              refine Ev.call (q := (mr_X9_is, [.ref 75, .int (xs (Int32.toNatClampNeg (x3 + 1))), .int (xs (Int32.toNatClampNeg (x3 + 2))), .int (xs (Int32.toNatClampNeg (x3 + 3)))], [.int v42])) rfl (E_X9_is_75 n (xs (Int32.toNatClampNeg (x3 + 1))) (xs (Int32.toNatClampNeg (x3 + 2))) (xs (Int32.toNatClampNeg (x3 + 3))) h41 v44 h43 e88) ?_
                              refine Ev.br (b := decide (v42 = v44)) rfl (fun c89 => ?_) (fun c89 => ?_)
                              · have c89 := of_decide_eq_true c89
                                rw [if_pos c89] at hM
                                refine Ev.steps (B := (18, [(3, .int (x3 + 6)), (0, .ref 206), (1, .ref 0), (2, .ref 75)], [], h43)) 2 rfl ?_
                                refine Ev.lv (lv := [(0, .ref 206), (1, .ref 0), (2, .ref 75), (3, .int (x3 + 6))]) ⟨rfl, rfl, rfl, rfl, trivial⟩ rfl rfl ?_
                                exact ih (x3 + 6) h43 hM
                              · have c89 := of_decide_eq_false c89
                                rw [if_neg c89] at hM
                                refine Ev.steps (B := (555, [(0, .ref 206), (1, .ref 0), (2, .ref 75), (3, .int x3)], [.int 0], h43)) 1 rfl ?_
                                obtain ⟨rfl, rfl⟩ := am_sp hM
                                exact Ev.ret rfl
                            · rw [if_neg c80] at hM
                              refine Ev.sw (fun c90 => ?_) (fun c90 => ?_)
                              · rw [if_pos c90] at hM
                                refine Ev.steps (B := (561, [(0, .ref 206), (1, .ref 0), (2, .ref 75), (3, .int x3)], [.int (x3 + 1), .ref 206, .ref 0], h)) 5 rfl ?_
                                obtain ⟨g91, hM⟩ := am_gS hM
                                refine Ev.g (B := (562, [(0, .ref 206), (1, .ref 0), (2, .ref 75), (3, .int x3)], [.int (xs (Int32.toNatClampNeg (x3 + 1))), .ref 0], h)) g91 rfl ?_
                                obtain ⟨v46, h45, e92, hM⟩ := am_bS hM
                                refine Ev.call (q := (mr_X8_line, [.ref 0, .int (xs (Int32.toNatClampNeg (x3 + 1)))], [])) rfl (E_X8_line_0 n (xs (Int32.toNatClampNeg (x3 + 1))) h v46 h45 e92) ?_
                                refine Ev.steps (B := (570, [(0, .ref 206), (1, .ref 0), (2, .ref 75), (3, .int x3)], [.int (x3 + 1), .ref 206, .ref 75, .int v46], h45)) 5 rfl ?_
                                obtain ⟨g93, hM⟩ := am_gS hM
                                refine Ev.g (B := (571, [(0, .ref 206), (1, .ref 0), (2, .ref 75), (3, .int x3)], [.int (xs (Int32.toNatClampNeg (x3 + 1))), .ref 75, .int v46], h45)) g93 rfl ?_
                                obtain ⟨v48, h47, e94, hM⟩ := am_bS hM
                                refine Ev.call (q := (mr_X9_line, [.ref 75, .int (xs (Int32.toNatClampNeg (x3 + 1)))], [.int v46])) rfl (E_X9_line_75 n (xs (Int32.toNatClampNeg (x3 + 1))) h45 v48 h47 e94) ?_
                                refine Ev.br (b := decide (v46 = v48)) rfl (fun c95 => ?_) (fun c95 => ?_)
                                · have c95 := of_decide_eq_true c95
                                  rw [if_pos c95] at hM
                                  refine Ev.steps (B := (18, [(3, .int (x3 + 6)), (0, .ref 206), (1, .ref 0), (2, .ref 75)], [], h47)) 2 rfl ?_
                                  refine Ev.lv (lv := [(0, .ref 206), (1, .ref 0), (2, .ref 75), (3, .int (x3 + 6))]) ⟨rfl, rfl, rfl, rfl, trivial⟩ rfl rfl ?_
                                  exact ih (x3 + 6) h47 hM
                                · have c95 := of_decide_eq_false c95
                                  rw [if_neg c95] at hM
                                  refine Ev.steps (B := (578, [(0, .ref 206), (1, .ref 0), (2, .ref 75), (3, .int x3)], [.int 0], h47)) 1 rfl ?_
                                  obtain ⟨rfl, rfl⟩ := am_sp hM
                                  exact Ev.ret rfl
                              · rw [if_neg c90] at hM
                                refine Ev.sw (fun c96 => ?_) (fun c96 => ?_)
                                · rw [if_pos c96] at hM
                                  refine Ev.steps (B := (584, [(0, .ref 206), (1, .ref 0), (2, .ref 75), (3, .int x3)], [.int (x3 + 1), .ref 206, .ref 0], h)) 5 rfl ?_
                                  obtain ⟨g97, hM⟩ := am_gS hM
                                  refine Ev.g (B := (585, [(0, .ref 206), (1, .ref 0), (2, .ref 75), (3, .int x3)], [.int (xs (Int32.toNatClampNeg (x3 + 1))), .ref 0], h)) g97 rfl ?_
                                  obtain ⟨v50, h49, e98, hM⟩ := am_bS hM
                                  refine Ev.call (q := (mr_X8_sum, [.ref 0, .int (xs (Int32.toNatClampNeg (x3 + 1)))], [])) rfl (E_X8_sum_0 n (xs (Int32.toNatClampNeg (x3 + 1))) h v50 h49 e98) ?_
                                  refine Ev.steps (B := (593, [(0, .ref 206), (1, .ref 0), (2, .ref 75), (3, .int x3)], [.int (x3 + 1), .ref 206, .ref 75, .int v50], h49)) 5 rfl ?_
                                  obtain ⟨g99, hM⟩ := am_gS hM
                                  refine Ev.g (B := (594, [(0, .ref 206), (1, .ref 0), (2, .ref 75), (3, .int x3)], [.int (xs (Int32.toNatClampNeg (x3 + 1))), .ref 75, .int v50], h49)) g99 rfl ?_
                                  obtain ⟨v52, h51, e100, hM⟩ := am_bS hM
                                  refine Ev.call (q := (mr_X9_sum, [.ref 75, .int (xs (Int32.toNatClampNeg (x3 + 1)))], [.int v50])) rfl (E_X9_sum_75 n (xs (Int32.toNatClampNeg (x3 + 1))) h49 v52 h51 e100) ?_
                                  refine Ev.br (b := decide (v50 = v52)) rfl (fun c101 => ?_) (fun c101 => ?_)
                                  · have c101 := of_decide_eq_true c101
                                    rw [if_pos c101] at hM
                                    refine Ev.steps (B := (18, [(3, .int (x3 + 6)), (0, .ref 206), (1, .ref 0), (2, .ref 75)], [], h51)) 2 rfl ?_
                                    refine Ev.lv (lv := [(0, .ref 206), (1, .ref 0), (2, .ref 75), (3, .int (x3 + 6))]) ⟨rfl, rfl, rfl, rfl, trivial⟩ rfl rfl ?_
                                    exact ih (x3 + 6) h51 hM
                                  · have c101 := of_decide_eq_false c101
                                    rw [if_neg c101] at hM
                                    refine Ev.steps (B := (601, [(0, .ref 206), (1, .ref 0), (2, .ref 75), (3, .int x3)], [.int 0], h51)) 1 rfl ?_
                                    obtain ⟨rfl, rfl⟩ := am_sp hM
                                    exact Ev.ret rfl
                                · rw [if_neg c96] at hM
                                  refine Ev.sw (fun c102 => ?_) (fun c102 => ?_)
                                  · rw [if_pos c102] at hM
                                    refine Ev.steps (B := (603, [(0, .ref 206), (1, .ref 0), (2, .ref 75), (3, .int x3)], [.ref 0], h)) 1 rfl ?_
                                    obtain ⟨v54, h53, e103, hM⟩ := am_bS hM
                                    refine Ev.call (q := (mr_X8_first, [.ref 0], [])) rfl (E_X8_first_0 n h v54 h53 e103) ?_
                                    refine Ev.steps (B := (607, [(0, .ref 206), (1, .ref 0), (2, .ref 75), (3, .int x3)], [.ref 75, .int v54], h53)) 1 rfl ?_
                                    obtain ⟨v56, h55, e104, hM⟩ := am_bS hM
                                    refine Ev.call (q := (mr_X9_first, [.ref 75], [.int v54])) rfl (E_X9_first_75 n h53 v56 h55 e104) ?_
                                    refine Ev.br (b := decide (v54 = v56)) rfl (fun c105 => ?_) (fun c105 => ?_)
                                    · have c105 := of_decide_eq_true c105
                                      rw [if_pos c105] at hM
                                      refine Ev.steps (B := (18, [(3, .int (x3 + 6)), (0, .ref 206), (1, .ref 0), (2, .ref 75)], [], h55)) 2 rfl ?_
                                      refine Ev.lv (lv := [(0, .ref 206), (1, .ref 0), (2, .ref 75), (3, .int (x3 + 6))]) ⟨rfl, rfl, rfl, rfl, trivial⟩ rfl rfl ?_
                                      exact ih (x3 + 6) h55 hM
                                    · have c105 := of_decide_eq_false c105
                                      rw [if_neg c105] at hM
                                      refine Ev.steps (B := (614, [(0, .ref 206), (1, .ref 0), (2, .ref 75), (3, .int x3)], [.int 0], h55)) 1 rfl ?_
                                      obtain ⟨rfl, rfl⟩ := am_sp hM
                                      exact Ev.ret rfl
                                  · rw [if_neg c102] at hM
                                    refine Ev.sw (fun c106 => ?_) (fun c106 => ?_)
                                    · rw [if_pos c106] at hM
                                      refine Ev.steps (B := (620, [(0, .ref 206), (1, .ref 0), (2, .ref 75), (3, .int x3)], [.int (x3 + 1), .ref 206, .ref 0], h)) 5 rfl ?_
                                      obtain ⟨g107, hM⟩ := am_gS hM
                                      refine Ev.g (B := (621, [(0, .ref 206), (1, .ref 0), (2, .ref 75), (3, .int x3)], [.int (xs (Int32.toNatClampNeg (x3 + 1))), .ref 0], h)) g107 rfl ?_
                                      obtain ⟨v58, h57, e108, hM⟩ := am_bS hM
                                      refine Ev.call (q := (mr_X8_hottest, [.ref 0, .int (xs (Int32.toNatClampNeg (x3 + 1)))], [])) rfl (E_X8_hottest_0 n (xs (Int32.toNatClampNeg (x3 + 1))) h v58 h57 e108) ?_
                                      refine Ev.steps (B := (629, [(0, .ref 206), (1, .ref 0), (2, .ref 75), (3, .int x3)], [.int (x3 + 1), .ref 206, .ref 75, .int v58], h57)) 5 rfl ?_
                                      obtain ⟨g109, hM⟩ := am_gS hM
                                      refine Ev.g (B := (630, [(0, .ref 206), (1, .ref 0), (2, .ref 75), (3, .int x3)], [.int (xs (Int32.toNatClampNeg (x3 + 1))), .ref 75, .int v58], h57)) g109 rfl ?_
                                      obtain ⟨v60, h59, e110, hM⟩ := am_bS hM
                                      refine Ev.call (q := (mr_X9_hottest, [.ref 75, .int (xs (Int32.toNatClampNeg (x3 + 1)))], [.int v58])) rfl (E_X9_hottest_75 n (xs (Int32.toNatClampNeg (x3 + 1))) h57 v60 h59 e110) ?_
                                      refine Ev.br (b := decide (v58 = v60)) rfl (fun c111 => ?_) (fun c111 => ?_)
                                      · have c111 := of_decide_eq_true c111
                                        rw [if_pos c111] at hM
                                        refine Ev.steps (B := (18, [(3, .int (x3 + 6)), (0, .ref 206), (1, .ref 0), (2, .ref 75)], [], h59)) 2 rfl ?_
                                        refine Ev.lv (lv := [(0, .ref 206), (1, .ref 0), (2, .ref 75), (3, .int (x3 + 6))]) ⟨rfl, rfl, rfl, rfl, trivial⟩ rfl rfl ?_
                                        exact ih (x3 + 6) h59 hM
                                      · have c111 := of_decide_eq_false c111
                                        rw [if_neg c111] at hM
                                        refine Ev.steps (B := (637, [(0, .ref 206), (1, .ref 0), (2, .ref 75), (3, .int x3)], [.int 0], h59)) 1 rfl ?_
                                        obtain ⟨rfl, rfl⟩ := am_sp hM
                                        exact Ev.ret rfl
                                    · rw [if_neg c106] at hM
                                      refine Ev.sw (fun c112 => ?_) (fun c112 => ?_)
                                      · rw [if_pos c112] at hM
                                        refine Ev.steps (B := (643, [(0, .ref 206), (1, .ref 0), (2, .ref 75), (3, .int x3)], [.int (x3 + 1), .ref 206, .ref 0], h)) 5 rfl ?_
                                        obtain ⟨g113, hM⟩ := am_gS hM
                                        refine Ev.g (B := (644, [(0, .ref 206), (1, .ref 0), (2, .ref 75), (3, .int x3)], [.int (xs (Int32.toNatClampNeg (x3 + 1))), .ref 0], h)) g113 rfl ?_
                                        obtain ⟨v62, h61, e114, hM⟩ := am_bS hM
                                        refine Ev.call (q := (mr_X8_waited, [.ref 0, .int (xs (Int32.toNatClampNeg (x3 + 1)))], [])) rfl (E_X8_waited_0 n (xs (Int32.toNatClampNeg (x3 + 1))) h v62 h61 e114) ?_
                                        refine Ev.steps (B := (652, [(0, .ref 206), (1, .ref 0), (2, .ref 75), (3, .int x3)], [.int (x3 + 1), .ref 206, .ref 75, .int v62], h61)) 5 rfl ?_
                                        obtain ⟨g115, hM⟩ := am_gS hM
                                        refine Ev.g (B := (653, [(0, .ref 206), (1, .ref 0), (2, .ref 75), (3, .int x3)], [.int (xs (Int32.toNatClampNeg (x3 + 1))), .ref 75, .int v62], h61)) g115 rfl ?_
                                        obtain ⟨v64, h63, e116, hM⟩ := am_bS hM
                                        refine Ev.call (q := (mr_X9_waited, [.ref 75, .int (xs (Int32.toNatClampNeg (x3 + 1)))], [.int v62])) rfl (E_X9_waited_75 n (xs (Int32.toNatClampNeg (x3 + 1))) h61 v64 h63 e116) ?_
                                        refine Ev.br (b := decide (v62 = v64)) rfl (fun c117 => ?_) (fun c117 => ?_)
                                        · have c117 := of_decide_eq_true c117
                                          rw [if_pos c117] at hM
                                          refine Ev.steps (B := (18, [(3, .int (x3 + 6)), (0, .ref 206), (1, .ref 0), (2, .ref 75)], [], h63)) 2 rfl ?_
                                          refine Ev.lv (lv := [(0, .ref 206), (1, .ref 0), (2, .ref 75), (3, .int (x3 + 6))]) ⟨rfl, rfl, rfl, rfl, trivial⟩ rfl rfl ?_
                                          exact ih (x3 + 6) h63 hM
                                        · have c117 := of_decide_eq_false c117
                                          rw [if_neg c117] at hM
                                          refine Ev.steps (B := (660, [(0, .ref 206), (1, .ref 0), (2, .ref 75), (3, .int x3)], [.int 0], h63)) 1 rfl ?_
                                          obtain ⟨rfl, rfl⟩ := am_sp hM
                                          exact Ev.ret rfl
                                      · rw [if_neg c112] at hM
                                        refine Ev.sw (fun c118 => ?_) (fun c118 => ?_)
                                        · rw [if_pos c118] at hM
                                          refine Ev.steps (B := (662, [(0, .ref 206), (1, .ref 0), (2, .ref 75), (3, .int x3)], [.ref 0], h)) 1 rfl ?_
                                          obtain ⟨v66, h65, e119, hM⟩ := am_bS hM
                                          refine Ev.call (q := (mr_X8_thirst, [.ref 0], [])) rfl (E_X8_thirst_0 n h v66 h65 e119) ?_
                                          refine Ev.steps (B := (666, [(0, .ref 206), (1, .ref 0), (2, .ref 75), (3, .int x3)], [.ref 75, .int v66], h65)) 1 rfl ?_
                                          obtain ⟨v68, h67, e120, hM⟩ := am_bS hM
                                          refine Ev.call (q := (mr_X9_thirst, [.ref 75], [.int v66])) rfl (E_X9_thirst_75 n h65 v68 h67 e120) ?_
                                          refine Ev.br (b := decide (v66 = v68)) rfl (fun c121 => ?_) (fun c121 => ?_)
                                          · have c121 := of_decide_eq_true c121
                                            rw [if_pos c121] at hM
                                            refine Ev.steps (B := (18, [(3, .int (x3 + 6)), (0, .ref 206), (1, .ref 0), (2, .ref 75)], [], h67)) 2 rfl ?_
                                            refine Ev.lv (lv := [(0, .ref 206), (1, .ref 0), (2, .ref 75), (3, .int (x3 + 6))]) ⟨rfl, rfl, rfl, rfl, trivial⟩ rfl rfl ?_
                                            exact ih (x3 + 6) h67 hM
                                          · have c121 := of_decide_eq_false c121
                                            rw [if_neg c121] at hM
                                            refine Ev.steps (B := (673, [(0, .ref 206), (1, .ref 0), (2, .ref 75), (3, .int x3)], [.int 0], h67)) 1 rfl ?_
                                            obtain ⟨rfl, rfl⟩ := am_sp hM
                                            exact Ev.ret rfl
                                        · rw [if_neg c118] at hM
                                          refine Ev.sw (fun c122 => ?_) (fun c122 => ?_)
                                          · rw [if_pos c122] at hM
                                            refine Ev.steps (B := (679, [(0, .ref 206), (1, .ref 0), (2, .ref 75), (3, .int x3)], [.int (x3 + 1), .ref 206, .ref 0], h)) 5 rfl ?_
                                            obtain ⟨g123, hM⟩ := am_gS hM
                                            refine Ev.g (B := (680, [(0, .ref 206), (1, .ref 0), (2, .ref 75), (3, .int x3)], [.int (xs (Int32.toNatClampNeg (x3 + 1))), .ref 0], h)) g123 rfl ?_
                                            refine Ev.steps (B := (684, [(0, .ref 206), (1, .ref 0), (2, .ref 75), (3, .int x3)], [.int (x3 + 2), .ref 206, .int (xs (Int32.toNatClampNeg (x3 + 1))), .ref 0], h)) 4 rfl ?_
                                            obtain ⟨g124, hM⟩ := am_gS hM
                                            refine Ev.g (B := (685, [(0, .ref 206), (1, .ref 0), (2, .ref 75), (3, .int x3)], [.int (xs (Int32.toNatClampNeg (x3 + 2))), .int (xs (Int32.toNatClampNeg (x3 + 1))), .ref 0], h)) g124 rfl ?_
                                            obtain ⟨v70, h69, e125, hM⟩ := am_bS hM
                                            refine Ev.call (q := (mr_X8_better, [.ref 0, .int (xs (Int32.toNatClampNeg (x3 + 1))), .int (xs (Int32.toNatClampNeg (x3 + 2)))], [])) rfl (E_X8_better_0 n (xs (Int32.toNatClampNeg (x3 + 1))) (xs (Int32.toNatClampNeg (x3 + 2))) h v70 h69 e125) ?_
                                            refine Ev.steps (B := (693, [(0, .ref 206), (1, .ref 0), (2, .ref 75), (3, .int x3)], [.int (x3 + 1), .ref 206, .ref 75, .int v70], h69)) 5 rfl ?_
                                            obtain ⟨g126, hM⟩ := am_gS hM
                                            refine Ev.g (B := (694, [(0, .ref 206), (1, .ref 0), (2, .ref 75), (3, .int x3)], [.int (xs (Int32.toNatClampNeg (x3 + 1))), .ref 75, .int v70], h69)) g126 rfl ?_
                                            refine Ev.steps (B := (698, [(0, .ref 206), (1, .ref 0), (2, .ref 75), (3, .int x3)], [.int (x3 + 2), .ref 206, .int (xs (Int32.toNatClampNeg (x3 + 1))), .ref 75, .int v70], h69)) 4 rfl ?_
                                            obtain ⟨g127, hM⟩ := am_gS hM
                                            refine Ev.g (B := (699, [(0, .ref 206), (1, .ref 0), (2, .ref 75), (3, .int x3)], [.int (xs (Int32.toNatClampNeg (x3 + 2))), .int (xs (Int32.toNatClampNeg (x3 + 1))), .ref 75, .int v70], h69)) g127 rfl ?_
                                            obtain ⟨v72, h71, e128, hM⟩ := am_bS hM
                                            refine Ev.call (q := (mr_X9_better, [.ref 75, .int (xs (Int32.toNatClampNeg (x3 + 1))), .int (xs (Int32.toNatClampNeg (x3 + 2)))], [.int v70])) rfl (E_X9_better_75 n (xs (Int32.toNatClampNeg (x3 + 1))) (xs (Int32.toNatClampNeg (x3 + 2))) h69 v72 h71 e128) ?_
                                            refine Ev.br (b := decide (v70 = v72)) rfl (fun c129 => ?_) (fun c129 => ?_)
                                            · have c129 := of_decide_eq_true c129
                                              rw [if_pos c129] at hM
                                              refine Ev.steps (B := (18, [(3, .int (x3 + 6)), (0, .ref 206), (1, .ref 0), (2, .ref 75)], [], h71)) 2 rfl ?_
                                              refine Ev.lv (lv := [(0, .ref 206), (1, .ref 0), (2, .ref 75), (3, .int (x3 + 6))]) ⟨rfl, rfl, rfl, rfl, trivial⟩ rfl rfl ?_
                                              exact ih (x3 + 6) h71 hM
                                            · have c129 := of_decide_eq_false c129
                                              rw [if_neg c129] at hM
                                              refine Ev.steps (B := (706, [(0, .ref 206), (1, .ref 0), (2, .ref 75), (3, .int x3)], [.int 0], h71)) 1 rfl ?_
                                              obtain ⟨rfl, rfl⟩ := am_sp hM
                                              exact Ev.ret rfl
                                          · rw [if_neg c122] at hM
                                            refine Ev.sw (fun c130 => ?_) (fun c130 => ?_)
                                            · rw [if_pos c130] at hM
                                              refine Ev.steps (B := (712, [(0, .ref 206), (1, .ref 0), (2, .ref 75), (3, .int x3)], [.int (x3 + 1), .ref 206, .ref 0], h)) 5 rfl ?_
                                              obtain ⟨g131, hM⟩ := am_gS hM
                                              refine Ev.g (B := (713, [(0, .ref 206), (1, .ref 0), (2, .ref 75), (3, .int x3)], [.int (xs (Int32.toNatClampNeg (x3 + 1))), .ref 0], h)) g131 rfl ?_
                                              obtain ⟨v74, h73, e132, hM⟩ := am_bS hM
                                              refine Ev.call (q := (mr_X8_fill, [.ref 0, .int (xs (Int32.toNatClampNeg (x3 + 1)))], [])) rfl (E_X8_fill_0 n (xs (Int32.toNatClampNeg (x3 + 1))) h v74 h73 e132) ?_
                                              refine Ev.steps (B := (721, [(0, .ref 206), (1, .ref 0), (2, .ref 75), (3, .int x3)], [.int (x3 + 1), .ref 206, .ref 75, .int v74], h73)) 5 rfl ?_
                                              obtain ⟨g133, hM⟩ := am_gS hM
                                              refine Ev.g (B := (722, [(0, .ref 206), (1, .ref 0), (2, .ref 75), (3, .int x3)], [.int (xs (Int32.toNatClampNeg (x3 + 1))), .ref 75, .int v74], h73)) g133 rfl ?_
                                              obtain ⟨v76, h75, e134, hM⟩ := am_bS hM
                                              refine Ev.call (q := (mr_X9_fill, [.ref 75, .int (xs (Int32.toNatClampNeg (x3 + 1)))], [.int v74])) rfl (E_X9_fill_75 n (xs (Int32.toNatClampNeg (x3 + 1))) h73 v76 h75 e134) ?_
                                              refine Ev.br (b := decide (v74 = v76)) rfl (fun c135 => ?_) (fun c135 => ?_)
                                              · have c135 := of_decide_eq_true c135
                                                rw [if_pos c135] at hM
                                                refine Ev.steps (B := (18, [(3, .int (x3 + 6)), (0, .ref 206), (1, .ref 0), (2, .ref 75)], [], h75)) 2 rfl ?_
                                                refine Ev.lv (lv := [(0, .ref 206), (1, .ref 0), (2, .ref 75), (3, .int (x3 + 6))]) ⟨rfl, rfl, rfl, rfl, trivial⟩ rfl rfl ?_
                                                exact ih (x3 + 6) h75 hM
                                              · have c135 := of_decide_eq_false c135
                                                rw [if_neg c135] at hM
                                                refine Ev.steps (B := (729, [(0, .ref 206), (1, .ref 0), (2, .ref 75), (3, .int x3)], [.int 0], h75)) 1 rfl ?_
                                                obtain ⟨rfl, rfl⟩ := am_sp hM
                                                exact Ev.ret rfl
                                            · rw [if_neg c130] at hM
                                              refine Ev.sw (fun c136 => ?_) (fun c136 => ?_)
                                              · rw [if_pos c136] at hM
                                                refine Ev.steps (B := (735, [(0, .ref 206), (1, .ref 0), (2, .ref 75), (3, .int x3)], [.int (x3 + 1), .ref 206, .ref 0], h)) 5 rfl ?_
                                                obtain ⟨g137, hM⟩ := am_gS hM
                                                refine Ev.g (B := (736, [(0, .ref 206), (1, .ref 0), (2, .ref 75), (3, .int x3)], [.int (xs (Int32.toNatClampNeg (x3 + 1))), .ref 0], h)) g137 rfl ?_
                                                refine Ev.steps (B := (740, [(0, .ref 206), (1, .ref 0), (2, .ref 75), (3, .int x3)], [.int (x3 + 2), .ref 206, .int (xs (Int32.toNatClampNeg (x3 + 1))), .ref 0], h)) 4 rfl ?_
                                                obtain ⟨g138, hM⟩ := am_gS hM
                                                refine Ev.g (B := (741, [(0, .ref 206), (1, .ref 0), (2, .ref 75), (3, .int x3)], [.int (xs (Int32.toNatClampNeg (x3 + 2))), .int (xs (Int32.toNatClampNeg (x3 + 1))), .ref 0], h)) g138 rfl ?_
                                                obtain ⟨v78, h77, e139, hM⟩ := am_bS hM
                                                refine Ev.call (q := (mr_X8_come, [.ref 0, .int (xs (Int32.toNatClampNeg (x3 + 1))), .int (xs (Int32.toNatClampNeg (x3 + 2)))], [])) rfl (E_X8_come_0 n (xs (Int32.toNatClampNeg (x3 + 1))) (xs (Int32.toNatClampNeg (x3 + 2))) h v78 h77 e139) ?_
                                                refine Ev.steps (B := (749, [(0, .ref 206), (1, .ref 0), (2, .ref 75), (3, .int x3)], [.int (x3 + 1), .ref 206, .ref 75, .int v78], h77)) 5 rfl ?_
                                                obtain ⟨g140, hM⟩ := am_gS hM
                                                refine Ev.g (B := (750, [(0, .ref 206), (1, .ref 0), (2, .ref 75), (3, .int x3)], [.int (xs (Int32.toNatClampNeg (x3 + 1))), .ref 75, .int v78], h77)) g140 rfl ?_
                                                refine Ev.steps (B := (754, [(0, .ref 206), (1, .ref 0), (2, .ref 75), (3, .int x3)], [.int (x3 + 2), .ref 206, .int (xs (Int32.toNatClampNeg (x3 + 1))), .ref 75, .int v78], h77)) 4 rfl ?_
                                                obtain ⟨g141, hM⟩ := am_gS hM
                                                refine Ev.g (B := (755, [(0, .ref 206), (1, .ref 0), (2, .ref 75), (3, .int x3)], [.int (xs (Int32.toNatClampNeg (x3 + 2))), .int (xs (Int32.toNatClampNeg (x3 + 1))), .ref 75, .int v78], h77)) g141 rfl ?_
                                                obtain ⟨v80, h79, e142, hM⟩ := am_bS hM
                                                refine Ev.call (q := (mr_X9_come, [.ref 75, .int (xs (Int32.toNatClampNeg (x3 + 1))), .int (xs (Int32.toNatClampNeg (x3 + 2)))], [.int v78])) rfl (E_X9_come_75 n (xs (Int32.toNatClampNeg (x3 + 1))) (xs (Int32.toNatClampNeg (x3 + 2))) h77 v80 h79 e142) ?_
                                                refine Ev.br (b := decide (v78 = v80)) rfl (fun c143 => ?_) (fun c143 => ?_)
                                                · have c143 := of_decide_eq_true c143
                                                  rw [if_pos c143] at hM
                                                  refine Ev.steps (B := (18, [(3, .int (x3 + 6)), (0, .ref 206), (1, .ref 0), (2, .ref 75)], [], h79)) 2 rfl ?_
                                                  refine Ev.lv (lv := [(0, .ref 206), (1, .ref 0), (2, .ref 75), (3, .int (x3 + 6))]) ⟨rfl, rfl, rfl, rfl, trivial⟩ rfl rfl ?_
                                                  exact ih (x3 + 6) h79 hM
                                                · have c143 := of_decide_eq_false c143
                                                  rw [if_neg c143] at hM
                                                  refine Ev.steps (B := (762, [(0, .ref 206), (1, .ref 0), (2, .ref 75), (3, .int x3)], [.int 0], h79)) 1 rfl ?_
                                                  obtain ⟨rfl, rfl⟩ := am_sp hM
                                                  exact Ev.ret rfl
                                              · rw [if_neg c136] at hM
                                                refine Ev.sw (fun c144 => ?_) (fun c144 => ?_)
                                                · rw [if_pos c144] at hM
                                                  refine Ev.steps (B := (768, [(0, .ref 206), (1, .ref 0), (2, .ref 75), (3, .int x3)], [.int (x3 + 1), .ref 206, .ref 0], h)) 5 rfl ?_
                                                  obtain ⟨g145, hM⟩ := am_gS hM
                                                  refine Ev.g (B := (769, [(0, .ref 206), (1, .ref 0), (2, .ref 75), (3, .int x3)], [.int (xs (Int32.toNatClampNeg (x3 + 1))), .ref 0], h)) g145 rfl ?_
                                                  obtain ⟨v82, h81, e146, hM⟩ := am_bS hM
                                                  refine Ev.call (q := (mr_X8_spare, [.ref 0, .int (xs (Int32.toNatClampNeg (x3 + 1)))], [])) rfl (E_X8_spare_0 n (xs (Int32.toNatClampNeg (x3 + 1))) h v82 h81 e146) ?_
                                                  refine Ev.steps (B := (777, [(0, .ref 206), (1, .ref 0), (2, .ref 75), (3, .int x3)], [.int (x3 + 1), .ref 206, .ref 75, .int v82], h81)) 5 rfl ?_
                                                  obtain ⟨g147, hM⟩ := am_gS hM
                                                  refine Ev.g (B := (778, [(0, .ref 206), (1, .ref 0), (2, .ref 75), (3, .int x3)], [.int (xs (Int32.toNatClampNeg (x3 + 1))), .ref 75, .int v82], h81)) g147 rfl ?_
                                                  obtain ⟨v84, h83, e148, hM⟩ := am_bS hM
                                                  refine Ev.call (q := (mr_X9_spare, [.ref 75, .int (xs (Int32.toNatClampNeg (x3 + 1)))], [.int v82])) rfl (E_X9_spare_75 n (xs (Int32.toNatClampNeg (x3 + 1))) h81 v84 h83 e148) ?_
                                                  refine Ev.br (b := decide (v82 = v84)) rfl (fun c149 => ?_) (fun c149 => ?_)
                                                  · have c149 := of_decide_eq_true c149
                                                    rw [if_pos c149] at hM
                                                    refine Ev.steps (B := (18, [(3, .int (x3 + 6)), (0, .ref 206), (1, .ref 0), (2, .ref 75)], [], h83)) 2 rfl ?_
                                                    refine Ev.lv (lv := [(0, .ref 206), (1, .ref 0), (2, .ref 75), (3, .int (x3 + 6))]) ⟨rfl, rfl, rfl, rfl, trivial⟩ rfl rfl ?_
                                                    exact ih (x3 + 6) h83 hM
                                                  · have c149 := of_decide_eq_false c149
                                                    rw [if_neg c149] at hM
                                                    refine Ev.steps (B := (785, [(0, .ref 206), (1, .ref 0), (2, .ref 75), (3, .int x3)], [.int 0], h83)) 1 rfl ?_
                                                    obtain ⟨rfl, rfl⟩ := am_sp hM
                                                    exact Ev.ret rfl
                                                · rw [if_neg c144] at hM
                                                  refine Ev.sw (fun c150 => ?_) (fun c150 => ?_)
                                                  · rw [if_pos c150] at hM
                                                    refine Ev.steps (B := (791, [(0, .ref 206), (1, .ref 0), (2, .ref 75), (3, .int x3)], [.int (x3 + 1), .ref 206, .ref 0], h)) 5 rfl ?_
                                                    obtain ⟨g151, hM⟩ := am_gS hM
                                                    refine Ev.g (B := (792, [(0, .ref 206), (1, .ref 0), (2, .ref 75), (3, .int x3)], [.int (xs (Int32.toNatClampNeg (x3 + 1))), .ref 0], h)) g151 rfl ?_
                                                    refine Ev.steps (B := (796, [(0, .ref 206), (1, .ref 0), (2, .ref 75), (3, .int x3)], [.int (x3 + 2), .ref 206, .int (xs (Int32.toNatClampNeg (x3 + 1))), .ref 0], h)) 4 rfl ?_
                                                    obtain ⟨g152, hM⟩ := am_gS hM
                                                    refine Ev.g (B := (797, [(0, .ref 206), (1, .ref 0), (2, .ref 75), (3, .int x3)], [.int (xs (Int32.toNatClampNeg (x3 + 2))), .int (xs (Int32.toNatClampNeg (x3 + 1))), .ref 0], h)) g152 rfl ?_
                                                    obtain ⟨v86, h85, e153, hM⟩ := am_bS hM
                                                    refine Ev.call (q := (mr_X8_seen, [.ref 0, .int (xs (Int32.toNatClampNeg (x3 + 1))), .int (xs (Int32.toNatClampNeg (x3 + 2)))], [])) rfl (E_X8_seen_0 (xs (Int32.toNatClampNeg (x3 + 1))) (xs (Int32.toNatClampNeg (x3 + 2))) h v86 h85 e153) ?_
                                                    refine Ev.steps (B := (805, [(0, .ref 206), (1, .ref 0), (2, .ref 75), (3, .int x3)], [.int (x3 + 1), .ref 206, .ref 75, .int v86], h85)) 5 rfl ?_
                                                    obtain ⟨g154, hM⟩ := am_gS hM
                                                    refine Ev.g (B := (806, [(0, .ref 206), (1, .ref 0), (2, .ref 75), (3, .int x3)], [.int (xs (Int32.toNatClampNeg (x3 + 1))), .ref 75, .int v86], h85)) g154 rfl ?_
                                                    refine Ev.steps (B := (810, [(0, .ref 206), (1, .ref 0), (2, .ref 75), (3, .int x3)], [.int (x3 + 2), .ref 206, .int (xs (Int32.toNatClampNeg (x3 + 1))), .ref 75, .int v86], h85)) 4 rfl ?_
                                                    obtain ⟨g155, hM⟩ := am_gS hM
                                                    refine Ev.g (B := (811, [(0, .ref 206), (1, .ref 0), (2, .ref 75), (3, .int x3)], [.int (xs (Int32.toNatClampNeg (x3 + 2))), .int (xs (Int32.toNatClampNeg (x3 + 1))), .ref 75, .int v86], h85)) g155 rfl ?_
                                                    obtain ⟨v88, h87, e156, hM⟩ := am_bS hM
                                                    refine Ev.call (q := (mr_X9_seen, [.ref 75, .int (xs (Int32.toNatClampNeg (x3 + 1))), .int (xs (Int32.toNatClampNeg (x3 + 2)))], [.int v86])) rfl (E_X9_seen_75 (xs (Int32.toNatClampNeg (x3 + 1))) (xs (Int32.toNatClampNeg (x3 + 2))) h85 v88 h87 e156) ?_
                                                    refine Ev.br (b := decide (v86 = v88)) rfl (fun c157 => ?_) (fun c157 => ?_)
                                                    · have c157 := of_decide_eq_true c157
                                                      rw [if_pos c157] at hM
                                                      refine Ev.steps (B := (18, [(3, .int (x3 + 6)), (0, .ref 206), (1, .ref 0), (2, .ref 75)], [], h87)) 2 rfl ?_
                                                      refine Ev.lv (lv := [(0, .ref 206), (1, .ref 0), (2, .ref 75), (3, .int (x3 + 6))]) ⟨rfl, rfl, rfl, rfl, trivial⟩ rfl rfl ?_
                                                      exact ih (x3 + 6) h87 hM
                                                    · have c157 := of_decide_eq_false c157
                                                      rw [if_neg c157] at hM
                                                      refine Ev.steps (B := (818, [(0, .ref 206), (1, .ref 0), (2, .ref 75), (3, .int x3)], [.int 0], h87)) 1 rfl ?_
                                                      obtain ⟨rfl, rfl⟩ := am_sp hM
                                                      exact Ev.ret rfl
                                                  · rw [if_neg c150] at hM
                                                    refine Ev.sw (fun c158 => ?_) (fun c158 => ?_)
                                                    · rw [if_pos c158] at hM
                                                      refine Ev.steps (B := (820, [(0, .ref 206), (1, .ref 0), (2, .ref 75), (3, .int x3)], [.ref 0], h)) 1 rfl ?_
                                                      obtain ⟨v90, h89, e159, hM⟩ := am_bS hM
                                                      refine Ev.call (q := (mr_X8_forget, [.ref 0], [])) rfl (E_X8_forget_0 h v90 h89 e159) ?_
                                                      refine Ev.steps (B := (824, [(0, .ref 206), (1, .ref 0), (2, .ref 75), (3, .int x3)], [.ref 75, .int v90], h89)) 1 rfl ?_
                                                      obtain ⟨v92, h91, e160, hM⟩ := am_bS hM
                                                      refine Ev.call (q := (mr_X9_forget, [.ref 75], [.int v90])) rfl (E_X9_forget_75 h89 v92 h91 e160) ?_
                                                      refine Ev.br (b := decide (v90 = v92)) rfl (fun c161 => ?_) (fun c161 => ?_)
                                                      · have c161 := of_decide_eq_true c161
                                                        rw [if_pos c161] at hM
                                                        refine Ev.steps (B := (18, [(3, .int (x3 + 6)), (0, .ref 206), (1, .ref 0), (2, .ref 75)], [], h91)) 2 rfl ?_
                                                        refine Ev.lv (lv := [(0, .ref 206), (1, .ref 0), (2, .ref 75), (3, .int (x3 + 6))]) ⟨rfl, rfl, rfl, rfl, trivial⟩ rfl rfl ?_
                                                        exact ih (x3 + 6) h91 hM
                                                      · have c161 := of_decide_eq_false c161
                                                        rw [if_neg c161] at hM
                                                        refine Ev.steps (B := (831, [(0, .ref 206), (1, .ref 0), (2, .ref 75), (3, .int x3)], [.int 0], h91)) 1 rfl ?_
                                                        obtain ⟨rfl, rfl⟩ := am_sp hM
                                                        exact Ev.ret rfl
                                                    · rw [if_neg c158] at hM
                                                      refine Ev.sw (fun c162 => ?_) (fun c162 => ?_)
                                                      · rw [if_pos c162] at hM
                                                        refine Ev.steps (B := (833, [(0, .ref 206), (1, .ref 0), (2, .ref 75), (3, .int x3)], [.ref 0], h)) 1 rfl ?_
                                                        obtain ⟨v94, h93, e163, hM⟩ := am_bS hM
                                                        refine Ev.call (q := (mr_X8_never, [.ref 0], [])) rfl (E_X8_never_0 n h v94 h93 e163) ?_
                                                        refine Ev.steps (B := (837, [(0, .ref 206), (1, .ref 0), (2, .ref 75), (3, .int x3)], [.ref 75, .int v94], h93)) 1 rfl ?_
                                                        obtain ⟨v96, h95, e164, hM⟩ := am_bS hM
                                                        refine Ev.call (q := (mr_X9_never, [.ref 75], [.int v94])) rfl (E_X9_never_75 n h93 v96 h95 e164) ?_
                                                        refine Ev.br (b := decide (v94 = v96)) rfl (fun c165 => ?_) (fun c165 => ?_)
                                                        · have c165 := of_decide_eq_true c165
                                                          rw [if_pos c165] at hM
                                                          refine Ev.steps (B := (18, [(3, .int (x3 + 6)), (0, .ref 206), (1, .ref 0), (2, .ref 75)], [], h95)) 2 rfl ?_
                                                          refine Ev.lv (lv := [(0, .ref 206), (1, .ref 0), (2, .ref 75), (3, .int (x3 + 6))]) ⟨rfl, rfl, rfl, rfl, trivial⟩ rfl rfl ?_
                                                          exact ih (x3 + 6) h95 hM
                                                        · have c165 := of_decide_eq_false c165
                                                          rw [if_neg c165] at hM
                                                          refine Ev.steps (B := (844, [(0, .ref 206), (1, .ref 0), (2, .ref 75), (3, .int x3)], [.int 0], h95)) 1 rfl ?_
                                                          obtain ⟨rfl, rfl⟩ := am_sp hM
                                                          exact Ev.ret rfl
                                                      · rw [if_neg c162] at hM
                                                        refine Ev.sw (fun c166 => ?_) (fun c166 => ?_)
                                                        · rw [if_pos c166] at hM
                                                          refine Ev.steps (B := (846, [(0, .ref 206), (1, .ref 0), (2, .ref 75), (3, .int x3)], [.ref 0], h)) 1 rfl ?_
                                                          obtain ⟨v98, h97, e167, hM⟩ := am_bS hM
                                                          refine Ev.call (q := (mr_X8_waters, [.ref 0], [])) rfl (E_X8_waters_0 n h v98 h97 e167) ?_
                                                          refine Ev.steps (B := (850, [(0, .ref 206), (1, .ref 0), (2, .ref 75), (3, .int x3)], [.ref 75, .int v98], h97)) 1 rfl ?_
                                                          obtain ⟨v100, h99, e168, hM⟩ := am_bS hM
                                                          refine Ev.call (q := (mr_X9_waters, [.ref 75], [.int v98])) rfl (E_X9_waters_75 n h97 v100 h99 e168) ?_
                                                          refine Ev.br (b := decide (v98 = v100)) rfl (fun c169 => ?_) (fun c169 => ?_)
                                                          · have c169 := of_decide_eq_true c169
                                                            rw [if_pos c169] at hM
                                                            refine Ev.steps (B := (18, [(3, .int (x3 + 6)), (0, .ref 206), (1, .ref 0), (2, .ref 75)], [], h99)) 2 rfl ?_
                                                            refine Ev.lv (lv := [(0, .ref 206), (1, .ref 0), (2, .ref 75), (3, .int (x3 + 6))]) ⟨rfl, rfl, rfl, rfl, trivial⟩ rfl rfl ?_
                                                            exact ih (x3 + 6) h99 hM
                                                          · have c169 := of_decide_eq_false c169
                                                            rw [if_neg c169] at hM
                                                            refine Ev.steps (B := (857, [(0, .ref 206), (1, .ref 0), (2, .ref 75), (3, .int x3)], [.int 0], h99)) 1 rfl ?_
                                                            obtain ⟨rfl, rfl⟩ := am_sp hM
                                                            exact Ev.ret rfl
                                                        · rw [if_neg c166] at hM
                                                          refine Ev.sw (fun c170 => ?_) (fun c170 => ?_)
                                                          · rw [if_pos c170] at hM
                                                            refine Ev.steps (B := (863, [(0, .ref 206), (1, .ref 0), (2, .ref 75), (3, .int x3)], [.int (x3 + 1), .ref 206, .ref 0], h)) 5 rfl ?_
                                                            obtain ⟨g171, hM⟩ := am_gS hM
                                                            refine Ev.g (B := (864, [(0, .ref 206), (1, .ref 0), (2, .ref 75), (3, .int x3)], [.int (xs (Int32.toNatClampNeg (x3 + 1))), .ref 0], h)) g171 rfl ?_
                                                            obtain ⟨v102, h101, e172, hM⟩ := am_bS hM
                                                            refine Ev.call (q := (mr_X8_kind, [.ref 0, .int (xs (Int32.toNatClampNeg (x3 + 1)))], [])) rfl (E_X8_kind_0 n (xs (Int32.toNatClampNeg (x3 + 1))) h v102 h101 e172) ?_
                                                            refine Ev.steps (B := (872, [(0, .ref 206), (1, .ref 0), (2, .ref 75), (3, .int x3)], [.int (x3 + 1), .ref 206, .ref 75, .int v102], h101)) 5 rfl ?_
                                                            obtain ⟨g173, hM⟩ := am_gS hM
                                                            refine Ev.g (B := (873, [(0, .ref 206), (1, .ref 0), (2, .ref 75), (3, .int x3)], [.int (xs (Int32.toNatClampNeg (x3 + 1))), .ref 75, .int v102], h101)) g173 rfl ?_
                                                            obtain ⟨v104, h103, e174, hM⟩ := am_bS hM
                                                            refine Ev.call (q := (mr_X9_kind, [.ref 75, .int (xs (Int32.toNatClampNeg (x3 + 1)))], [.int v102])) rfl (E_X9_kind_75 n (xs (Int32.toNatClampNeg (x3 + 1))) h101 v104 h103 e174) ?_
                                                            refine Ev.br (b := decide (v102 = v104)) rfl (fun c175 => ?_) (fun c175 => ?_)
                                                            · have c175 := of_decide_eq_true c175
                                                              rw [if_pos c175] at hM
                                                              refine Ev.steps (B := (18, [(3, .int (x3 + 6)), (0, .ref 206), (1, .ref 0), (2, .ref 75)], [], h103)) 2 rfl ?_
                                                              refine Ev.lv (lv := [(0, .ref 206), (1, .ref 0), (2, .ref 75), (3, .int (x3 + 6))]) ⟨rfl, rfl, rfl, rfl, trivial⟩ rfl rfl ?_
                                                              exact ih (x3 + 6) h103 hM
                                                            · have c175 := of_decide_eq_false c175
                                                              rw [if_neg c175] at hM
                                                              refine Ev.steps (B := (880, [(0, .ref 206), (1, .ref 0), (2, .ref 75), (3, .int x3)], [.int 0], h103)) 1 rfl ?_
                                                              obtain ⟨rfl, rfl⟩ := am_sp hM
                                                              exact Ev.ret rfl
                                                          · rw [if_neg c170] at hM
                                                            refine Ev.sw (fun c176 => ?_) (fun c176 => ?_)
                                                            · rw [if_pos c176] at hM
                                                              refine Ev.steps (B := (882, [(0, .ref 206), (1, .ref 0), (2, .ref 75), (3, .int x3)], [.ref 0], h)) 1 rfl ?_
                                                              obtain ⟨v106, h105, e177, hM⟩ := am_bS hM
                                                              refine Ev.call (q := (mr_X8_ask, [.ref 0], [])) rfl (E_X8_ask_0 n h v106 h105 e177) ?_
                                                              refine Ev.steps (B := (886, [(0, .ref 206), (1, .ref 0), (2, .ref 75), (3, .int x3)], [.ref 75, .int v106], h105)) 1 rfl ?_
                                                              obtain ⟨v108, h107, e178, hM⟩ := am_bS hM
                                                              refine Ev.call (q := (mr_X9_ask, [.ref 75], [.int v106])) rfl (E_X9_ask_75 n h105 v108 h107 e178) ?_
                                                              refine Ev.br (b := decide (v106 = v108)) rfl (fun c179 => ?_) (fun c179 => ?_)
                                                              · have c179 := of_decide_eq_true c179
                                                                rw [if_pos c179] at hM
                                                                refine Ev.steps (B := (18, [(3, .int (x3 + 6)), (0, .ref 206), (1, .ref 0), (2, .ref 75)], [], h107)) 2 rfl ?_
                                                                refine Ev.lv (lv := [(0, .ref 206), (1, .ref 0), (2, .ref 75), (3, .int (x3 + 6))]) ⟨rfl, rfl, rfl, rfl, trivial⟩ rfl rfl ?_
                                                                exact ih (x3 + 6) h107 hM
                                                              · have c179 := of_decide_eq_false c179
                                                                rw [if_neg c179] at hM
                                                                refine Ev.steps (B := (893, [(0, .ref 206), (1, .ref 0), (2, .ref 75), (3, .int x3)], [.int 0], h107)) 1 rfl ?_
                                                                obtain ⟨rfl, rfl⟩ := am_sp hM
                                                                exact Ev.ret rfl
                                                            · rw [if_neg c176] at hM
                                                              refine Ev.sw (fun c180 => ?_) (fun c180 => ?_)
                                                              · rw [if_pos c180] at hM
                                                                refine Ev.steps (B := (899, [(0, .ref 206), (1, .ref 0), (2, .ref 75), (3, .int x3)], [.int (x3 + 1), .ref 206, .ref 0], h)) 5 rfl ?_
                                                                obtain ⟨g181, hM⟩ := am_gS hM
                                                                refine Ev.g (B := (900, [(0, .ref 206), (1, .ref 0), (2, .ref 75), (3, .int x3)], [.int (xs (Int32.toNatClampNeg (x3 + 1))), .ref 0], h)) g181 rfl ?_
                                                                refine Ev.steps (B := (904, [(0, .ref 206), (1, .ref 0), (2, .ref 75), (3, .int x3)], [.int (x3 + 2), .ref 206, .int (xs (Int32.toNatClampNeg (x3 + 1))), .ref 0], h)) 4 rfl ?_
                                                                obtain ⟨g182, hM⟩ := am_gS hM
                                                                refine Ev.g (B := (905, [(0, .ref 206), (1, .ref 0), (2, .ref 75), (3, .int x3)], [.int (xs (Int32.toNatClampNeg (x3 + 2))), .int (xs (Int32.toNatClampNeg (x3 + 1))), .ref 0], h)) g182 rfl ?_
                                                                refine Ev.steps (B := (909, [(0, .ref 206), (1, .ref 0), (2, .ref 75), (3, .int x3)], [.int (x3 + 3), .ref 206, .int (xs (Int32.toNatClampNeg (x3 + 2))), .int (xs (Int32.toNatClampNeg (x3 + 1))), .ref 0], h)) 4 rfl ?_
                                                                obtain ⟨g183, hM⟩ := am_gS hM
                                                                refine Ev.g (B := (910, [(0, .ref 206), (1, .ref 0), (2, .ref 75), (3, .int x3)], [.int (xs (Int32.toNatClampNeg (x3 + 3))), .int (xs (Int32.toNatClampNeg (x3 + 2))), .int (xs (Int32.toNatClampNeg (x3 + 1))), .ref 0], h)) g183 rfl ?_
                                                                obtain ⟨v110, h109, e184, hM⟩ := am_bS hM
                                                                refine Ev.call (q := (mr_X8_chance, [.ref 0, .int (xs (Int32.toNatClampNeg (x3 + 1))), .int (xs (Int32.toNatClampNeg (x3 + 2))), .int (xs (Int32.toNatClampNeg (x3 + 3)))], [])) rfl (E_X8_chance_0 n (xs (Int32.toNatClampNeg (x3 + 1))) (xs (Int32.toNatClampNeg (x3 + 2))) (xs (Int32.toNatClampNeg (x3 + 3))) h v110 h109 e184) ?_
                                                                refine Ev.steps (B := (918, [(0, .ref 206), (1, .ref 0), (2, .ref 75), (3, .int x3)], [.int (x3 + 1), .ref 206, .ref 75, .long v110], h109)) 5 rfl ?_
                                                                obtain ⟨g185, hM⟩ := am_gS hM
                                                                refine Ev.g (B := (919, [(0, .ref 206), (1, .ref 0), (2, .ref 75), (3, .int x3)], [.int (xs (Int32.toNatClampNeg (x3 + 1))), .ref 75, .long v110], h109)) g185 rfl ?_
                                                                refine Ev.steps (B := (923, [(0, .ref 206), (1, .ref 0), (2, .ref 75), (3, .int x3)], [.int (x3 + 2), .ref 206, .int (xs (Int32.toNatClampNeg (x3 + 1))), .ref 75, .long v110], h109)) 4 rfl ?_
                                                                obtain ⟨g186, hM⟩ := am_gS hM
                                                                refine Ev.g (B := (924, [(0, .ref 206), (1, .ref 0), (2, .ref 75), (3, .int x3)], [.int (xs (Int32.toNatClampNeg (x3 + 2))), .int (xs (Int32.toNatClampNeg (x3 + 1))), .ref 75, .long v110], h109)) g186 rfl ?_
                                                                refine Ev.steps (B := (928, [(0, .ref 206), (1, .ref 0), (2, .ref 75), (3, .int x3)], [.int (x3 + 3), .ref 206, .int (xs (Int32.toNatClampNeg (x3 + 2))), .int (xs (Int32.toNatClampNeg (x3 + 1))), .ref 75, .long v110], h109)) 4 rfl ?_
                                                                obtain ⟨g187, hM⟩ := am_gS hM
                                                                refine Ev.g (B := (929, [(0, .ref 206), (1, .ref 0), (2, .ref 75), (3, .int x3)], [.int (xs (Int32.toNatClampNeg (x3 + 3))), .int (xs (Int32.toNatClampNeg (x3 + 2))), .int (xs (Int32.toNatClampNeg (x3 + 1))), .ref 75, .long v110], h109)) g187 rfl ?_
                                                                obtain ⟨v112, h111, e188, hM⟩ := am_bS hM
                                                                refine Ev.call (q := (mr_X9_chance, [.ref 75, .int (xs (Int32.toNatClampNeg (x3 + 1))), .int (xs (Int32.toNatClampNeg (x3 + 2))), .int (xs (Int32.toNatClampNeg (x3 + 3)))], [.long v110])) rfl (E_X9_chance_75 n (xs (Int32.toNatClampNeg (x3 + 1))) (xs (Int32.toNatClampNeg (x3 + 2))) (xs (Int32.toNatClampNeg (x3 + 3))) h109 v112 h111 e188) ?_
                                                                refine Ev.steps (B := (933, [(0, .ref 206), (1, .ref 0), (2, .ref 75), (3, .int x3)], [.int (lg_cmp v110 v112)], h111)) 1 rfl ?_
                                                                refine Ev.br (b := decide ((lg_cmp v110 v112) = 0)) rfl (fun c189 => ?_) (fun c189 => ?_)
                                                                · have c189 := of_decide_eq_true c189
                                                                  rw [if_pos c189] at hM
                                                                  refine Ev.steps (B := (18, [(3, .int (x3 + 6)), (0, .ref 206), (1, .ref 0), (2, .ref 75)], [], h111)) 2 rfl ?_
                                                                  refine Ev.lv (lv := [(0, .ref 206), (1, .ref 0), (2, .ref 75), (3, .int (x3 + 6))]) ⟨rfl, rfl, rfl, rfl, trivial⟩ rfl rfl ?_
                                                                  exact ih (x3 + 6) h111 hM
                                                                · have c189 := of_decide_eq_false c189
                                                                  rw [if_neg c189] at hM
                                                                  refine Ev.steps (B := (937, [(0, .ref 206), (1, .ref 0), (2, .ref 75), (3, .int x3)], [.int 0], h111)) 1 rfl ?_
                                                                  obtain ⟨rfl, rfl⟩ := am_sp hM
                                                                  exact Ev.ret rfl
                                                              · rw [if_neg c180] at hM
                                                                refine Ev.sw (fun c190 => ?_) (fun c190 => ?_)
                                                                · rw [if_pos c190] at hM
                                                                  refine Ev.steps (B := (943, [(0, .ref 206), (1, .ref 0), (2, .ref 75), (3, .int x3)], [.int (x3 + 1), .ref 206, .ref 0], h)) 5 rfl ?_
                                                                  obtain ⟨g191, hM⟩ := am_gS hM
                                                                  refine Ev.g (B := (944, [(0, .ref 206), (1, .ref 0), (2, .ref 75), (3, .int x3)], [.int (xs (Int32.toNatClampNeg (x3 + 1))), .ref 0], h)) g191 rfl ?_
                                                                  refine Ev.steps (B := (948, [(0, .ref 206), (1, .ref 0), (2, .ref 75), (3, .int x3)], [.int (x3 + 2), .ref 206, .int (xs (Int32.toNatClampNeg (x3 + 1))), .ref 0], h)) 4 rfl ?_
                                                                  obtain ⟨g192, hM⟩ := am_gS hM
                                                                  refine Ev.g (B := (949, [(0, .ref 206), (1, .ref 0), (2, .ref 75), (3, .int x3)], [.int (xs (Int32.toNatClampNeg (x3 + 2))), .int (xs (Int32.toNatClampNeg (x3 + 1))), .ref 0], h)) g192 rfl ?_
                                                                  refine Ev.steps (B := (953, [(0, .ref 206), (1, .ref 0), (2, .ref 75), (3, .int x3)], [.int (x3 + 3), .ref 206, .int (xs (Int32.toNatClampNeg (x3 + 2))), .int (xs (Int32.toNatClampNeg (x3 + 1))), .ref 0], h)) 4 rfl ?_
                                                                  obtain ⟨g193, hM⟩ := am_gS hM
                                                                  refine Ev.g (B := (954, [(0, .ref 206), (1, .ref 0), (2, .ref 75), (3, .int x3)], [.int (xs (Int32.toNatClampNeg (x3 + 3))), .int (xs (Int32.toNatClampNeg (x3 + 2))), .int (xs (Int32.toNatClampNeg (x3 + 1))), .ref 0], h)) g193 rfl ?_
                                                                  obtain ⟨v114, h113, e194, hM⟩ := am_bS hM
                                                                  refine Ev.call (q := (mr_X8_evenings, [.ref 0, .int (xs (Int32.toNatClampNeg (x3 + 1))), .int (xs (Int32.toNatClampNeg (x3 + 2))), .int (xs (Int32.toNatClampNeg (x3 + 3)))], [])) rfl (E_X8_evenings_0 n (xs (Int32.toNatClampNeg (x3 + 1))) (xs (Int32.toNatClampNeg (x3 + 2))) (xs (Int32.toNatClampNeg (x3 + 3))) h v114 h113 e194) ?_
                                                                  refine Ev.steps (B := (962, [(0, .ref 206), (1, .ref 0), (2, .ref 75), (3, .int x3)], [.int (x3 + 1), .ref 206, .ref 75, .int v114], h113)) 5 rfl ?_
                                                                  obtain ⟨g195, hM⟩ := am_gS hM
                                                                  refine Ev.g (B := (963, [(0, .ref 206), (1, .ref 0), (2, .ref 75), (3, .int x3)], [.int (xs (Int32.toNatClampNeg (x3 + 1))), .ref 75, .int v114], h113)) g195 rfl ?_
                                                                  refine Ev.steps (B := (967, [(0, .ref 206), (1, .ref 0), (2, .ref 75), (3, .int x3)], [.int (x3 + 2), .ref 206, .int (xs (Int32.toNatClampNeg (x3 + 1))), .ref 75, .int v114], h113)) 4 rfl ?_
                                                                  obtain ⟨g196, hM⟩ := am_gS hM
                                                                  refine Ev.g (B := (968, [(0, .ref 206), (1, .ref 0), (2, .ref 75), (3, .int x3)], [.int (xs (Int32.toNatClampNeg (x3 + 2))), .int (xs (Int32.toNatClampNeg (x3 + 1))), .ref 75, .int v114], h113)) g196 rfl ?_
                                                                  refine Ev.steps (B := (972, [(0, .ref 206), (1, .ref 0), (2, .ref 75), (3, .int x3)], [.int (x3 + 3), .ref 206, .int (xs (Int32.toNatClampNeg (x3 + 2))), .int (xs (Int32.toNatClampNeg (x3 + 1))), .ref 75, .int v114], h113)) 4 rfl ?_
                                                                  obtain ⟨g197, hM⟩ := am_gS hM
                                                                  refine Ev.g (B := (973, [(0, .ref 206), (1, .ref 0), (2, .ref 75), (3, .int x3)], [.int (xs (Int32.toNatClampNeg (x3 + 3))), .int (xs (Int32.toNatClampNeg (x3 + 2))), .int (xs (Int32.toNatClampNeg (x3 + 1))), .ref 75, .int v114], h113)) g197 rfl ?_
                                                                  obtain ⟨v116, h115, e198, hM⟩ := am_bS hM
                                                                  refine Ev.call (q := (mr_X9_evenings, [.ref 75, .int (xs (Int32.toNatClampNeg (x3 + 1))), .int (xs (Int32.toNatClampNeg (x3 + 2))), .int (xs (Int32.toNatClampNeg (x3 + 3)))], [.int v114])) rfl (E_X9_evenings_75 n (xs (Int32.toNatClampNeg (x3 + 1))) (xs (Int32.toNatClampNeg (x3 + 2))) (xs (Int32.toNatClampNeg (x3 + 3))) h113 v116 h115 e198) ?_
                                                                  refine Ev.br (b := decide (v114 = v116)) rfl (fun c199 => ?_) (fun c199 => ?_)
                                                                  · have c199 := of_decide_eq_true c199
                                                                    rw [if_pos c199] at hM
                                                                    refine Ev.steps (B := (18, [(3, .int (x3 + 6)), (0, .ref 206), (1, .ref 0), (2, .ref 75)], [], h115)) 2 rfl ?_
                                                                    refine Ev.lv (lv := [(0, .ref 206), (1, .ref 0), (2, .ref 75), (3, .int (x3 + 6))]) ⟨rfl, rfl, rfl, rfl, trivial⟩ rfl rfl ?_
                                                                    exact ih (x3 + 6) h115 hM
                                                                  · have c199 := of_decide_eq_false c199
                                                                    rw [if_neg c199] at hM
                                                                    refine Ev.steps (B := (980, [(0, .ref 206), (1, .ref 0), (2, .ref 75), (3, .int x3)], [.int 0], h115)) 1 rfl ?_
                                                                    obtain ⟨rfl, rfl⟩ := am_sp hM
                                                                    exact Ev.ret rfl
                                                                · rw [if_neg c190] at hM
                                                                  refine Ev.sw (fun c200 => ?_) (fun c200 => ?_)
                                                                  · rw [if_pos c200] at hM
                                                                    refine Ev.steps (B := (986, [(0, .ref 206), (1, .ref 0), (2, .ref 75), (3, .int x3)], [.int (x3 + 1), .ref 206, .ref 0], h)) 5 rfl ?_
                                                                    obtain ⟨g201, hM⟩ := am_gS hM
                                                                    refine Ev.g (B := (987, [(0, .ref 206), (1, .ref 0), (2, .ref 75), (3, .int x3)], [.int (xs (Int32.toNatClampNeg (x3 + 1))), .ref 0], h)) g201 rfl ?_
                                                                    refine Ev.steps (B := (991, [(0, .ref 206), (1, .ref 0), (2, .ref 75), (3, .int x3)], [.int (x3 + 2), .ref 206, .int (xs (Int32.toNatClampNeg (x3 + 1))), .ref 0], h)) 4 rfl ?_
                                                                    obtain ⟨g202, hM⟩ := am_gS hM
                                                                    refine Ev.g (B := (992, [(0, .ref 206), (1, .ref 0), (2, .ref 75), (3, .int x3)], [.int (xs (Int32.toNatClampNeg (x3 + 2))), .int (xs (Int32.toNatClampNeg (x3 + 1))), .ref 0], h)) g202 rfl ?_
                                                                    refine Ev.steps (B := (996, [(0, .ref 206), (1, .ref 0), (2, .ref 75), (3, .int x3)], [.int (x3 + 3), .ref 206, .int (xs (Int32.toNatClampNeg (x3 + 2))), .int (xs (Int32.toNatClampNeg (x3 + 1))), .ref 0], h)) 4 rfl ?_
                                                                    obtain ⟨g203, hM⟩ := am_gS hM
                                                                    refine Ev.g (B := (997, [(0, .ref 206), (1, .ref 0), (2, .ref 75), (3, .int x3)], [.int (xs (Int32.toNatClampNeg (x3 + 3))), .int (xs (Int32.toNatClampNeg (x3 + 2))), .int (xs (Int32.toNatClampNeg (x3 + 1))), .ref 0], h)) g203 rfl ?_
                                                                    obtain ⟨v118, h117, e204, hM⟩ := am_bS hM
                                                                    refine Ev.call (q := (mr_X8_sheet, [.ref 0, .int (xs (Int32.toNatClampNeg (x3 + 1))), .int (xs (Int32.toNatClampNeg (x3 + 2))), .int (xs (Int32.toNatClampNeg (x3 + 3)))], [])) rfl (E_X8_sheet_0 n (xs (Int32.toNatClampNeg (x3 + 1))) (xs (Int32.toNatClampNeg (x3 + 2))) (xs (Int32.toNatClampNeg (x3 + 3))) h v118 h117 e204) ?_
                                                                    refine Ev.steps (B := (1005, [(0, .ref 206), (1, .ref 0), (2, .ref 75), (3, .int x3)], [.int (x3 + 1), .ref 206, .ref 75, .int v118], h117)) 5 rfl ?_
                                                                    obtain ⟨g205, hM⟩ := am_gS hM
                                                                    refine Ev.g (B := (1006, [(0, .ref 206), (1, .ref 0), (2, .ref 75), (3, .int x3)], [.int (xs (Int32.toNatClampNeg (x3 + 1))), .ref 75, .int v118], h117)) g205 rfl ?_
                                                                    refine Ev.steps (B := (1010, [(0, .ref 206), (1, .ref 0), (2, .ref 75), (3, .int x3)], [.int (x3 + 2), .ref 206, .int (xs (Int32.toNatClampNeg (x3 + 1))), .ref 75, .int v118], h117)) 4 rfl ?_
                                                                    obtain ⟨g206, hM⟩ := am_gS hM
                                                                    refine Ev.g (B := (1011, [(0, .ref 206), (1, .ref 0), (2, .ref 75), (3, .int x3)], [.int (xs (Int32.toNatClampNeg (x3 + 2))), .int (xs (Int32.toNatClampNeg (x3 + 1))), .ref 75, .int v118], h117)) g206 rfl ?_
                                                                    refine Ev.steps (B := (1015, [(0, .ref 206), (1, .ref 0), (2, .ref 75), (3, .int x3)], [.int (x3 + 3), .ref 206, .int (xs (Int32.toNatClampNeg (x3 + 2))), .int (xs (Int32.toNatClampNeg (x3 + 1))), .ref 75, .int v118], h117)) 4 rfl ?_
                                                                    obtain ⟨g207, hM⟩ := am_gS hM
                                                                    refine Ev.g (B := (1016, [(0, .ref 206), (1, .ref 0), (2, .ref 75), (3, .int x3)], [.int (xs (Int32.toNatClampNeg (x3 + 3))), .int (xs (Int32.toNatClampNeg (x3 + 2))), .int (xs (Int32.toNatClampNeg (x3 + 1))), .ref 75, .int v118], h117)) g207 rfl ?_
                                                                    obtain ⟨v120, h119, e208, hM⟩ := am_bS hM
                                                                    refine Ev.call (q := (mr_X9_sheet, [.ref 75, .int (xs (Int32.toNatClampNeg (x3 + 1))), .int (xs (Int32.toNatClampNeg (x3 + 2))), .int (xs (Int32.toNatClampNeg (x3 + 3)))], [.int v118])) rfl (E_X9_sheet_75 n (xs (Int32.toNatClampNeg (x3 + 1))) (xs (Int32.toNatClampNeg (x3 + 2))) (xs (Int32.toNatClampNeg (x3 + 3))) h117 v120 h119 e208) ?_
                                                                    refine Ev.br (b := decide (v118 = v120)) rfl (fun c209 => ?_) (fun c209 => ?_)
                                                                    · have c209 := of_decide_eq_true c209
                                                                      rw [if_pos c209] at hM
                                                                      refine Ev.steps (B := (18, [(3, .int (x3 + 6)), (0, .ref 206), (1, .ref 0), (2, .ref 75)], [], h119)) 2 rfl ?_
                                                                      refine Ev.lv (lv := [(0, .ref 206), (1, .ref 0), (2, .ref 75), (3, .int (x3 + 6))]) ⟨rfl, rfl, rfl, rfl, trivial⟩ rfl rfl ?_
                                                                      exact ih (x3 + 6) h119 hM
                                                                    · have c209 := of_decide_eq_false c209
                                                                      rw [if_neg c209] at hM
                                                                      refine Ev.steps (B := (1023, [(0, .ref 206), (1, .ref 0), (2, .ref 75), (3, .int x3)], [.int 0], h119)) 1 rfl ?_
                                                                      obtain ⟨rfl, rfl⟩ := am_sp hM
                                                                      exact Ev.ret rfl
                                                                  · rw [if_neg c200] at hM
                                                                    refine Ev.sw (fun c210 => ?_) (fun c210 => ?_)
                                                                    · rw [if_pos c210] at hM
                                                                      refine Ev.steps (B := (1029, [(0, .ref 206), (1, .ref 0), (2, .ref 75), (3, .int x3)], [.int (x3 + 1), .ref 206, .ref 0], h)) 5 rfl ?_
                                                                      obtain ⟨g211, hM⟩ := am_gS hM
                                                                      refine Ev.g (B := (1030, [(0, .ref 206), (1, .ref 0), (2, .ref 75), (3, .int x3)], [.int (xs (Int32.toNatClampNeg (x3 + 1))), .ref 0], h)) g211 rfl ?_
                                                                      obtain ⟨v122, h121, e212, hM⟩ := am_bS hM
                                                                      refine Ev.call (q := (mr_X8_lose, [.ref 0, .int (xs (Int32.toNatClampNeg (x3 + 1)))], [])) rfl (E_X8_lose_0 (xs (Int32.toNatClampNeg (x3 + 1))) h v122 h121 e212) ?_
                                                                      refine Ev.steps (B := (1038, [(0, .ref 206), (1, .ref 0), (2, .ref 75), (3, .int x3)], [.int (x3 + 1), .ref 206, .ref 75, .int v122], h121)) 5 rfl ?_
                                                                      obtain ⟨g213, hM⟩ := am_gS hM
                                                                      refine Ev.g (B := (1039, [(0, .ref 206), (1, .ref 0), (2, .ref 75), (3, .int x3)], [.int (xs (Int32.toNatClampNeg (x3 + 1))), .ref 75, .int v122], h121)) g213 rfl ?_
                                                                      obtain ⟨v124, h123, e214, hM⟩ := am_bS hM
                                                                      refine Ev.call (q := (mr_X9_lose, [.ref 75, .int (xs (Int32.toNatClampNeg (x3 + 1)))], [.int v122])) rfl (E_X9_lose_75 (xs (Int32.toNatClampNeg (x3 + 1))) h121 v124 h123 e214) ?_
                                                                      refine Ev.br (b := decide (v122 = v124)) rfl (fun c215 => ?_) (fun c215 => ?_)
                                                                      · have c215 := of_decide_eq_true c215
                                                                        rw [if_pos c215] at hM
                                                                        refine Ev.steps (B := (18, [(3, .int (x3 + 6)), (0, .ref 206), (1, .ref 0), (2, .ref 75)], [], h123)) 2 rfl ?_
                                                                        refine Ev.lv (lv := [(0, .ref 206), (1, .ref 0), (2, .ref 75), (3, .int (x3 + 6))]) ⟨rfl, rfl, rfl, rfl, trivial⟩ rfl rfl ?_
                                                                        exact ih (x3 + 6) h123 hM
                                                                      · have c215 := of_decide_eq_false c215
                                                                        rw [if_neg c215] at hM
                                                                        refine Ev.steps (B := (1046, [(0, .ref 206), (1, .ref 0), (2, .ref 75), (3, .int x3)], [.int 0], h123)) 1 rfl ?_
                                                                        obtain ⟨rfl, rfl⟩ := am_sp hM
                                                                        exact Ev.ret rfl
                                                                    · rw [if_neg c210] at hM
                                                                      refine Ev.sw (fun c216 => ?_) (fun c216 => ?_)
                                                                      · rw [if_pos c216] at hM
                                                                        refine Ev.steps (B := (1052, [(0, .ref 206), (1, .ref 0), (2, .ref 75), (3, .int x3)], [.int (x3 + 1), .ref 206, .ref 0], h)) 5 rfl ?_
                                                                        obtain ⟨g217, hM⟩ := am_gS hM
                                                                        refine Ev.g (B := (1053, [(0, .ref 206), (1, .ref 0), (2, .ref 75), (3, .int x3)], [.int (xs (Int32.toNatClampNeg (x3 + 1))), .ref 0], h)) g217 rfl ?_
                                                                        refine Ev.steps (B := (1057, [(0, .ref 206), (1, .ref 0), (2, .ref 75), (3, .int x3)], [.int (x3 + 2), .ref 206, .int (xs (Int32.toNatClampNeg (x3 + 1))), .ref 0], h)) 4 rfl ?_
                                                                        obtain ⟨g218, hM⟩ := am_gS hM
                                                                        refine Ev.g (B := (1058, [(0, .ref 206), (1, .ref 0), (2, .ref 75), (3, .int x3)], [.int (xs (Int32.toNatClampNeg (x3 + 2))), .int (xs (Int32.toNatClampNeg (x3 + 1))), .ref 0], h)) g218 rfl ?_
                                                                        refine Ev.steps (B := (1062, [(0, .ref 206), (1, .ref 0), (2, .ref 75), (3, .int x3)], [.int (x3 + 3), .ref 206, .int (xs (Int32.toNatClampNeg (x3 + 2))), .int (xs (Int32.toNatClampNeg (x3 + 1))), .ref 0], h)) 4 rfl ?_
                                                                        obtain ⟨g219, hM⟩ := am_gS hM
                                                                        refine Ev.g (B := (1063, [(0, .ref 206), (1, .ref 0), (2, .ref 75), (3, .int x3)], [.int (xs (Int32.toNatClampNeg (x3 + 3))), .int (xs (Int32.toNatClampNeg (x3 + 2))), .int (xs (Int32.toNatClampNeg (x3 + 1))), .ref 0], h)) g219 rfl ?_
                                                                        refine Ev.steps (B := (1067, [(0, .ref 206), (1, .ref 0), (2, .ref 75), (3, .int x3)], [.int (x3 + 4), .ref 206, .int (xs (Int32.toNatClampNeg (x3 + 3))), .int (xs (Int32.toNatClampNeg (x3 + 2))), .int (xs (Int32.toNatClampNeg (x3 + 1))), .ref 0], h)) 4 rfl ?_
                                                                        obtain ⟨g220, hM⟩ := am_gS hM
                                                                        refine Ev.g (B := (1068, [(0, .ref 206), (1, .ref 0), (2, .ref 75), (3, .int x3)], [.int (xs (Int32.toNatClampNeg (x3 + 4))), .int (xs (Int32.toNatClampNeg (x3 + 3))), .int (xs (Int32.toNatClampNeg (x3 + 2))), .int (xs (Int32.toNatClampNeg (x3 + 1))), .ref 0], h)) g220 rfl ?_
                                                                        obtain ⟨v126, h125, e221, hM⟩ := am_bS hM
                                                                        refine Ev.call (q := (mr_X8_put, [.ref 0, .int (xs (Int32.toNatClampNeg (x3 + 1))), .int (xs (Int32.toNatClampNeg (x3 + 2))), .int (xs (Int32.toNatClampNeg (x3 + 3))), .int (xs (Int32.toNatClampNeg (x3 + 4)))], [])) rfl (E_X8_put_0 (xs (Int32.toNatClampNeg (x3 + 1))) (xs (Int32.toNatClampNeg (x3 + 2))) (xs (Int32.toNatClampNeg (x3 + 3))) (xs (Int32.toNatClampNeg (x3 + 4))) h v126 h125 e221) ?_
                                                                        refine Ev.steps (B := (1076, [(0, .ref 206), (1, .ref 0), (2, .ref 75), (3, .int x3)], [.int (x3 + 1), .ref 206, .ref 75, .int v126], h125)) 5 rfl ?_
                                                                        obtain ⟨g222, hM⟩ := am_gS hM
                                                                        refine Ev.g (B := (1077, [(0, .ref 206), (1, .ref 0), (2, .ref 75), (3, .int x3)], [.int (xs (Int32.toNatClampNeg (x3 + 1))), .ref 75, .int v126], h125)) g222 rfl ?_
                                                                        refine Ev.steps (B := (1081, [(0, .ref 206), (1, .ref 0), (2, .ref 75), (3, .int x3)], [.int (x3 + 2), .ref 206, .int (xs (Int32.toNatClampNeg (x3 + 1))), .ref 75, .int v126], h125)) 4 rfl ?_
                                                                        obtain ⟨g223, hM⟩ := am_gS hM
                                                                        refine Ev.g (B := (1082, [(0, .ref 206), (1, .ref 0), (2, .ref 75), (3, .int x3)], [.int (xs (Int32.toNatClampNeg (x3 + 2))), .int (xs (Int32.toNatClampNeg (x3 + 1))), .ref 75, .int v126], h125)) g223 rfl ?_
                                                                        refine Ev.steps (B := (1086, [(0, .ref 206), (1, .ref 0), (2, .ref 75), (3, .int x3)], [.int (x3 + 3), .ref 206, .int (xs (Int32.toNatClampNeg (x3 + 2))), .int (xs (Int32.toNatClampNeg (x3 + 1))), .ref 75, .int v126], h125)) 4 rfl ?_
                                                                        obtain ⟨g224, hM⟩ := am_gS hM
                                                                        refine Ev.g (B := (1087, [(0, .ref 206), (1, .ref 0), (2, .ref 75), (3, .int x3)], [.int (xs (Int32.toNatClampNeg (x3 + 3))), .int (xs (Int32.toNatClampNeg (x3 + 2))), .int (xs (Int32.toNatClampNeg (x3 + 1))), .ref 75, .int v126], h125)) g224 rfl ?_
                                                                        refine Ev.steps (B := (1091, [(0, .ref 206), (1, .ref 0), (2, .ref 75), (3, .int x3)], [.int (x3 + 4), .ref 206, .int (xs (Int32.toNatClampNeg (x3 + 3))), .int (xs (Int32.toNatClampNeg (x3 + 2))), .int (xs (Int32.toNatClampNeg (x3 + 1))), .ref 75, .int v126], h125)) 4 rfl ?_
                                                                        obtain ⟨g225, hM⟩ := am_gS hM
                                                                        refine Ev.g (B := (1092, [(0, .ref 206), (1, .ref 0), (2, .ref 75), (3, .int x3)], [.int (xs (Int32.toNatClampNeg (x3 + 4))), .int (xs (Int32.toNatClampNeg (x3 + 3))), .int (xs (Int32.toNatClampNeg (x3 + 2))), .int (xs (Int32.toNatClampNeg (x3 + 1))), .ref 75, .int v126], h125)) g225 rfl ?_
                                                                        obtain ⟨v128, h127, e226, hM⟩ := am_bS hM
                                                                        refine Ev.call (q := (mr_X9_put, [.ref 75, .int (xs (Int32.toNatClampNeg (x3 + 1))), .int (xs (Int32.toNatClampNeg (x3 + 2))), .int (xs (Int32.toNatClampNeg (x3 + 3))), .int (xs (Int32.toNatClampNeg (x3 + 4)))], [.int v126])) rfl (E_X9_put_75 (xs (Int32.toNatClampNeg (x3 + 1))) (xs (Int32.toNatClampNeg (x3 + 2))) (xs (Int32.toNatClampNeg (x3 + 3))) (xs (Int32.toNatClampNeg (x3 + 4))) h125 v128 h127 e226) ?_
                                                                        refine Ev.br (b := decide (v126 = v128)) rfl (fun c227 => ?_) (fun c227 => ?_)
                                                                        · have c227 := of_decide_eq_true c227
                                                                          rw [if_pos c227] at hM
                                                                          refine Ev.steps (B := (18, [(3, .int (x3 + 6)), (0, .ref 206), (1, .ref 0), (2, .ref 75)], [], h127)) 2 rfl ?_
                                                                          refine Ev.lv (lv := [(0, .ref 206), (1, .ref 0), (2, .ref 75), (3, .int (x3 + 6))]) ⟨rfl, rfl, rfl, rfl, trivial⟩ rfl rfl ?_
                                                                          exact ih (x3 + 6) h127 hM
                                                                        · have c227 := of_decide_eq_false c227
                                                                          rw [if_neg c227] at hM
                                                                          refine Ev.steps (B := (1099, [(0, .ref 206), (1, .ref 0), (2, .ref 75), (3, .int x3)], [.int 0], h127)) 1 rfl ?_
                                                                          obtain ⟨rfl, rfl⟩ := am_sp hM
                                                                          exact Ev.ret rfl
                                                                      · rw [if_neg c216] at hM
                                                                        refine Ev.sw (fun c228 => ?_) (fun c228 => ?_)
                                                                        · rw [if_pos c228] at hM
                                                                          refine Ev.steps (B := (1105, [(0, .ref 206), (1, .ref 0), (2, .ref 75), (3, .int x3)], [.int (x3 + 1), .ref 206, .ref 0], h)) 5 rfl ?_
                                                                          obtain ⟨g229, hM⟩ := am_gS hM
                                                                          refine Ev.g (B := (1106, [(0, .ref 206), (1, .ref 0), (2, .ref 75), (3, .int x3)], [.int (xs (Int32.toNatClampNeg (x3 + 1))), .ref 0], h)) g229 rfl ?_
                                                                          refine Ev.steps (B := (1110, [(0, .ref 206), (1, .ref 0), (2, .ref 75), (3, .int x3)], [.int (x3 + 2), .ref 206, .int (xs (Int32.toNatClampNeg (x3 + 1))), .ref 0], h)) 4 rfl ?_
                                                                          obtain ⟨g230, hM⟩ := am_gS hM
                                                                          refine Ev.g (B := (1111, [(0, .ref 206), (1, .ref 0), (2, .ref 75), (3, .int x3)], [.int (xs (Int32.toNatClampNeg (x3 + 2))), .int (xs (Int32.toNatClampNeg (x3 + 1))), .ref 0], h)) g230 rfl ?_
                                                                          refine Ev.steps (B := (1115, [(0, .ref 206), (1, .ref 0), (2, .ref 75), (3, .int x3)], [.int (x3 + 3), .ref 206, .int (xs (Int32.toNatClampNeg (x3 + 2))), .int (xs (Int32.toNatClampNeg (x3 + 1))), .ref 0], h)) 4 rfl ?_
                                                                          obtain ⟨g231, hM⟩ := am_gS hM
                                                                          refine Ev.g (B := (1116, [(0, .ref 206), (1, .ref 0), (2, .ref 75), (3, .int x3)], [.int (xs (Int32.toNatClampNeg (x3 + 3))), .int (xs (Int32.toNatClampNeg (x3 + 2))), .int (xs (Int32.toNatClampNeg (x3 + 1))), .ref 0], h)) g231 rfl ?_
                                                                          obtain ⟨v130, h129, e232, hM⟩ := am_bS hM
                                                                          refine Ev.call (q := (mr_X8_get, [.ref 0, .int (xs (Int32.toNatClampNeg (x3 + 1))), .int (xs (Int32.toNatClampNeg (x3 + 2))), .int (xs (Int32.toNatClampNeg (x3 + 3)))], [])) rfl (E_X8_get_0 (xs (Int32.toNatClampNeg (x3 + 1))) (xs (Int32.toNatClampNeg (x3 + 2))) (xs (Int32.toNatClampNeg (x3 + 3))) h v130 h129 e232) ?_
                                                                          refine Ev.steps (B := (1124, [(0, .ref 206), (1, .ref 0), (2, .ref 75), (3, .int x3)], [.int (x3 + 1), .ref 206, .ref 75, .int v130], h129)) 5 rfl ?_
                                                                          obtain ⟨g233, hM⟩ := am_gS hM
                                                                          refine Ev.g (B := (1125, [(0, .ref 206), (1, .ref 0), (2, .ref 75), (3, .int x3)], [.int (xs (Int32.toNatClampNeg (x3 + 1))), .ref 75, .int v130], h129)) g233 rfl ?_
                                                                          refine Ev.steps (B := (1129, [(0, .ref 206), (1, .ref 0), (2, .ref 75), (3, .int x3)], [.int (x3 + 2), .ref 206, .int (xs (Int32.toNatClampNeg (x3 + 1))), .ref 75, .int v130], h129)) 4 rfl ?_
                                                                          obtain ⟨g234, hM⟩ := am_gS hM
                                                                          refine Ev.g (B := (1130, [(0, .ref 206), (1, .ref 0), (2, .ref 75), (3, .int x3)], [.int (xs (Int32.toNatClampNeg (x3 + 2))), .int (xs (Int32.toNatClampNeg (x3 + 1))), .ref 75, .int v130], h129)) g234 rfl ?_
                                                                          refine Ev.steps (B := (1134, [(0, .ref 206), (1, .ref 0), (2, .ref 75), (3, .int x3)], [.int (x3 + 3), .ref 206, .int (xs (Int32.toNatClampNeg (x3 + 2))), .int (xs (Int32.toNatClampNeg (x3 + 1))), .ref 75, .int v130], h129)) 4 rfl ?_
                                                                          obtain ⟨g235, hM⟩ := am_gS hM
                                                                          refine Ev.g (B := (1135, [(0, .ref 206), (1, .ref 0), (2, .ref 75), (3, .int x3)], [.int (xs (Int32.toNatClampNeg (x3 + 3))), .int (xs (Int32.toNatClampNeg (x3 + 2))), .int (xs (Int32.toNatClampNeg (x3 + 1))), .ref 75, .int v130], h129)) g235 rfl ?_
                                                                          obtain ⟨v132, h131, e236, hM⟩ := am_bS hM
                                                                          refine Ev.call (q := (mr_X9_get, [.ref 75, .int (xs (Int32.toNatClampNeg (x3 + 1))), .int (xs (Int32.toNatClampNeg (x3 + 2))), .int (xs (Int32.toNatClampNeg (x3 + 3)))], [.int v130])) rfl (E_X9_get_75 (xs (Int32.toNatClampNeg (x3 + 1))) (xs (Int32.toNatClampNeg (x3 + 2))) (xs (Int32.toNatClampNeg (x3 + 3))) h129 v132 h131 e236) ?_
                                                                          refine Ev.br (b := decide (v130 = v132)) rfl (fun c237 => ?_) (fun c237 => ?_)
                                                                          · have c237 := of_decide_eq_true c237
                                                                            rw [if_pos c237] at hM
                                                                            refine Ev.steps (B := (18, [(3, .int (x3 + 6)), (0, .ref 206), (1, .ref 0), (2, .ref 75)], [], h131)) 2 rfl ?_
                                                                            refine Ev.lv (lv := [(0, .ref 206), (1, .ref 0), (2, .ref 75), (3, .int (x3 + 6))]) ⟨rfl, rfl, rfl, rfl, trivial⟩ rfl rfl ?_
                                                                            exact ih (x3 + 6) h131 hM
                                                                          · have c237 := of_decide_eq_false c237
                                                                            rw [if_neg c237] at hM
                                                                            refine Ev.steps (B := (1142, [(0, .ref 206), (1, .ref 0), (2, .ref 75), (3, .int x3)], [.int 0], h131)) 1 rfl ?_
                                                                            obtain ⟨rfl, rfl⟩ := am_sp hM
                                                                            exact Ev.ret rfl
                                                                        · rw [if_neg c228] at hM
                                                                          refine Ev.sw (fun c238 => ?_) (fun c238 => ?_)
                                                                          · rw [if_pos c238] at hM
                                                                            refine Ev.steps (B := (1148, [(0, .ref 206), (1, .ref 0), (2, .ref 75), (3, .int x3)], [.int (x3 + 1), .ref 206, .ref 0], h)) 5 rfl ?_
                                                                            obtain ⟨g239, hM⟩ := am_gS hM
                                                                            refine Ev.g (B := (1149, [(0, .ref 206), (1, .ref 0), (2, .ref 75), (3, .int x3)], [.int (xs (Int32.toNatClampNeg (x3 + 1))), .ref 0], h)) g239 rfl ?_
                                                                            refine Ev.steps (B := (1153, [(0, .ref 206), (1, .ref 0), (2, .ref 75), (3, .int x3)], [.int (x3 + 2), .ref 206, .int (xs (Int32.toNatClampNeg (x3 + 1))), .ref 0], h)) 4 rfl ?_
                                                                            obtain ⟨g240, hM⟩ := am_gS hM
                                                                            refine Ev.g (B := (1154, [(0, .ref 206), (1, .ref 0), (2, .ref 75), (3, .int x3)], [.int (xs (Int32.toNatClampNeg (x3 + 2))), .int (xs (Int32.toNatClampNeg (x3 + 1))), .ref 0], h)) g240 rfl ?_
                                                                            refine Ev.steps (B := (1158, [(0, .ref 206), (1, .ref 0), (2, .ref 75), (3, .int x3)], [.int (x3 + 3), .ref 206, .int (xs (Int32.toNatClampNeg (x3 + 2))), .int (xs (Int32.toNatClampNeg (x3 + 1))), .ref 0], h)) 4 rfl ?_
                                                                            obtain ⟨g241, hM⟩ := am_gS hM
                                                                            refine Ev.g (B := (1159, [(0, .ref 206), (1, .ref 0), (2, .ref 75), (3, .int x3)], [.int (xs (Int32.toNatClampNeg (x3 + 3))), .int (xs (Int32.toNatClampNeg (x3 + 2))), .int (xs (Int32.toNatClampNeg (x3 + 1))), .ref 0], h)) g241 rfl ?_
                                                                            refine Ev.steps (B := (1163, [(0, .ref 206), (1, .ref 0), (2, .ref 75), (3, .int x3)], [.int (x3 + 4), .ref 206, .int (xs (Int32.toNatClampNeg (x3 + 3))), .int (xs (Int32.toNatClampNeg (x3 + 2))), .int (xs (Int32.toNatClampNeg (x3 + 1))), .ref 0], h)) 4 rfl ?_
                                                                            obtain ⟨g242, hM⟩ := am_gS hM
                                                                            refine Ev.g (B := (1164, [(0, .ref 206), (1, .ref 0), (2, .ref 75), (3, .int x3)], [.int (xs (Int32.toNatClampNeg (x3 + 4))), .int (xs (Int32.toNatClampNeg (x3 + 3))), .int (xs (Int32.toNatClampNeg (x3 + 2))), .int (xs (Int32.toNatClampNeg (x3 + 1))), .ref 0], h)) g242 rfl ?_
                                                                            refine Ev.steps (B := (1168, [(0, .ref 206), (1, .ref 0), (2, .ref 75), (3, .int x3)], [.int (x3 + 5), .ref 206, .int (xs (Int32.toNatClampNeg (x3 + 4))), .int (xs (Int32.toNatClampNeg (x3 + 3))), .int (xs (Int32.toNatClampNeg (x3 + 2))), .int (xs (Int32.toNatClampNeg (x3 + 1))), .ref 0], h)) 4 rfl ?_
                                                                            obtain ⟨g243, hM⟩ := am_gS hM
                                                                            refine Ev.g (B := (1169, [(0, .ref 206), (1, .ref 0), (2, .ref 75), (3, .int x3)], [.int (xs (Int32.toNatClampNeg (x3 + 5))), .int (xs (Int32.toNatClampNeg (x3 + 4))), .int (xs (Int32.toNatClampNeg (x3 + 3))), .int (xs (Int32.toNatClampNeg (x3 + 2))), .int (xs (Int32.toNatClampNeg (x3 + 1))), .ref 0], h)) g243 rfl ?_
                                                                            obtain ⟨v134, h133, e244, hM⟩ := am_bS hM
                                                                            refine Ev.call (q := (mr_X8_copy, [.ref 0, .int (xs (Int32.toNatClampNeg (x3 + 1))), .int (xs (Int32.toNatClampNeg (x3 + 2))), .int (xs (Int32.toNatClampNeg (x3 + 3))), .int (xs (Int32.toNatClampNeg (x3 + 4))), .int (xs (Int32.toNatClampNeg (x3 + 5)))], [])) rfl (E_X8_copy_0 (xs (Int32.toNatClampNeg (x3 + 1))) (xs (Int32.toNatClampNeg (x3 + 2))) (xs (Int32.toNatClampNeg (x3 + 3))) (xs (Int32.toNatClampNeg (x3 + 4))) (xs (Int32.toNatClampNeg (x3 + 5))) h v134 h133 e244) ?_
                                                                            refine Ev.steps (B := (1177, [(0, .ref 206), (1, .ref 0), (2, .ref 75), (3, .int x3)], [.int (x3 + 1), .ref 206, .ref 75, .int v134], h133)) 5 rfl ?_
                                                                            obtain ⟨g245, hM⟩ := am_gS hM
                                                                            refine Ev.g (B := (1178, [(0, .ref 206), (1, .ref 0), (2, .ref 75), (3, .int x3)], [.int (xs (Int32.toNatClampNeg (x3 + 1))), .ref 75, .int v134], h133)) g245 rfl ?_
                                                                            refine Ev.steps (B := (1182, [(0, .ref 206), (1, .ref 0), (2, .ref 75), (3, .int x3)], [.int (x3 + 2), .ref 206, .int (xs (Int32.toNatClampNeg (x3 + 1))), .ref 75, .int v134], h133)) 4 rfl ?_
                                                                            obtain ⟨g246, hM⟩ := am_gS hM
                                                                            refine Ev.g (B := (1183, [(0, .ref 206), (1, .ref 0), (2, .ref 75), (3, .int x3)], [.int (xs (Int32.toNatClampNeg (x3 + 2))), .int (xs (Int32.toNatClampNeg (x3 + 1))), .ref 75, .int v134], h133)) g246 rfl ?_
                                                                            refine Ev.steps (B := (1187, [(0, .ref 206), (1, .ref 0), (2, .ref 75), (3, .int x3)], [.int (x3 + 3), .ref 206, .int (xs (Int32.toNatClampNeg (x3 + 2))), .int (xs (Int32.toNatClampNeg (x3 + 1))), .ref 75, .int v134], h133)) 4 rfl ?_
                                                                            obtain ⟨g247, hM⟩ := am_gS hM
                                                                            refine Ev.g (B := (1188, [(0, .ref 206), (1, .ref 0), (2, .ref 75), (3, .int x3)], [.int (xs (Int32.toNatClampNeg (x3 + 3))), .int (xs (Int32.toNatClampNeg (x3 + 2))), .int (xs (Int32.toNatClampNeg (x3 + 1))), .ref 75, .int v134], h133)) g247 rfl ?_
                                                                            refine Ev.steps (B := (1192, [(0, .ref 206), (1, .ref 0), (2, .ref 75), (3, .int x3)], [.int (x3 + 4), .ref 206, .int (xs (Int32.toNatClampNeg (x3 + 3))), .int (xs (Int32.toNatClampNeg (x3 + 2))), .int (xs (Int32.toNatClampNeg (x3 + 1))), .ref 75, .int v134], h133)) 4 rfl ?_
                                                                            obtain ⟨g248, hM⟩ := am_gS hM
                                                                            refine Ev.g (B := (1193, [(0, .ref 206), (1, .ref 0), (2, .ref 75), (3, .int x3)], [.int (xs (Int32.toNatClampNeg (x3 + 4))), .int (xs (Int32.toNatClampNeg (x3 + 3))), .int (xs (Int32.toNatClampNeg (x3 + 2))), .int (xs (Int32.toNatClampNeg (x3 + 1))), .ref 75, .int v134], h133)) g248 rfl ?_
                                                                            refine Ev.steps (B := (1197, [(0, .ref 206), (1, .ref 0), (2, .ref 75), (3, .int x3)], [.int (x3 + 5), .ref 206, .int (xs (Int32.toNatClampNeg (x3 + 4))), .int (xs (Int32.toNatClampNeg (x3 + 3))), .int (xs (Int32.toNatClampNeg (x3 + 2))), .int (xs (Int32.toNatClampNeg (x3 + 1))), .ref 75, .int v134], h133)) 4 rfl ?_
                                                                            obtain ⟨g249, hM⟩ := am_gS hM
                                                                            refine Ev.g (B := (1198, [(0, .ref 206), (1, .ref 0), (2, .ref 75), (3, .int x3)], [.int (xs (Int32.toNatClampNeg (x3 + 5))), .int (xs (Int32.toNatClampNeg (x3 + 4))), .int (xs (Int32.toNatClampNeg (x3 + 3))), .int (xs (Int32.toNatClampNeg (x3 + 2))), .int (xs (Int32.toNatClampNeg (x3 + 1))), .ref 75, .int v134], h133)) g249 rfl ?_
                                                                            obtain ⟨v136, h135, e250, hM⟩ := am_bS hM
                                                                            refine Ev.call (q := (mr_X9_copy, [.ref 75, .int (xs (Int32.toNatClampNeg (x3 + 1))), .int (xs (Int32.toNatClampNeg (x3 + 2))), .int (xs (Int32.toNatClampNeg (x3 + 3))), .int (xs (Int32.toNatClampNeg (x3 + 4))), .int (xs (Int32.toNatClampNeg (x3 + 5)))], [.int v134])) rfl (E_X9_copy_75 n (xs (Int32.toNatClampNeg (x3 + 1))) (xs (Int32.toNatClampNeg (x3 + 2))) (xs (Int32.toNatClampNeg (x3 + 3))) (xs (Int32.toNatClampNeg (x3 + 4))) (xs (Int32.toNatClampNeg (x3 + 5))) h133 v136 h135 e250) ?_
                                                                            refine Ev.br (b := decide (v134 = v136)) rfl (fun c251 => ?_) (fun c251 => ?_)
                                                                            · have c251 := of_decide_eq_true c251
                                                                              rw [if_pos c251] at hM
                                                                              refine Ev.steps (B := (18, [(3, .int (x3 + 6)), (0, .ref 206), (1, .ref 0), (2, .ref 75)], [], h135)) 2 rfl ?_
                                                                              refine Ev.lv (lv := [(0, .ref 206), (1, .ref 0), (2, .ref 75), (3, .int (x3 + 6))]) ⟨rfl, rfl, rfl, rfl, trivial⟩ rfl rfl ?_
                                                                              exact ih (x3 + 6) h135 hM
                                                                            · have c251 := of_decide_eq_false c251
                                                                              rw [if_neg c251] at hM
                                                                              refine Ev.steps (B := (1205, [(0, .ref 206), (1, .ref 0), (2, .ref 75), (3, .int x3)], [.int 0], h135)) 1 rfl ?_
                                                                              obtain ⟨rfl, rfl⟩ := am_sp hM
                                                                              exact Ev.ret rfl
                                                                          · rw [if_neg c238] at hM
                                                                            refine Ev.sw (fun c252 => ?_) (fun c252 => ?_)
                                                                            · rw [if_pos c252] at hM
                                                                              refine Ev.steps (B := (1211, [(0, .ref 206), (1, .ref 0), (2, .ref 75), (3, .int x3)], [.int (x3 + 1), .ref 206, .ref 0], h)) 5 rfl ?_
                                                                              obtain ⟨g253, hM⟩ := am_gS hM
                                                                              refine Ev.g (B := (1212, [(0, .ref 206), (1, .ref 0), (2, .ref 75), (3, .int x3)], [.int (xs (Int32.toNatClampNeg (x3 + 1))), .ref 0], h)) g253 rfl ?_
                                                                              refine Ev.steps (B := (1216, [(0, .ref 206), (1, .ref 0), (2, .ref 75), (3, .int x3)], [.int (x3 + 2), .ref 206, .int (xs (Int32.toNatClampNeg (x3 + 1))), .ref 0], h)) 4 rfl ?_
                                                                              obtain ⟨g254, hM⟩ := am_gS hM
                                                                              refine Ev.g (B := (1217, [(0, .ref 206), (1, .ref 0), (2, .ref 75), (3, .int x3)], [.int (xs (Int32.toNatClampNeg (x3 + 2))), .int (xs (Int32.toNatClampNeg (x3 + 1))), .ref 0], h)) g254 rfl ?_
                                                                              obtain ⟨v138, h137, e255, hM⟩ := am_bS hM
                                                                              refine Ev.call (q := (mr_X8_write, [.ref 0, .int (xs (Int32.toNatClampNeg (x3 + 1))), .int (xs (Int32.toNatClampNeg (x3 + 2)))], [])) rfl (E_X8_write_0 n (xs (Int32.toNatClampNeg (x3 + 1))) (xs (Int32.toNatClampNeg (x3 + 2))) h v138 h137 e255) ?_
                                                                              refine Ev.steps (B := (1225, [(0, .ref 206), (1, .ref 0), (2, .ref 75), (3, .int x3)], [.int (x3 + 1), .ref 206, .ref 75, .int v138], h137)) 5 rfl ?_
                                                                              obtain ⟨g256, hM⟩ := am_gS hM
                                                                              refine Ev.g (B := (1226, [(0, .ref 206), (1, .ref 0), (2, .ref 75), (3, .int x3)], [.int (xs (Int32.toNatClampNeg (x3 + 1))), .ref 75, .int v138], h137)) g256 rfl ?_
                                                                              refine Ev.steps (B := (1230, [(0, .ref 206), (1, .ref 0), (2, .ref 75), (3, .int x3)], [.int (x3 + 2), .ref 206, .int (xs (Int32.toNatClampNeg (x3 + 1))), .ref 75, .int v138], h137)) 4 rfl ?_
                                                                              obtain ⟨g257, hM⟩ := am_gS hM
                                                                              refine Ev.g (B := (1231, [(0, .ref 206), (1, .ref 0), (2, .ref 75), (3, .int x3)], [.int (xs (Int32.toNatClampNeg (x3 + 2))), .int (xs (Int32.toNatClampNeg (x3 + 1))), .ref 75, .int v138], h137)) g257 rfl ?_
                                                                              obtain ⟨v140, h139, e258, hM⟩ := am_bS hM
                                                                              refine Ev.call (q := (mr_X9_write, [.ref 75, .int (xs (Int32.toNatClampNeg (x3 + 1))), .int (xs (Int32.toNatClampNeg (x3 + 2)))], [.int v138])) rfl (E_X9_write_75 n (xs (Int32.toNatClampNeg (x3 + 1))) (xs (Int32.toNatClampNeg (x3 + 2))) h137 v140 h139 e258) ?_
                                                                              refine Ev.br (b := decide (v138 = v140)) rfl (fun c259 => ?_) (fun c259 => ?_)
                                                                              · have c259 := of_decide_eq_true c259
                                                                                rw [if_pos c259] at hM
                                                                                refine Ev.steps (B := (18, [(3, .int (x3 + 6)), (0, .ref 206), (1, .ref 0), (2, .ref 75)], [], h139)) 2 rfl ?_
                                                                                refine Ev.lv (lv := [(0, .ref 206), (1, .ref 0), (2, .ref 75), (3, .int (x3 + 6))]) ⟨rfl, rfl, rfl, rfl, trivial⟩ rfl rfl ?_
                                                                                exact ih (x3 + 6) h139 hM
                                                                              · have c259 := of_decide_eq_false c259
                                                                                rw [if_neg c259] at hM
                                                                                refine Ev.steps (B := (1238, [(0, .ref 206), (1, .ref 0), (2, .ref 75), (3, .int x3)], [.int 0], h139)) 1 rfl ?_
                                                                                obtain ⟨rfl, rfl⟩ := am_sp hM
                                                                                exact Ev.ret rfl
                                                                            · rw [if_neg c252] at hM
                                                                              refine Ev.sw (fun c260 => ?_) (fun c260 => ?_)
                                                                              · rw [if_pos c260] at hM
                                                                                refine Ev.steps (B := (1244, [(0, .ref 206), (1, .ref 0), (2, .ref 75), (3, .int x3)], [.int (x3 + 1), .ref 206, .ref 0], h)) 5 rfl ?_
                                                                                obtain ⟨g261, hM⟩ := am_gS hM
                                                                                refine Ev.g (B := (1245, [(0, .ref 206), (1, .ref 0), (2, .ref 75), (3, .int x3)], [.int (xs (Int32.toNatClampNeg (x3 + 1))), .ref 0], h)) g261 rfl ?_
                                                                                obtain ⟨v142, h141, e262, hM⟩ := am_bS hM
                                                                                refine Ev.call (q := (mr_X8_count, [.ref 0, .int (xs (Int32.toNatClampNeg (x3 + 1)))], [])) rfl (E_X8_count_0 n (xs (Int32.toNatClampNeg (x3 + 1))) h v142 h141 e262) ?_
                                                                                refine Ev.steps (B := (1253, [(0, .ref 206), (1, .ref 0), (2, .ref 75), (3, .int x3)], [.int (x3 + 1), .ref 206, .ref 75, .int v142], h141)) 5 rfl ?_
                                                                                obtain ⟨g263, hM⟩ := am_gS hM
                                                                                refine Ev.g (B := (1254, [(0, .ref 206), (1, .ref 0), (2, .ref 75), (3, .int x3)], [.int (xs (Int32.toNatClampNeg (x3 + 1))), .ref 75, .int v142], h141)) g263 rfl ?_
                                                                                obtain ⟨v144, h143, e264, hM⟩ := am_bS hM
                                                                                refine Ev.call (q := (mr_X9_count, [.ref 75, .int (xs (Int32.toNatClampNeg (x3 + 1)))], [.int v142])) rfl (E_X9_count_75 n (xs (Int32.toNatClampNeg (x3 + 1))) h141 v144 h143 e264) ?_
                                                                                refine Ev.br (b := decide (v142 = v144)) rfl (fun c265 => ?_) (fun c265 => ?_)
                                                                                · have c265 := of_decide_eq_true c265
                                                                                  rw [if_pos c265] at hM
                                                                                  refine Ev.steps (B := (18, [(3, .int (x3 + 6)), (0, .ref 206), (1, .ref 0), (2, .ref 75)], [], h143)) 2 rfl ?_
                                                                                  refine Ev.lv (lv := [(0, .ref 206), (1, .ref 0), (2, .ref 75), (3, .int (x3 + 6))]) ⟨rfl, rfl, rfl, rfl, trivial⟩ rfl rfl ?_
                                                                                  exact ih (x3 + 6) h143 hM
                                                                                · have c265 := of_decide_eq_false c265
                                                                                  rw [if_neg c265] at hM
                                                                                  refine Ev.steps (B := (1261, [(0, .ref 206), (1, .ref 0), (2, .ref 75), (3, .int x3)], [.int 0], h143)) 1 rfl ?_
                                                                                  obtain ⟨rfl, rfl⟩ := am_sp hM
                                                                                  exact Ev.ret rfl
                                                                              · rw [if_neg c260] at hM
                                                                                refine Ev.sw (fun c266 => ?_) (fun c266 => ?_)
                                                                                · rw [if_pos c266] at hM
                                                                                  refine Ev.steps (B := (1263, [(0, .ref 206), (1, .ref 0), (2, .ref 75), (3, .int x3)], [.ref 0], h)) 1 rfl ?_
                                                                                  obtain ⟨v146, h145, e267, hM⟩ := am_bS hM
                                                                                  refine Ev.call (q := (mr_X8_digest, [.ref 0], [])) rfl (E_X8_digest_0 n h v146 h145 e267) ?_
                                                                                  refine Ev.steps (B := (1267, [(0, .ref 206), (1, .ref 0), (2, .ref 75), (3, .int x3)], [.ref 75, .long v146], h145)) 1 rfl ?_
                                                                                  obtain ⟨v148, h147, e268, hM⟩ := am_bS hM
                                                                                  refine Ev.call (q := (mr_X9_digest, [.ref 75], [.long v146])) rfl (E_X9_digest_75 n h145 v148 h147 e268) ?_
                                                                                  refine Ev.steps (B := (1271, [(0, .ref 206), (1, .ref 0), (2, .ref 75), (3, .int x3)], [.int (lg_cmp v146 v148)], h147)) 1 rfl ?_
                                                                                  refine Ev.br (b := decide ((lg_cmp v146 v148) = 0)) rfl (fun c269 => ?_) (fun c269 => ?_)
                                                                                  · have c269 := of_decide_eq_true c269
                                                                                    rw [if_pos c269] at hM
                                                                                    refine Ev.steps (B := (18, [(3, .int (x3 + 6)), (0, .ref 206), (1, .ref 0), (2, .ref 75)], [], h147)) 2 rfl ?_
                                                                                    refine Ev.lv (lv := [(0, .ref 206), (1, .ref 0), (2, .ref 75), (3, .int (x3 + 6))]) ⟨rfl, rfl, rfl, rfl, trivial⟩ rfl rfl ?_
                                                                                    exact ih (x3 + 6) h147 hM
                                                                                  · have c269 := of_decide_eq_false c269
                                                                                    rw [if_neg c269] at hM
                                                                                    refine Ev.steps (B := (1275, [(0, .ref 206), (1, .ref 0), (2, .ref 75), (3, .int x3)], [.int 0], h147)) 1 rfl ?_
                                                                                    obtain ⟨rfl, rfl⟩ := am_sp hM
                                                                                    exact Ev.ret rfl
                                                                                · rw [if_neg c266] at hM
                                                                                  refine Ev.steps (B := (18, [(3, .int (x3 + 6)), (0, .ref 206), (1, .ref 0), (2, .ref 75)], [], h)) 2 rfl ?_
                                                                                  refine Ev.lv (lv := [(0, .ref 206), (1, .ref 0), (2, .ref 75), (3, .int (x3 + 6))]) ⟨rfl, rfl, rfl, rfl, trivial⟩ rfl rfl ?_
                                                                                  exact ih (x3 + 6) h hM
