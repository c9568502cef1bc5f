/-- the law as a method, whatever its name -/
abbrev yW (nm : String) : xY := (⟨"FlueHouseLaw", nm, "([I)Z"⟩, code, 4, (some .boolean))
theorem dl {nm : String} {pc n : Nat} {i : Instr} (h : decode code pc = .ok (i, n)) : decode (yW nm).2.1 pc = .ok (i, n) := h
def W_law_J1406 (sc : List Int) (rc : Int → xR → xM → Option (Int × xR × xM)) (v3 : Int) (R : xR) (M : xM) : Option (Int × xR × xM) :=
  xl (w32 (v3 + 6)) fun v3_9 =>
  rc v3_9 R M
def W_law_F18 (sc : List Int) : Nat → Int → xR → xM → Option (Int × xR × xM)
  | 0, _, _, _ => none
  | n + 1, v3, R, M =>
    if w32 (((sc.length : Int)) - 6) < v3 then
      some (1, R, M)
    else
      xch (0 ≤ v3 ∧ v3 < (sc.length : Int)) <|
      if xand (sc.getD (Int.toNat v3) 0) 31 = 0 then
        xb1 (f_X_status 1 M) fun r_4 =>
        xb1 (f_M_status 104 M) fun r_6 =>
        if r_4 = r_6 then
          W_law_J1406 sc (W_law_F18 sc  n) v3 R M
        else
          some (0, R, M)
      else
        if xand (sc.getD (Int.toNat v3) 0) 31 = 1 then
          xch (0 ≤ w32 (v3 + 1) ∧ w32 (v3 + 1) < (sc.length : Int)) <|
          xch (0 ≤ w32 (v3 + 2) ∧ w32 (v3 + 2) < (sc.length : Int)) <|
          xch (0 ≤ w32 (v3 + 3) ∧ w32 (v3 + 3) < (sc.length : Int)) <|
          xb2 (f_X_tray R 1 (sc.getD (Int.toNat (w32 (v3 + 1))) 0) (sc.getD (Int.toNat (w32 (v3 + 2))) 0) (sc.getD (Int.toNat (w32 (v3 + 3))) 0) M) fun r_14 M_15 =>
          xb2 (f_M_tray R 104 (sc.getD (Int.toNat (w32 (v3 + 1))) 0) (sc.getD (Int.toNat (w32 (v3 + 2))) 0) (sc.getD (Int.toNat (w32 (v3 + 3))) 0) M_15) fun r_17 M_18 =>
          if r_14 = r_17 then
            W_law_J1406 sc (W_law_F18 sc  n) v3 R M_18
          else
            some (0, R, M_18)
        else
          if xand (sc.getD (Int.toNat v3) 0) 31 = 2 then
            xch (0 ≤ w32 (v3 + 1) ∧ w32 (v3 + 1) < (sc.length : Int)) <|
            xch (0 ≤ w32 (v3 + 2) ∧ w32 (v3 + 2) < (sc.length : Int)) <|
            xch (0 ≤ w32 (v3 + 3) ∧ w32 (v3 + 3) < (sc.length : Int)) <|
            xch (0 ≤ w32 (v3 + 4) ∧ w32 (v3 + 4) < (sc.length : Int)) <|
            xb2 (f_X_write R 1 (sc.getD (Int.toNat (w32 (v3 + 1))) 0) (sc.getD (Int.toNat (w32 (v3 + 2))) 0) (yor (yshl (sc.getD (Int.toNat (w32 (v3 + 3))) 0) 32) (yand (sc.getD (Int.toNat (w32 (v3 + 4))) 0) 4294967295)) M) fun r_26 M_27 =>
            xb2 (f_M_write R 104 (sc.getD (Int.toNat (w32 (v3 + 1))) 0) (sc.getD (Int.toNat (w32 (v3 + 2))) 0) (yor (yshl (sc.getD (Int.toNat (w32 (v3 + 3))) 0) 32) (yand (sc.getD (Int.toNat (w32 (v3 + 4))) 0) 4294967295)) M_27) fun r_29 M_30 =>
            if r_26 = r_29 then
              W_law_J1406 sc (W_law_F18 sc  n) v3 R M_30
            else
              some (0, R, M_30)
          else
            if xand (sc.getD (Int.toNat v3) 0) 31 = 3 then
              xch (0 ≤ w32 (v3 + 1) ∧ w32 (v3 + 1) < (sc.length : Int)) <|
              xch (0 ≤ w32 (v3 + 2) ∧ w32 (v3 + 2) < (sc.length : Int)) <|
              xb2 (f_X_read R 1 (sc.getD (Int.toNat (w32 (v3 + 1))) 0) (sc.getD (Int.toNat (w32 (v3 + 2))) 0) M) fun r_36 M_37 =>
              xb2 (f_M_read R 104 (sc.getD (Int.toNat (w32 (v3 + 1))) 0) (sc.getD (Int.toNat (w32 (v3 + 2))) 0) M_37) fun r_39 M_40 =>
              if r_36 = r_39 then
                W_law_J1406 sc (W_law_F18 sc  n) v3 R M_40
              else
                some (0, R, M_40)
            else
              if xand (sc.getD (Int.toNat v3) 0) 31 = 4 then
                xch (0 ≤ w32 (v3 + 1) ∧ w32 (v3 + 1) < (sc.length : Int)) <|
                xch (0 ≤ w32 (v3 + 2) ∧ w32 (v3 + 2) < (sc.length : Int)) <|
                xch (0 ≤ w32 (v3 + 3) ∧ w32 (v3 + 3) < (sc.length : Int)) <|
                xch (0 ≤ w32 (v3 + 4) ∧ w32 (v3 + 4) < (sc.length : Int)) <|
                xch (0 ≤ w32 (v3 + 5) ∧ w32 (v3 + 5) < (sc.length : Int)) <|
                xb2 (f_X_pour R 1 (sc.getD (Int.toNat (w32 (v3 + 1))) 0) (sc.getD (Int.toNat (w32 (v3 + 2))) 0) (sc.getD (Int.toNat (w32 (v3 + 3))) 0) (sc.getD (Int.toNat (w32 (v3 + 4))) 0) (sc.getD (Int.toNat (w32 (v3 + 5))) 0) M) fun r_49 M_50 =>
                xb2 (f_M_pour R 104 (sc.getD (Int.toNat (w32 (v3 + 1))) 0) (sc.getD (Int.toNat (w32 (v3 + 2))) 0) (sc.getD (Int.toNat (w32 (v3 + 3))) 0) (sc.getD (Int.toNat (w32 (v3 + 4))) 0) (sc.getD (Int.toNat (w32 (v3 + 5))) 0) M_50) fun r_52 M_53 =>
                if r_49 = r_52 then
                  W_law_J1406 sc (W_law_F18 sc  n) v3 R M_53
                else
                  some (0, R, M_53)
              else
                if xand (sc.getD (Int.toNat v3) 0) 31 = 5 then
                  xch (0 ≤ w32 (v3 + 1) ∧ w32 (v3 + 1) < (sc.length : Int)) <|
                  xch (0 ≤ w32 (v3 + 2) ∧ w32 (v3 + 2) < (sc.length : Int)) <|
                  xch (0 ≤ w32 (v3 + 3) ∧ w32 (v3 + 3) < (sc.length : Int)) <|
                  xch (0 ≤ w32 (v3 + 4) ∧ w32 (v3 + 4) < (sc.length : Int)) <|
                  xch (0 ≤ w32 (v3 + 5) ∧ w32 (v3 + 5) < (sc.length : Int)) <|
                  xb2 (f_X_feed R 1 (sc.getD (Int.toNat (w32 (v3 + 1))) 0) (sc.getD (Int.toNat (w32 (v3 + 2))) 0) (sc.getD (Int.toNat (w32 (v3 + 3))) 0) (sc.getD (Int.toNat (w32 (v3 + 4))) 0) (sc.getD (Int.toNat (w32 (v3 + 5))) 0) M) fun r_62 M_63 =>
                  xb2 (f_M_feed R 104 (sc.getD (Int.toNat (w32 (v3 + 1))) 0) (sc.getD (Int.toNat (w32 (v3 + 2))) 0) (sc.getD (Int.toNat (w32 (v3 + 3))) 0) (sc.getD (Int.toNat (w32 (v3 + 4))) 0) (sc.getD (Int.toNat (w32 (v3 + 5))) 0) M_63) fun r_65 M_66 =>
                  if r_62 = r_65 then
                    W_law_J1406 sc (W_law_F18 sc  n) v3 R M_66
                  else
                    some (0, R, M_66)
                else
                  if xand (sc.getD (Int.toNat v3) 0) 31 = 6 then
                    xch (0 ≤ w32 (v3 + 1) ∧ w32 (v3 + 1) < (sc.length : Int)) <|
                    xb3 (f_X_plant R 1 (sc.getD (Int.toNat (w32 (v3 + 1))) 0) M) fun r_71 R_72 M_73 =>
                    xb2 (f_M_plant R_72 104 (sc.getD (Int.toNat (w32 (v3 + 1))) 0) M_73) fun r_75 M_76 =>
                    if r_71 = r_75 then
                      W_law_J1406 sc (W_law_F18 sc  n) v3 R_72 M_76
                    else
                      some (0, R_72, M_76)
                  else
                    if xand (sc.getD (Int.toNat v3) 0) 31 = 7 then
                      xch (0 ≤ w32 (v3 + 1) ∧ w32 (v3 + 1) < (sc.length : Int)) <|
                      xb3 (f_X_laws R 1 (sc.getD (Int.toNat (w32 (v3 + 1))) 0) M) fun r_81 R_82 M_83 =>
                      xb2 (f_M_laws R_82 104 (sc.getD (Int.toNat (w32 (v3 + 1))) 0) M_83) fun r_85 M_86 =>
                      if r_81 = r_85 then
                        W_law_J1406 sc (W_law_F18 sc  n) v3 R_82 M_86
                      else
                        some (0, R_82, M_86)
                    else
                      if xand (sc.getD (Int.toNat v3) 0) 31 = 8 then
                        xch (0 ≤ w32 (v3 + 1) ∧ w32 (v3 + 1) < (sc.length : Int)) <|
                        xb1 (f_X_fault R 1 (sc.getD (Int.toNat (w32 (v3 + 1))) 0) M) fun r_91 =>
                        xb1 (f_M_fault 104 (sc.getD (Int.toNat (w32 (v3 + 1))) 0) M) fun r_93 =>
                        if r_91 = r_93 then
                          W_law_J1406 sc (W_law_F18 sc  n) v3 R M
                        else
                          some (0, R, M)
                      else
                        if xand (sc.getD (Int.toNat v3) 0) 31 = 9 then
                          xch (0 ≤ w32 (v3 + 1) ∧ w32 (v3 + 1) < (sc.length : Int)) <|
                          xch (0 ≤ w32 (v3 + 2) ∧ w32 (v3 + 2) < (sc.length : Int)) <|
                          xb2 (f_X_cleaner R 1 (sc.getD (Int.toNat (w32 (v3 + 1))) 0) (sc.getD (Int.toNat (w32 (v3 + 2))) 0) M) fun r_99 M_100 =>
                          xb2 (f_M_cleaner R 104 (sc.getD (Int.toNat (w32 (v3 + 1))) 0) (sc.getD (Int.toNat (w32 (v3 + 2))) 0) M_100) fun r_102 M_103 =>
                          if r_99 = r_102 then
                            W_law_J1406 sc (W_law_F18 sc  n) v3 R M_103
                          else
                            some (0, R, M_103)
                        else
                          if xand (sc.getD (Int.toNat v3) 0) 31 = 10 then
                            xch (0 ≤ w32 (v3 + 1) ∧ w32 (v3 + 1) < (sc.length : Int)) <|
                            xb2 (f_X_works R 1 (sc.getD (Int.toNat (w32 (v3 + 1))) 0) M) fun r_108 M_109 =>
                            xb2 (f_M_works R 104 (sc.getD (Int.toNat (w32 (v3 + 1))) 0) M_109) fun r_111 M_112 =>
                            if r_108 = r_111 then
                              W_law_J1406 sc (W_law_F18 sc  n) v3 R M_112
                            else
                              some (0, R, M_112)
                          else
                            if xand (sc.getD (Int.toNat v3) 0) 31 = 11 then
                              xch (0 ≤ w32 (v3 + 1) ∧ w32 (v3 + 1) < (sc.length : Int)) <|
                              xch (0 ≤ w32 (v3 + 2) ∧ w32 (v3 + 2) < (sc.length : Int)) <|
                              xch (0 ≤ w32 (v3 + 3) ∧ w32 (v3 + 3) < (sc.length : Int)) <|
                              xch (0 ≤ w32 (v3 + 4) ∧ w32 (v3 + 4) < (sc.length : Int)) <|
                              xch (0 ≤ w32 (v3 + 5) ∧ w32 (v3 + 5) < (sc.length : Int)) <|
                              xb2 (f_X_row R 1 (sc.getD (Int.toNat (w32 (v3 + 1))) 0) (sc.getD (Int.toNat (w32 (v3 + 2))) 0) (sc.getD (Int.toNat (w32 (v3 + 3))) 0) (sc.getD (Int.toNat (w32 (v3 + 4))) 0) (sc.getD (Int.toNat (w32 (v3 + 5))) 0) M) fun r_121 M_122 =>
                              xb2 (f_M_row R 104 (sc.getD (Int.toNat (w32 (v3 + 1))) 0) (sc.getD (Int.toNat (w32 (v3 + 2))) 0) (sc.getD (Int.toNat (w32 (v3 + 3))) 0) (sc.getD (Int.toNat (w32 (v3 + 4))) 0) (sc.getD (Int.toNat (w32 (v3 + 5))) 0) M_122) fun r_124 M_125 =>
                              if r_121 = r_124 then
                                W_law_J1406 sc (W_law_F18 sc  n) v3 R M_125
                              else
                                some (0, R, M_125)
                            else
                              if xand (sc.getD (Int.toNat v3) 0) 31 = 12 then
                                xch (0 ≤ w32 (v3 + 1) ∧ w32 (v3 + 1) < (sc.length : Int)) <|
                                xch (0 ≤ w32 (v3 + 2) ∧ w32 (v3 + 2) < (sc.length : Int)) <|
                                xb2 (f_X_warmth R 1 (sc.getD (Int.toNat (w32 (v3 + 1))) 0) (sc.getD (Int.toNat (w32 (v3 + 2))) 0) M) fun r_131 M_132 =>
                                xb2 (f_M_warmth R 104 (sc.getD (Int.toNat (w32 (v3 + 1))) 0) (sc.getD (Int.toNat (w32 (v3 + 2))) 0) M_132) fun r_134 M_135 =>
                                if r_131 = r_134 then
                                  W_law_J1406 sc (W_law_F18 sc  n) v3 R M_135
                                else
                                  some (0, R, M_135)
                              else
                                if xand (sc.getD (Int.toNat v3) 0) 31 = 13 then
                                  xch (0 ≤ w32 (v3 + 1) ∧ w32 (v3 + 1) < (sc.length : Int)) <|
                                  xch (0 ≤ w32 (v3 + 2) ∧ w32 (v3 + 2) < (sc.length : Int)) <|
                                  xch (0 ≤ w32 (v3 + 3) ∧ w32 (v3 + 3) < (sc.length : Int)) <|
                                  xb2 (f_X_knock R 1 (sc.getD (Int.toNat (w32 (v3 + 1))) 0) (sc.getD (Int.toNat (w32 (v3 + 2))) 0) (sc.getD (Int.toNat (w32 (v3 + 3))) 0) M) fun r_142 M_143 =>
                                  xb2 (f_M_knock R 104 (sc.getD (Int.toNat (w32 (v3 + 1))) 0) (sc.getD (Int.toNat (w32 (v3 + 2))) 0) (sc.getD (Int.toNat (w32 (v3 + 3))) 0) M_143) fun r_145 M_146 =>
                                  if r_142 = r_145 then
                                    W_law_J1406 sc (W_law_F18 sc  n) v3 R M_146
                                  else
                                    some (0, R, M_146)
                                else
                                  if xand (sc.getD (Int.toNat v3) 0) 31 = 14 then
                                    xch (0 ≤ w32 (v3 + 1) ∧ w32 (v3 + 1) < (sc.length : Int)) <|
                                    xch (0 ≤ w32 (v3 + 2) ∧ w32 (v3 + 2) < (sc.length : Int)) <|
                                    xch (0 ≤ w32 (v3 + 3) ∧ w32 (v3 + 3) < (sc.length : Int)) <|
                                    xch (0 ≤ w32 (v3 + 4) ∧ w32 (v3 + 4) < (sc.length : Int)) <|
                                    xb2 (f_X_hole R 1 (sc.getD (Int.toNat (w32 (v3 + 1))) 0) (sc.getD (Int.toNat (w32 (v3 + 2))) 0) (sc.getD (Int.toNat (w32 (v3 + 3))) 0) (sc.getD (Int.toNat (w32 (v3 + 4))) 0) M) fun r_154 M_155 =>
                                    xb2 (f_M_hole R 104 (sc.getD (Int.toNat (w32 (v3 + 1))) 0) (sc.getD (Int.toNat (w32 (v3 + 2))) 0) (sc.getD (Int.toNat (w32 (v3 + 3))) 0) (sc.getD (Int.toNat (w32 (v3 + 4))) 0) M_155) fun r_157 M_158 =>
                                    if r_154 = r_157 then
                                      W_law_J1406 sc (W_law_F18 sc  n) v3 R M_158
                                    else
                                      some (0, R, M_158)
                                  else
                                    if xand (sc.getD (Int.toNat v3) 0) 31 = 15 then
                                      xch (0 ≤ w32 (v3 + 1) ∧ w32 (v3 + 1) < (sc.length : Int)) <|
                                      xch (0 ≤ w32 (v3 + 2) ∧ w32 (v3 + 2) < (sc.length : Int)) <|
                                      xch (0 ≤ w32 (v3 + 3) ∧ w32 (v3 + 3) < (sc.length : Int)) <|
                                      xch (0 ≤ w32 (v3 + 4) ∧ w32 (v3 + 4) < (sc.length : Int)) <|
                                      xb2 (f_X_off R 1 (sc.getD (Int.toNat (w32 (v3 + 1))) 0) (sc.getD (Int.toNat (w32 (v3 + 2))) 0) (sc.getD (Int.toNat (w32 (v3 + 3))) 0) (sc.getD (Int.toNat (w32 (v3 + 4))) 0) M) fun r_166 M_167 =>
                                      xb2 (f_M_off R 104 (sc.getD (Int.toNat (w32 (v3 + 1))) 0) (sc.getD (Int.toNat (w32 (v3 + 2))) 0) (sc.getD (Int.toNat (w32 (v3 + 3))) 0) (sc.getD (Int.toNat (w32 (v3 + 4))) 0) M_167) fun r_169 M_170 =>
                                      if r_166 = r_169 then
                                        W_law_J1406 sc (W_law_F18 sc  n) v3 R M_170
                                      else
                                        some (0, R, M_170)
                                    else
                                      if xand (sc.getD (Int.toNat v3) 0) 31 = 16 then
                                        xch (0 ≤ w32 (v3 + 1) ∧ w32 (v3 + 1) < (sc.length : Int)) <|
                                        xb2 (f_X_asof R 1 (sc.getD (Int.toNat (w32 (v3 + 1))) 0) M) fun r_175 M_176 =>
                                        xb2 (f_M_asof 104 (sc.getD (Int.toNat (w32 (v3 + 1))) 0) M_176) fun r_178 M_179 =>
                                        if r_175 = r_178 then
                                          W_law_J1406 sc (W_law_F18 sc  n) v3 R M_179
                                        else
                                          some (0, R, M_179)
                                      else
                                        if xand (sc.getD (Int.toNat v3) 0) 31 = 17 then
                                          xch (0 ≤ w32 (v3 + 1) ∧ w32 (v3 + 1) < (sc.length : Int)) <|
                                          xch (0 ≤ w32 (v3 + 2) ∧ w32 (v3 + 2) < (sc.length : Int)) <|
                                          xb2 (f_X_up R 1 (sc.getD (Int.toNat (w32 (v3 + 1))) 0) (sc.getD (Int.toNat (w32 (v3 + 2))) 0) M) fun r_185 M_186 =>
                                          xb2 (f_M_up R 104 (sc.getD (Int.toNat (w32 (v3 + 1))) 0) (sc.getD (Int.toNat (w32 (v3 + 2))) 0) M_186) fun r_188 M_189 =>
                                          if r_185 = r_188 then
                                            W_law_J1406 sc (W_law_F18 sc  n) v3 R M_189
                                          else
                                            some (0, R, M_189)
                                        else
                                          if xand (sc.getD (Int.toNat v3) 0) 31 = 18 then
                                            xch (0 ≤ w32 (v3 + 1) ∧ w32 (v3 + 1) < (sc.length : Int)) <|
                                            xch (0 ≤ w32 (v3 + 2) ∧ w32 (v3 + 2) < (sc.length : Int)) <|
                                            xch (0 ≤ w32 (v3 + 3) ∧ w32 (v3 + 3) < (sc.length : Int)) <|
                                            xch (0 ≤ w32 (v3 + 4) ∧ w32 (v3 + 4) < (sc.length : Int)) <|
                                            xb2 (f_X_at R 1 (sc.getD (Int.toNat (w32 (v3 + 1))) 0) (sc.getD (Int.toNat (w32 (v3 + 2))) 0) (sc.getD (Int.toNat (w32 (v3 + 3))) 0) (sc.getD (Int.toNat (w32 (v3 + 4))) 0) M) fun r_197 M_198 =>
                                            xb2 (f_M_at R 104 (sc.getD (Int.toNat (w32 (v3 + 1))) 0) (sc.getD (Int.toNat (w32 (v3 + 2))) 0) (sc.getD (Int.toNat (w32 (v3 + 3))) 0) (sc.getD (Int.toNat (w32 (v3 + 4))) 0) M_198) fun r_200 M_201 =>
                                            if r_197 = r_200 then
                                              W_law_J1406 sc (W_law_F18 sc  n) v3 R M_201
                                            else
                                              some (0, R, M_201)
                                          else
                                            if xand (sc.getD (Int.toNat v3) 0) 31 = 19 then
                                              xch (0 ≤ w32 (v3 + 1) ∧ w32 (v3 + 1) < (sc.length : Int)) <|
                                              xch (0 ≤ w32 (v3 + 2) ∧ w32 (v3 + 2) < (sc.length : Int)) <|
                                              xch (0 ≤ w32 (v3 + 3) ∧ w32 (v3 + 3) < (sc.length : Int)) <|
                                              xb2 (f_X_whose R 1 (sc.getD (Int.toNat (w32 (v3 + 1))) 0) (sc.getD (Int.toNat (w32 (v3 + 2))) 0) (sc.getD (Int.toNat (w32 (v3 + 3))) 0) M) fun r_208 M_209 =>
                                              xb2 (f_M_whose R 104 (sc.getD (Int.toNat (w32 (v3 + 1))) 0) (sc.getD (Int.toNat (w32 (v3 + 2))) 0) (sc.getD (Int.toNat (w32 (v3 + 3))) 0) M_209) fun r_211 M_212 =>
                                              if r_208 = r_211 then
                                                W_law_J1406 sc (W_law_F18 sc  n) v3 R M_212
                                              else
                                                some (0, R, M_212)
                                            else
                                              if xand (sc.getD (Int.toNat v3) 0) 31 = 20 then
                                                xch (0 ≤ w32 (v3 + 1) ∧ w32 (v3 + 1) < (sc.length : Int)) <|
                                                xch (0 ≤ w32 (v3 + 2) ∧ w32 (v3 + 2) < (sc.length : Int)) <|
                                                xb2 (f_X_broken R 1 (sc.getD (Int.toNat (w32 (v3 + 1))) 0) (sc.getD (Int.toNat (w32 (v3 + 2))) 0) M) fun r_218 M_219 =>
                                                xb2 (f_M_broken R 104 (sc.getD (Int.toNat (w32 (v3 + 1))) 0) (sc.getD (Int.toNat (w32 (v3 + 2))) 0) M_219) fun r_221 M_222 =>
                                                if r_218 = r_221 then
                                                  W_law_J1406 sc (W_law_F18 sc  n) v3 R M_222
                                                else
                                                  some (0, R, M_222)
                                              else
                                                if xand (sc.getD (Int.toNat v3) 0) 31 = 21 then
                                                  xch (0 ≤ w32 (v3 + 1) ∧ w32 (v3 + 1) < (sc.length : Int)) <|
                                                  xb2 (f_X_breach R 1 (sc.getD (Int.toNat (w32 (v3 + 1))) 0) M) fun r_227 M_228 =>
                                                  xb2 (f_M_breach R 104 (sc.getD (Int.toNat (w32 (v3 + 1))) 0) M_228) fun r_230 M_231 =>
                                                  if r_227 = r_230 then
                                                    W_law_J1406 sc (W_law_F18 sc  n) v3 R M_231
                                                  else
                                                    some (0, R, M_231)
                                                else
                                                  if xand (sc.getD (Int.toNat v3) 0) 31 = 22 then
                                                    xch (0 ≤ w32 (v3 + 1) ∧ w32 (v3 + 1) < (sc.length : Int)) <|
                                                    xch (0 ≤ w32 (v3 + 2) ∧ w32 (v3 + 2) < (sc.length : Int)) <|
                                                    xch (0 ≤ w32 (v3 + 3) ∧ w32 (v3 + 3) < (sc.length : Int)) <|
                                                    xch (0 ≤ w32 (v3 + 4) ∧ w32 (v3 + 4) < (sc.length : Int)) <|
                                                    xb2 (f_X_torn R 1 (sc.getD (Int.toNat (w32 (v3 + 1))) 0) (sc.getD (Int.toNat (w32 (v3 + 2))) 0) (sc.getD (Int.toNat (w32 (v3 + 3))) 0) (sc.getD (Int.toNat (w32 (v3 + 4))) 0) M) fun r_239 M_240 =>
                                                    xb2 (f_M_torn R 104 (sc.getD (Int.toNat (w32 (v3 + 1))) 0) (sc.getD (Int.toNat (w32 (v3 + 2))) 0) (sc.getD (Int.toNat (w32 (v3 + 3))) 0) (sc.getD (Int.toNat (w32 (v3 + 4))) 0) M_240) fun r_242 M_243 =>
                                                    if r_239 = r_242 then
                                                      W_law_J1406 sc (W_law_F18 sc  n) v3 R M_243
                                                    else
                                                      some (0, R, M_243)
                                                  else
                                                    if xand (sc.getD (Int.toNat v3) 0) 31 = 23 then
                                                      xch (0 ≤ w32 (v3 + 1) ∧ w32 (v3 + 1) < (sc.length : Int)) <|
                                                      xb2 (f_X_tornTold R 1 (sc.getD (Int.toNat (w32 (v3 + 1))) 0) M) fun r_248 M_249 =>
                                                      xb2 (f_M_tornTold 104 (sc.getD (Int.toNat (w32 (v3 + 1))) 0) M_249) fun r_251 M_252 =>
                                                      if r_248 = r_251 then
                                                        W_law_J1406 sc (W_law_F18 sc  n) v3 R M_252
                                                      else
                                                        some (0, R, M_252)
                                                    else
                                                      if xand (sc.getD (Int.toNat v3) 0) 31 = 24 then
                                                        xch (0 ≤ w32 (v3 + 1) ∧ w32 (v3 + 1) < (sc.length : Int)) <|
                                                        xch (0 ≤ w32 (v3 + 2) ∧ w32 (v3 + 2) < (sc.length : Int)) <|
                                                        xch (0 ≤ w32 (v3 + 3) ∧ w32 (v3 + 3) < (sc.length : Int)) <|
                                                        xch (0 ≤ w32 (v3 + 4) ∧ w32 (v3 + 4) < (sc.length : Int)) <|
                                                        xch (0 ≤ w32 (v3 + 5) ∧ w32 (v3 + 5) < (sc.length : Int)) <|
                                                        xb2 (f_X_knocks R 1 (sc.getD (Int.toNat (w32 (v3 + 1))) 0) (sc.getD (Int.toNat (w32 (v3 + 2))) 0) (sc.getD (Int.toNat (w32 (v3 + 3))) 0) (sc.getD (Int.toNat (w32 (v3 + 4))) 0) (sc.getD (Int.toNat (w32 (v3 + 5))) 0) M) fun r_261 M_262 =>
                                                        xb2 (f_M_knocks R 104 (sc.getD (Int.toNat (w32 (v3 + 1))) 0) (sc.getD (Int.toNat (w32 (v3 + 2))) 0) (sc.getD (Int.toNat (w32 (v3 + 3))) 0) (sc.getD (Int.toNat (w32 (v3 + 4))) 0) (sc.getD (Int.toNat (w32 (v3 + 5))) 0) M_262) fun r_264 M_265 =>
                                                        if r_261 = r_264 then
                                                          W_law_J1406 sc (W_law_F18 sc  n) v3 R M_265
                                                        else
                                                          some (0, R, M_265)
                                                      else
                                                        if xand (sc.getD (Int.toNat v3) 0) 31 = 25 then
                                                          xb2 (f_X_knockSet R 1 M) fun r_269 M_270 =>
                                                          xb2 (f_M_knockSet 104 M_270) fun r_272 M_273 =>
                                                          if r_269 = r_272 then
                                                            W_law_J1406 sc (W_law_F18 sc  n) v3 R M_273
                                                          else
                                                            some (0, R, M_273)
                                                        else
                                                          if xand (sc.getD (Int.toNat v3) 0) 31 = 26 then
                                                            xch (0 ≤ w32 (v3 + 1) ∧ w32 (v3 + 1) < (sc.length : Int)) <|
                                                            xch (0 ≤ w32 (v3 + 2) ∧ w32 (v3 + 2) < (sc.length : Int)) <|
                                                            xch (0 ≤ w32 (v3 + 3) ∧ w32 (v3 + 3) < (sc.length : Int)) <|
                                                            xch (0 ≤ w32 (v3 + 4) ∧ w32 (v3 + 4) < (sc.length : Int)) <|
                                                            xb2 (f_X_rowOf R 1 (sc.getD (Int.toNat (w32 (v3 + 1))) 0) (sc.getD (Int.toNat (w32 (v3 + 2))) 0) (sc.getD (Int.toNat (w32 (v3 + 3))) 0) (sc.getD (Int.toNat (w32 (v3 + 4))) 0) M) fun r_281 M_282 =>
                                                            xb2 (f_M_rowOf R 104 (sc.getD (Int.toNat (w32 (v3 + 1))) 0) (sc.getD (Int.toNat (w32 (v3 + 2))) 0) (sc.getD (Int.toNat (w32 (v3 + 3))) 0) (sc.getD (Int.toNat (w32 (v3 + 4))) 0) M_282) fun r_284 M_285 =>
                                                            if r_281 = r_284 then
                                                              W_law_J1406 sc (W_law_F18 sc  n) v3 R M_285
                                                            else
                                                              some (0, R, M_285)
                                                          else
                                                            if xand (sc.getD (Int.toNat v3) 0) 31 = 27 then
                                                              xch (0 ≤ w32 (v3 + 1) ∧ w32 (v3 + 1) < (sc.length : Int)) <|
                                                              xb2 (f_X_rowAt R 1 (sc.getD (Int.toNat (w32 (v3 + 1))) 0) M) fun r_290 M_291 =>
                                                              xb2 (f_M_rowAt R 104 (sc.getD (Int.toNat (w32 (v3 + 1))) 0) M_291) fun r_293 M_294 =>
                                                              if r_290 = r_293 then
                                                                W_law_J1406 sc (W_law_F18 sc  n) v3 R M_294
                                                              else
                                                                some (0, R, M_294)
                                                            else
                                                              if xand (sc.getD (Int.toNat v3) 0) 31 = 28 then
                                                                xch (0 ≤ w32 (v3 + 1) ∧ w32 (v3 + 1) < (sc.length : Int)) <|
                                                                xch (0 ≤ w32 (v3 + 2) ∧ w32 (v3 + 2) < (sc.length : Int)) <|
                                                                xch (0 ≤ w32 (v3 + 3) ∧ w32 (v3 + 3) < (sc.length : Int)) <|
                                                                xch (0 ≤ w32 (v3 + 4) ∧ w32 (v3 + 4) < (sc.length : Int)) <|
                                                                xb2 (f_X_air R 1 (sc.getD (Int.toNat (w32 (v3 + 1))) 0) (sc.getD (Int.toNat (w32 (v3 + 2))) 0) (sc.getD (Int.toNat (w32 (v3 + 3))) 0) (sc.getD (Int.toNat (w32 (v3 + 4))) 0) M) fun r_302 M_303 =>
                                                                xb2 (f_M_air R 104 (sc.getD (Int.toNat (w32 (v3 + 1))) 0) (sc.getD (Int.toNat (w32 (v3 + 2))) 0) (sc.getD (Int.toNat (w32 (v3 + 3))) 0) (sc.getD (Int.toNat (w32 (v3 + 4))) 0) M_303) fun r_305 M_306 =>
                                                                if r_302 = r_305 then
                                                                  W_law_J1406 sc (W_law_F18 sc  n) v3 R M_306
                                                                else
                                                                  some (0, R, M_306)
                                                              else
                                                                if xand (sc.getD (Int.toNat v3) 0) 31 = 29 then
                                                                  xch (0 ≤ w32 (v3 + 1) ∧ w32 (v3 + 1) < (sc.length : Int)) <|
                                                                  xch (0 ≤ w32 (v3 + 2) ∧ w32 (v3 + 2) < (sc.length : Int)) <|
                                                                  xch (0 ≤ w32 (v3 + 3) ∧ w32 (v3 + 3) < (sc.length : Int)) <|
                                                                  xch (0 ≤ w32 (v3 + 4) ∧ w32 (v3 + 4) < (sc.length : Int)) <|
                                                                  xb2 (f_X_gauge R 1 (sc.getD (Int.toNat (w32 (v3 + 1))) 0) (sc.getD (Int.toNat (w32 (v3 + 2))) 0) (sc.getD (Int.toNat (w32 (v3 + 3))) 0) (sc.getD (Int.toNat (w32 (v3 + 4))) 0) M) fun r_314 M_315 =>
                                                                  xb2 (f_M_gauge R 104 (sc.getD (Int.toNat (w32 (v3 + 1))) 0) (sc.getD (Int.toNat (w32 (v3 + 2))) 0) (sc.getD (Int.toNat (w32 (v3 + 3))) 0) (sc.getD (Int.toNat (w32 (v3 + 4))) 0) M_315) fun r_317 M_318 =>
                                                                  if r_314 = r_317 then
                                                                    W_law_J1406 sc (W_law_F18 sc  n) v3 R M_318
                                                                  else
                                                                    some (0, R, M_318)
                                                                else
                                                                  if xand (sc.getD (Int.toNat v3) 0) 31 = 30 then
                                                                    xch (0 ≤ w32 (v3 + 1) ∧ w32 (v3 + 1) < (sc.length : Int)) <|
                                                                    xch (0 ≤ w32 (v3 + 2) ∧ w32 (v3 + 2) < (sc.length : Int)) <|
                                                                    xb2 (f_X_gaugeTold R 1 (sc.getD (Int.toNat (w32 (v3 + 1))) 0) (sc.getD (Int.toNat (w32 (v3 + 2))) 0) M) fun r_324 M_325 =>
                                                                    xb2 (f_M_gaugeTold R 104 (sc.getD (Int.toNat (w32 (v3 + 1))) 0) (sc.getD (Int.toNat (w32 (v3 + 2))) 0) M_325) fun r_327 M_328 =>
                                                                    if r_324 = r_327 then
                                                                      W_law_J1406 sc (W_law_F18 sc  n) v3 R M_328
                                                                    else
                                                                      some (0, R, M_328)
                                                                  else
                                                                    W_law_J1406 sc (W_law_F18 sc  n) v3 R M
def f_law (sc : List Int) (R : xR) (M : xM) : Option (Int × xR × xM) :=
  W_law_F18 sc
    xfu 0 R M
theorem s_W_law {nm : String} {d : Nat} {sc : List Int} {z z' : xS} {out : xO} (qs : List xI) {cs : List Prop} (hq : qs.all (xqb 11 false 4 code) = true) (h : xN false sc qs z = some (z', cs)) (hc : xAll cs) (hE : z'.2.2.2.2.2 ≤ 174) (k : XR false d 174 sc (yW nm) z' out) : XR false d 174 sc (yW nm) z out := XR.seg 11 false rfl (fun q => by cases q) qs hq h hc hE k
set_option maxRecDepth 100000 in
set_option maxHeartbeats 8000000 in
theorem o_W_law_J1406 {nm : String} {sc : List Int}      {rc : Int → xR → xM → Option (Int × xR × xM)} (hrc : ∀ (w3 : Int) (R : xR) (M : xM) (out : Int × xR × xM), rc w3 R M = some out → XR false 54 174 sc (yW nm) (18, [(0, (vR 97 0)), (1, (vR 9 1)), (2, (vR 10 104)), (3, (vI w3))], [], R, M, 174) ((some (vI out.1)), out.2.1, out.2.2)) {v3 : Int} {R : xR} {M : xM} {out : Int × xR × xM} (h : W_law_J1406 sc rc v3 R M = some out) : XR false 54 174 sc (yW nm) (1406, [(0, (vR 97 0)), (1, (vR 9 1)), (2, (vR 10 104)), (3, (vI v3))], [], R, M, 174) ((some (vI out.1)), out.2.1, out.2.2) := by
  unfold W_law_J1406 at h
  obtain ⟨v3_9, hv3_9, h⟩ := xl_ex h
  refine s_W_law [(1406, .iinc 3 6, 0, 0), (1409, .goto (-1391), 0, 18)] (by decide +kernel) (z' := (18, [(3, (vI v3_9)), (0, (vR 97 0)), (1, (vR 9 1)), (2, (vR 10 104))], [], R, M, 174)) (cs := []) (by subst hv3_9; rfl) trivial (Nat.le_refl _) ?_
  refine XR.pick [1, 2, 3, 0] (ls' := [(0, (vR 97 0)), (1, (vR 9 1)), (2, (vR 10 104)), (3, (vI v3_9))]) rfl ?_
  exact hrc v3_9 R M _ h
set_option maxRecDepth 100000 in
set_option maxHeartbeats 8000000 in
theorem o_W_law_F18 {nm : String} {sc : List Int}      : ∀ (n : Nat) (v3 : Int) (R : xR) (M : xM) (out : Int × xR × xM), W_law_F18 sc  n v3 R M = some out → XR false 54 174 sc (yW nm) (18, [(0, (vR 97 0)), (1, (vR 9 1)), (2, (vR 10 104)), (3, (vI v3))], [], R, M, 174) ((some (vI out.1)), out.2.1, out.2.2) := by
  intro n
  induction n with
  | zero => intro v3 R M out h; exact (xno h).elim
  | succ n ih =>
    intro v3 R M out h
    rw [W_law_F18] at h
    refine s_W_law [(18, .iload_n 3, 0, 0), (19, .aload_n 0, 0, 0), (20, .arraylength, 97, 0), (21, .bipush 6, 0, 6), (23, .isub, 0, 0)] (by decide +kernel) (z' := (24, [(0, (vR 97 0)), (1, (vR 9 1)), (2, (vR 10 104)), (3, (vI v3))], [(vI (w32 (((sc.length : Int)) - 6))), (vI v3)], R, M, 174)) (cs := [(97 : Nat) = 97]) (by rfl) ⟨rfl, trivial⟩ (Nat.le_refl _) ?_
    rcases xif_ex h with ⟨c_1, h⟩ | ⟨c_1, h⟩
    · skip
      refine s_W_law [(24, .if_icmp .gt 1388, 0, 1412), (1412, .iconst 1, 0, 1)] (by decide +kernel) (z' := (1413, [(0, (vR 97 0)), (1, (vR 9 1)), (2, (vR 10 104)), (3, (vI v3))], [(vI 1)], R, M, 174)) (cs := [w32 (((sc.length : Int)) - 6) < v3]) (by rfl) ⟨c_1, trivial⟩ (Nat.le_refl _) ?_
      obtain rfl := Option.some.inj h
      exact XR.retI .boolean rfl (xnar_z (by decide)) (dl (by decide +kernel))
    · skip
      obtain ⟨c_2, h⟩ := xch_ex h
      refine s_W_law [(24, .if_icmp .gt 1388, 0, (-1)), (27, .aload_n 0, 0, 0), (28, .iload_n 3, 0, 0), (29, .iaload, 97, 0), (30, .bipush 31, 0, 31), (32, .iand, 0, 0)] (by decide +kernel) (z' := (33, [(0, (vR 97 0)), (1, (vR 9 1)), (2, (vR 10 104)), (3, (vI v3))], [(vI (xand (sc.getD (Int.toNat v3) 0) 31))], R, M, 174)) (cs := [¬ (w32 (((sc.length : Int)) - 6) < v3), (97 : Nat) = 97, xidx v3 sc.length]) (by rfl) ⟨c_1, rfl, c_2, trivial⟩ (Nat.le_refl _) ?_
      rcases xif_ex h with ⟨c_3, h⟩ | ⟨c_3, h⟩
      · skip
        refine s_W_law [(33, .tableswitch 1373 0 30 #[139, 152, 195, 268, 302, 365, 428, 451, 474, 497, 530, 553, 616, 649, 692, 745, 798, 821, 854, 907, 950, 983, 1006, 1059, 1082, 1145, 1158, 1211, 1234, 1287, 1340], 1, 172), (172, .aload_n 1, 0, 0)] (by decide +kernel) (z' := (173, [(0, (vR 97 0)), (1, (vR 9 1)), (2, (vR 10 104)), (3, (vI v3))], [(vR 9 1)], R, M, 174)) (cs := [xand (sc.getD (Int.toNat v3) 0) 31 = (0 : Int) + ((0 : Nat) : Int)]) (by rfl) ⟨by rw [c_3]; rfl, trivial⟩ (Nat.le_refl _) ?_
        obtain ⟨r_4, e_5, h⟩ := xb1_ex h
        refine XR.callV 11 rfl (rest := []) m_X_status k_11_13 9 1 (Or.inl ⟨by decide, rfl⟩) [] rfl rfl (c_X_status e_5) (by decide) (Nat.le_of_ble_eq_true rfl) (dl (by decide +kernel)) (Nat.le_refl _) (Nat.le_refl _) ?_
        show XR false 54 174 sc (yW nm) (176, [(0, (vR 97 0)), (1, (vR 9 1)), (2, (vR 10 104)), (3, (vI v3))], [(vI r_4)], R, M, 174) _
        refine s_W_law [(176, .aload_n 2, 0, 0)] (by decide +kernel) (z' := (177, [(0, (vR 97 0)), (1, (vR 9 1)), (2, (vR 10 104)), (3, (vI v3))], [(vR 10 104), (vI r_4)], R, M, 174)) (cs := []) (by rfl) trivial (Nat.le_refl _) ?_
        obtain ⟨r_6, e_7, h⟩ := xb1_ex h
        refine XR.callV 11 rfl (rest := [(vI r_4)]) m_M_status k_11_17 10 104 (Or.inl ⟨by decide, rfl⟩) [] rfl rfl (c_M_status e_7) (by decide) (Nat.le_of_ble_eq_true rfl) (dl (by decide +kernel)) (Nat.le_refl _) (Nat.le_refl _) ?_
        show XR false 54 174 sc (yW nm) (180, [(0, (vR 97 0)), (1, (vR 9 1)), (2, (vR 10 104)), (3, (vI v3))], [(vI r_6), (vI r_4)], R, M, 174) _
        rcases xif_ex h with ⟨c_8, h⟩ | ⟨c_8, h⟩
        · skip
          refine s_W_law [(180, .if_icmp .eq 1226, 0, 1406)] (by decide +kernel) (z' := (1406, [(0, (vR 97 0)), (1, (vR 9 1)), (2, (vR 10 104)), (3, (vI v3))], [], R, M, 174)) (cs := [r_4 = r_6]) (by rfl) ⟨c_8, trivial⟩ (Nat.le_refl _) ?_
          exact o_W_law_J1406 ih h
        · skip
          refine s_W_law [(180, .if_icmp .eq 1226, 0, (-1)), (183, .iconst 0, 0, 0)] (by decide +kernel) (z' := (184, [(0, (vR 97 0)), (1, (vR 9 1)), (2, (vR 10 104)), (3, (vI v3))], [(vI 0)], R, M, 174)) (cs := [¬ (r_4 = r_6)]) (by rfl) ⟨c_8, trivial⟩ (Nat.le_refl _) ?_
          obtain rfl := Option.some.inj h
          exact XR.retI .boolean rfl (xnar_z (by decide)) (dl (by decide +kernel))
      · skip
        rcases xif_ex h with ⟨c_10, h⟩ | ⟨c_10, h⟩
        · skip
          obtain ⟨c_11, h⟩ := xch_ex h
          obtain ⟨c_12, h⟩ := xch_ex h
          obtain ⟨c_13, h⟩ := xch_ex h
          refine s_W_law [(33, .tableswitch 1373 0 30 #[139, 152, 195, 268, 302, 365, 428, 451, 474, 497, 530, 553, 616, 649, 692, 745, 798, 821, 854, 907, 950, 983, 1006, 1059, 1082, 1145, 1158, 1211, 1234, 1287, 1340], 2, 185), (185, .aload_n 1, 0, 0), (186, .aload_n 0, 0, 0), (187, .iload_n 3, 0, 0), (188, .iconst 1, 0, 1), (189, .iadd, 0, 0), (190, .iaload, 97, 0), (191, .aload_n 0, 0, 0), (192, .iload_n 3, 0, 0), (193, .iconst 2, 0, 2), (194, .iadd, 0, 0), (195, .iaload, 97, 0), (196, .aload_n 0, 0, 0), (197, .iload_n 3, 0, 0), (198, .iconst 3, 0, 3), (199, .iadd, 0, 0), (200, .iaload, 97, 0)] (by decide +kernel) (z' := (201, [(0, (vR 97 0)), (1, (vR 9 1)), (2, (vR 10 104)), (3, (vI v3))], [(vI (sc.getD (Int.toNat (w32 (v3 + 3))) 0)), (vI (sc.getD (Int.toNat (w32 (v3 + 2))) 0)), (vI (sc.getD (Int.toNat (w32 (v3 + 1))) 0)), (vR 9 1)], R, M, 174)) (cs := [xand (sc.getD (Int.toNat v3) 0) 31 = (0 : Int) + ((1 : Nat) : Int), (97 : Nat) = 97, xidx (w32 (v3 + 1)) sc.length, (97 : Nat) = 97, xidx (w32 (v3 + 2)) sc.length, (97 : Nat) = 97, xidx (w32 (v3 + 3)) sc.length]) (by rfl) ⟨by rw [c_10]; rfl, rfl, c_11, rfl, c_12, rfl, c_13, trivial⟩ (Nat.le_refl _) ?_
          obtain ⟨r_14, M_15, e_16, h⟩ := xb2_ex h
          refine XR.callV 11 rfl (rest := []) m_X_tray k_11_18 9 1 (Or.inl ⟨by decide, rfl⟩) [(vI (sc.getD (Int.toNat (w32 (v3 + 1))) 0)), (vI (sc.getD (Int.toNat (w32 (v3 + 2))) 0)), (vI (sc.getD (Int.toNat (w32 (v3 + 3))) 0))] rfl rfl (c_X_tray e_16) (by decide) (Nat.le_of_ble_eq_true rfl) (dl (by decide +kernel)) (Nat.le_refl _) (Nat.le_refl _) ?_
          show XR false 54 174 sc (yW nm) (204, [(0, (vR 97 0)), (1, (vR 9 1)), (2, (vR 10 104)), (3, (vI v3))], [(vI r_14)], R, M_15, 174) _
          refine s_W_law [(204, .aload_n 2, 0, 0), (205, .aload_n 0, 0, 0), (206, .iload_n 3, 0, 0), (207, .iconst 1, 0, 1), (208, .iadd, 0, 0), (209, .iaload, 97, 0), (210, .aload_n 0, 0, 0), (211, .iload_n 3, 0, 0), (212, .iconst 2, 0, 2), (213, .iadd, 0, 0), (214, .iaload, 97, 0), (215, .aload_n 0, 0, 0), (216, .iload_n 3, 0, 0), (217, .iconst 3, 0, 3), (218, .iadd, 0, 0), (219, .iaload, 97, 0)] (by decide +kernel) (z' := (220, [(0, (vR 97 0)), (1, (vR 9 1)), (2, (vR 10 104)), (3, (vI v3))], [(vI (sc.getD (Int.toNat (w32 (v3 + 3))) 0)), (vI (sc.getD (Int.toNat (w32 (v3 + 2))) 0)), (vI (sc.getD (Int.toNat (w32 (v3 + 1))) 0)), (vR 10 104), (vI r_14)], R, M_15, 174)) (cs := [(97 : Nat) = 97, xidx (w32 (v3 + 1)) sc.length, (97 : Nat) = 97, xidx (w32 (v3 + 2)) sc.length, (97 : Nat) = 97, xidx (w32 (v3 + 3)) sc.length]) (by rfl) ⟨rfl, c_11, rfl, c_12, rfl, c_13, trivial⟩ (Nat.le_refl _) ?_
          obtain ⟨r_17, M_18, e_19, h⟩ := xb2_ex h
          refine XR.callV 11 rfl (rest := [(vI r_14)]) m_M_tray k_11_22 10 104 (Or.inl ⟨by decide, rfl⟩) [(vI (sc.getD (Int.toNat (w32 (v3 + 1))) 0)), (vI (sc.getD (Int.toNat (w32 (v3 + 2))) 0)), (vI (sc.getD (Int.toNat (w32 (v3 + 3))) 0))] rfl rfl (c_M_tray e_19) (by decide) (Nat.le_of_ble_eq_true rfl) (dl (by decide +kernel)) (Nat.le_refl _) (Nat.le_refl _) ?_
          show XR false 54 174 sc (yW nm) (223, [(0, (vR 97 0)), (1, (vR 9 1)), (2, (vR 10 104)), (3, (vI v3))], [(vI r_17), (vI r_14)], R, M_18, 174) _
          rcases xif_ex h with ⟨c_20, h⟩ | ⟨c_20, h⟩
          · skip
            refine s_W_law [(223, .if_icmp .eq 1183, 0, 1406)] (by decide +kernel) (z' := (1406, [(0, (vR 97 0)), (1, (vR 9 1)), (2, (vR 10 104)), (3, (vI v3))], [], R, M_18, 174)) (cs := [r_14 = r_17]) (by rfl) ⟨c_20, trivial⟩ (Nat.le_refl _) ?_
            exact o_W_law_J1406 ih h
          · skip
            refine s_W_law [(223, .if_icmp .eq 1183, 0, (-1)), (226, .iconst 0, 0, 0)] (by decide +kernel) (z' := (227, [(0, (vR 97 0)), (1, (vR 9 1)), (2, (vR 10 104)), (3, (vI v3))], [(vI 0)], R, M_18, 174)) (cs := [¬ (r_14 = r_17)]) (by rfl) ⟨c_20, trivial⟩ (Nat.le_refl _) ?_
            obtain rfl := Option.some.inj h
            exact XR.retI .boolean rfl (xnar_z (by decide)) (dl (by decide +kernel))
        · skip
          rcases xif_ex h with ⟨c_21, h⟩ | ⟨c_21, h⟩
          · skip
            obtain ⟨c_22, h⟩ := xch_ex h
            obtain ⟨c_23, h⟩ := xch_ex h
            obtain ⟨c_24, h⟩ := xch_ex h
            obtain ⟨c_25, h⟩ := xch_ex h
            refine s_W_law [(33, .tableswitch 1373 0 30 #[139, 152, 195, 268, 302, 365, 428, 451, 474, 497, 530, 553, 616, 649, 692, 745, 798, 821, 854, 907, 950, 983, 1006, 1059, 1082, 1145, 1158, 1211, 1234, 1287, 1340], 3, 228), (228, .aload_n 1, 0, 0), (229, .aload_n 0, 0, 0), (230, .iload_n 3, 0, 0), (231, .iconst 1, 0, 1), (232, .iadd, 0, 0), (233, .iaload, 97, 0), (234, .aload_n 0, 0, 0), (235, .iload_n 3, 0, 0), (236, .iconst 2, 0, 2), (237, .iadd, 0, 0), (238, .iaload, 97, 0), (239, .aload_n 0, 0, 0), (240, .iload_n 3, 0, 0), (241, .iconst 3, 0, 3), (242, .iadd, 0, 0), (243, .iaload, 97, 0), (244, .i2l, 0, 0), (245, .bipush 32, 0, 32), (247, .lshl, 0, 0), (248, .aload_n 0, 0, 0), (249, .iload_n 3, 0, 0), (250, .iconst 4, 0, 4), (251, .iadd, 0, 0), (252, .iaload, 97, 0), (253, .i2l, 0, 0), (254, .ldc2_w 23, 0, 4294967295), (257, .land, 0, 0), (258, .lor, 0, 0)] (by decide +kernel) (z' := (259, [(0, (vR 97 0)), (1, (vR 9 1)), (2, (vR 10 104)), (3, (vI v3))], [(vL (yor (yshl (sc.getD (Int.toNat (w32 (v3 + 3))) 0) 32) (yand (sc.getD (Int.toNat (w32 (v3 + 4))) 0) 4294967295))), (vI (sc.getD (Int.toNat (w32 (v3 + 2))) 0)), (vI (sc.getD (Int.toNat (w32 (v3 + 1))) 0)), (vR 9 1)], R, M, 174)) (cs := [xand (sc.getD (Int.toNat v3) 0) 31 = (0 : Int) + ((2 : Nat) : Int), (97 : Nat) = 97, xidx (w32 (v3 + 1)) sc.length, (97 : Nat) = 97, xidx (w32 (v3 + 2)) sc.length, (97 : Nat) = 97, xidx (w32 (v3 + 3)) sc.length, (97 : Nat) = 97, xidx (w32 (v3 + 4)) sc.length]) (by rfl) ⟨by rw [c_21]; rfl, rfl, c_22, rfl, c_23, rfl, c_24, rfl, c_25, trivial⟩ (Nat.le_refl _) ?_
            obtain ⟨r_26, M_27, e_28, h⟩ := xb2_ex h
            refine XR.callV 11 rfl (rest := []) m_X_write k_11_25 9 1 (Or.inl ⟨by decide, rfl⟩) [(vI (sc.getD (Int.toNat (w32 (v3 + 1))) 0)), (vI (sc.getD (Int.toNat (w32 (v3 + 2))) 0)), (vL (yor (yshl (sc.getD (Int.toNat (w32 (v3 + 3))) 0) 32) (yand (sc.getD (Int.toNat (w32 (v3 + 4))) 0) 4294967295)))] rfl rfl (c_X_write e_28) (by decide) (Nat.le_of_ble_eq_true rfl) (dl (by decide +kernel)) (Nat.le_refl _) (Nat.le_refl _) ?_
            show XR false 54 174 sc (yW nm) (262, [(0, (vR 97 0)), (1, (vR 9 1)), (2, (vR 10 104)), (3, (vI v3))], [(vI r_26)], R, M_27, 174) _
            refine s_W_law [(262, .aload_n 2, 0, 0), (263, .aload_n 0, 0, 0), (264, .iload_n 3, 0, 0), (265, .iconst 1, 0, 1), (266, .iadd, 0, 0), (267, .iaload, 97, 0), (268, .aload_n 0, 0, 0), (269, .iload_n 3, 0, 0), (270, .iconst 2, 0, 2), (271, .iadd, 0, 0), (272, .iaload, 97, 0), (273, .aload_n 0, 0, 0), (274, .iload_n 3, 0, 0), (275, .iconst 3, 0, 3), (276, .iadd, 0, 0), (277, .iaload, 97, 0), (278, .i2l, 0, 0), (279, .bipush 32, 0, 32), (281, .lshl, 0, 0), (282, .aload_n 0, 0, 0), (283, .iload_n 3, 0, 0), (284, .iconst 4, 0, 4), (285, .iadd, 0, 0), (286, .iaload, 97, 0), (287, .i2l, 0, 0), (288, .ldc2_w 23, 0, 4294967295), (291, .land, 0, 0), (292, .lor, 0, 0)] (by decide +kernel) (z' := (293, [(0, (vR 97 0)), (1, (vR 9 1)), (2, (vR 10 104)), (3, (vI v3))], [(vL (yor (yshl (sc.getD (Int.toNat (w32 (v3 + 3))) 0) 32) (yand (sc.getD (Int.toNat (w32 (v3 + 4))) 0) 4294967295))), (vI (sc.getD (Int.toNat (w32 (v3 + 2))) 0)), (vI (sc.getD (Int.toNat (w32 (v3 + 1))) 0)), (vR 10 104), (vI r_26)], R, M_27, 174)) (cs := [(97 : Nat) = 97, xidx (w32 (v3 + 1)) sc.length, (97 : Nat) = 97, xidx (w32 (v3 + 2)) sc.length, (97 : Nat) = 97, xidx (w32 (v3 + 3)) sc.length, (97 : Nat) = 97, xidx (w32 (v3 + 4)) sc.length]) (by rfl) ⟨rfl, c_22, rfl, c_23, rfl, c_24, rfl, c_25, trivial⟩ (Nat.le_refl _) ?_
            obtain ⟨r_29, M_30, e_31, h⟩ := xb2_ex h
            refine XR.callV 11 rfl (rest := [(vI r_26)]) m_M_write k_11_29 10 104 (Or.inl ⟨by decide, rfl⟩) [(vI (sc.getD (Int.toNat (w32 (v3 + 1))) 0)), (vI (sc.getD (Int.toNat (w32 (v3 + 2))) 0)), (vL (yor (yshl (sc.getD (Int.toNat (w32 (v3 + 3))) 0) 32) (yand (sc.getD (Int.toNat (w32 (v3 + 4))) 0) 4294967295)))] rfl rfl (c_M_write e_31) (by decide) (Nat.le_of_ble_eq_true rfl) (dl (by decide +kernel)) (Nat.le_refl _) (Nat.le_refl _) ?_
            show XR false 54 174 sc (yW nm) (296, [(0, (vR 97 0)), (1, (vR 9 1)), (2, (vR 10 104)), (3, (vI v3))], [(vI r_29), (vI r_26)], R, M_30, 174) _
            rcases xif_ex h with ⟨c_32, h⟩ | ⟨c_32, h⟩
            · skip
              refine s_W_law [(296, .if_icmp .eq 1110, 0, 1406)] (by decide +kernel) (z' := (1406, [(0, (vR 97 0)), (1, (vR 9 1)), (2, (vR 10 104)), (3, (vI v3))], [], R, M_30, 174)) (cs := [r_26 = r_29]) (by rfl) ⟨c_32, trivial⟩ (Nat.le_refl _) ?_
              exact o_W_law_J1406 ih h
            · skip
              refine s_W_law [(296, .if_icmp .eq 1110, 0, (-1)), (299, .iconst 0, 0, 0)] (by decide +kernel) (z' := (300, [(0, (vR 97 0)), (1, (vR 9 1)), (2, (vR 10 104)), (3, (vI v3))], [(vI 0)], R, M_30, 174)) (cs := [¬ (r_26 = r_29)]) (by rfl) ⟨c_32, trivial⟩ (Nat.le_refl _) ?_
              obtain rfl := Option.some.inj h
              exact XR.retI .boolean rfl (xnar_z (by decide)) (dl (by decide +kernel))
          · skip
            rcases xif_ex h with ⟨c_33, h⟩ | ⟨c_33, h⟩
            · skip
              obtain ⟨c_34, h⟩ := xch_ex h
              obtain ⟨c_35, h⟩ := xch_ex h
              refine s_W_law [(33, .tableswitch 1373 0 30 #[139, 152, 195, 268, 302, 365, 428, 451, 474, 497, 530, 553, 616, 649, 692, 745, 798, 821, 854, 907, 950, 983, 1006, 1059, 1082, 1145, 1158, 1211, 1234, 1287, 1340], 4, 301), (301, .aload_n 1, 0, 0), (302, .aload_n 0, 0, 0), (303, .iload_n 3, 0, 0), (304, .iconst 1, 0, 1), (305, .iadd, 0, 0), (306, .iaload, 97, 0), (307, .aload_n 0, 0, 0), (308, .iload_n 3, 0, 0), (309, .iconst 2, 0, 2), (310, .iadd, 0, 0), (311, .iaload, 97, 0)] (by decide +kernel) (z' := (312, [(0, (vR 97 0)), (1, (vR 9 1)), (2, (vR 10 104)), (3, (vI v3))], [(vI (sc.getD (Int.toNat (w32 (v3 + 2))) 0)), (vI (sc.getD (Int.toNat (w32 (v3 + 1))) 0)), (vR 9 1)], R, M, 174)) (cs := [xand (sc.getD (Int.toNat v3) 0) 31 = (0 : Int) + ((3 : Nat) : Int), (97 : Nat) = 97, xidx (w32 (v3 + 1)) sc.length, (97 : Nat) = 97, xidx (w32 (v3 + 2)) sc.length]) (by rfl) ⟨by rw [c_33]; rfl, rfl, c_34, rfl, c_35, trivial⟩ (Nat.le_refl _) ?_
              obtain ⟨r_36, M_37, e_38, h⟩ := xb2_ex h
              refine XR.callV 11 rfl (rest := []) m_X_read k_11_30 9 1 (Or.inl ⟨by decide, rfl⟩) [(vI (sc.getD (Int.toNat (w32 (v3 + 1))) 0)), (vI (sc.getD (Int.toNat (w32 (v3 + 2))) 0))] rfl rfl (c_X_read e_38) (by decide) (Nat.le_of_ble_eq_true rfl) (dl (by decide +kernel)) (Nat.le_refl _) (Nat.le_refl _) ?_
              show XR false 54 174 sc (yW nm) (315, [(0, (vR 97 0)), (1, (vR 9 1)), (2, (vR 10 104)), (3, (vI v3))], [(vL r_36)], R, M_37, 174) _
              refine s_W_law [(315, .aload_n 2, 0, 0), (316, .aload_n 0, 0, 0), (317, .iload_n 3, 0, 0), (318, .iconst 1, 0, 1), (319, .iadd, 0, 0), (320, .iaload, 97, 0), (321, .aload_n 0, 0, 0), (322, .iload_n 3, 0, 0), (323, .iconst 2, 0, 2), (324, .iadd, 0, 0), (325, .iaload, 97, 0)] (by decide +kernel) (z' := (326, [(0, (vR 97 0)), (1, (vR 9 1)), (2, (vR 10 104)), (3, (vI v3))], [(vI (sc.getD (Int.toNat (w32 (v3 + 2))) 0)), (vI (sc.getD (Int.toNat (w32 (v3 + 1))) 0)), (vR 10 104), (vL r_36)], R, M_37, 174)) (cs := [(97 : Nat) = 97, xidx (w32 (v3 + 1)) sc.length, (97 : Nat) = 97, xidx (w32 (v3 + 2)) sc.length]) (by rfl) ⟨rfl, c_34, rfl, c_35, trivial⟩ (Nat.le_refl _) ?_
              obtain ⟨r_39, M_40, e_41, h⟩ := xb2_ex h
              refine XR.callV 11 rfl (rest := [(vL r_36)]) m_M_read k_11_34 10 104 (Or.inl ⟨by decide, rfl⟩) [(vI (sc.getD (Int.toNat (w32 (v3 + 1))) 0)), (vI (sc.getD (Int.toNat (w32 (v3 + 2))) 0))] rfl rfl (c_M_read e_41) (by decide) (Nat.le_of_ble_eq_true rfl) (dl (by decide +kernel)) (Nat.le_refl _) (Nat.le_refl _) ?_
              show XR false 54 174 sc (yW nm) (329, [(0, (vR 97 0)), (1, (vR 9 1)), (2, (vR 10 104)), (3, (vI v3))], [(vL r_39), (vL r_36)], R, M_40, 174) _
              refine s_W_law [(329, .lcmp, 0, 0)] (by decide +kernel) (z' := (330, [(0, (vR 97 0)), (1, (vR 9 1)), (2, (vR 10 104)), (3, (vI v3))], [(vI (xcmp r_36 r_39))], R, M_40, 174)) (cs := []) (by rfl) trivial (Nat.le_refl _) ?_
              rcases xif_ex h with ⟨c_42, h⟩ | ⟨c_42, h⟩
              · skip
                refine s_W_law [(330, .ifCond .eq 1076, 0, 1406)] (by decide +kernel) (z' := (1406, [(0, (vR 97 0)), (1, (vR 9 1)), (2, (vR 10 104)), (3, (vI v3))], [], R, M_40, 174)) (cs := [xcmp r_36 r_39 = 0]) (by rfl) ⟨xcmp_eq.mpr c_42, trivial⟩ (Nat.le_refl _) ?_
                exact o_W_law_J1406 ih h
              · skip
                refine s_W_law [(330, .ifCond .eq 1076, 0, (-1)), (333, .iconst 0, 0, 0)] (by decide +kernel) (z' := (334, [(0, (vR 97 0)), (1, (vR 9 1)), (2, (vR 10 104)), (3, (vI v3))], [(vI 0)], R, M_40, 174)) (cs := [¬ (xcmp r_36 r_39 = 0)]) (by rfl) ⟨fun q => c_42 (xcmp_eq.mp q), trivial⟩ (Nat.le_refl _) ?_
                obtain rfl := Option.some.inj h
                exact XR.retI .boolean rfl (xnar_z (by decide)) (dl (by decide +kernel))
            · skip
              rcases xif_ex h with ⟨c_43, h⟩ | ⟨c_43, h⟩
              · skip
                obtain ⟨c_44, h⟩ := xch_ex h
                obtain ⟨c_45, h⟩ := xch_ex h
                obtain ⟨c_46, h⟩ := xch_ex h
                obtain ⟨c_47, h⟩ := xch_ex h
                obtain ⟨c_48, h⟩ := xch_ex h
                refine s_W_law [(33, .tableswitch 1373 0 30 #[139, 152, 195, 268, 302, 365, 428, 451, 474, 497, 530, 553, 616, 649, 692, 745, 798, 821, 854, 907, 950, 983, 1006, 1059, 1082, 1145, 1158, 1211, 1234, 1287, 1340], 5, 335), (335, .aload_n 1, 0, 0), (336, .aload_n 0, 0, 0), (337, .iload_n 3, 0, 0), (338, .iconst 1, 0, 1), (339, .iadd, 0, 0), (340, .iaload, 97, 0), (341, .aload_n 0, 0, 0), (342, .iload_n 3, 0, 0), (343, .iconst 2, 0, 2), (344, .iadd, 0, 0), (345, .iaload, 97, 0), (346, .aload_n 0, 0, 0), (347, .iload_n 3, 0, 0), (348, .iconst 3, 0, 3), (349, .iadd, 0, 0), (350, .iaload, 97, 0), (351, .aload_n 0, 0, 0), (352, .iload_n 3, 0, 0), (353, .iconst 4, 0, 4), (354, .iadd, 0, 0), (355, .iaload, 97, 0), (356, .aload_n 0, 0, 0), (357, .iload_n 3, 0, 0), (358, .iconst 5, 0, 5), (359, .iadd, 0, 0), (360, .iaload, 97, 0)] (by decide +kernel) (z' := (361, [(0, (vR 97 0)), (1, (vR 9 1)), (2, (vR 10 104)), (3, (vI v3))], [(vI (sc.getD (Int.toNat (w32 (v3 + 5))) 0)), (vI (sc.getD (Int.toNat (w32 (v3 + 4))) 0)), (vI (sc.getD (Int.toNat (w32 (v3 + 3))) 0)), (vI (sc.getD (Int.toNat (w32 (v3 + 2))) 0)), (vI (sc.getD (Int.toNat (w32 (v3 + 1))) 0)), (vR 9 1)], R, M, 174)) (cs := [xand (sc.getD (Int.toNat v3) 0) 31 = (0 : Int) + ((4 : Nat) : Int), (97 : Nat) = 97, xidx (w32 (v3 + 1)) sc.length, (97 : Nat) = 97, xidx (w32 (v3 + 2)) sc.length, (97 : Nat) = 97, xidx (w32 (v3 + 3)) sc.length, (97 : Nat) = 97, xidx (w32 (v3 + 4)) sc.length, (97 : Nat) = 97, xidx (w32 (v3 + 5)) sc.length]) (by rfl) ⟨by rw [c_43]; rfl, rfl, c_44, rfl, c_45, rfl, c_46, rfl, c_47, rfl, c_48, trivial⟩ (Nat.le_refl _) ?_
                obtain ⟨r_49, M_50, e_51, h⟩ := xb2_ex h
                refine XR.callV 11 rfl (rest := []) m_X_pour k_11_35 9 1 (Or.inl ⟨by decide, rfl⟩) [(vI (sc.getD (Int.toNat (w32 (v3 + 1))) 0)), (vI (sc.getD (Int.toNat (w32 (v3 + 2))) 0)), (vI (sc.getD (Int.toNat (w32 (v3 + 3))) 0)), (vI (sc.getD (Int.toNat (w32 (v3 + 4))) 0)), (vI (sc.getD (Int.toNat (w32 (v3 + 5))) 0))] rfl rfl (c_X_pour e_51) (by decide) (Nat.le_of_ble_eq_true rfl) (dl (by decide +kernel)) (Nat.le_refl _) (Nat.le_refl _) ?_
                show XR false 54 174 sc (yW nm) (364, [(0, (vR 97 0)), (1, (vR 9 1)), (2, (vR 10 104)), (3, (vI v3))], [(vI r_49)], R, M_50, 174) _
                refine s_W_law [(364, .aload_n 2, 0, 0), (365, .aload_n 0, 0, 0), (366, .iload_n 3, 0, 0), (367, .iconst 1, 0, 1), (368, .iadd, 0, 0), (369, .iaload, 97, 0), (370, .aload_n 0, 0, 0), (371, .iload_n 3, 0, 0), (372, .iconst 2, 0, 2), (373, .iadd, 0, 0), (374, .iaload, 97, 0), (375, .aload_n 0, 0, 0), (376, .iload_n 3, 0, 0), (377, .iconst 3, 0, 3), (378, .iadd, 0, 0), (379, .iaload, 97, 0), (380, .aload_n 0, 0, 0), (381, .iload_n 3, 0, 0), (382, .iconst 4, 0, 4), (383, .iadd, 0, 0), (384, .iaload, 97, 0), (385, .aload_n 0, 0, 0), (386, .iload_n 3, 0, 0), (387, .iconst 5, 0, 5), (388, .iadd, 0, 0), (389, .iaload, 97, 0)] (by decide +kernel) (z' := (390, [(0, (vR 97 0)), (1, (vR 9 1)), (2, (vR 10 104)), (3, (vI v3))], [(vI (sc.getD (Int.toNat (w32 (v3 + 5))) 0)), (vI (sc.getD (Int.toNat (w32 (v3 + 4))) 0)), (vI (sc.getD (Int.toNat (w32 (v3 + 3))) 0)), (vI (sc.getD (Int.toNat (w32 (v3 + 2))) 0)), (vI (sc.getD (Int.toNat (w32 (v3 + 1))) 0)), (vR 10 104), (vI r_49)], R, M_50, 174)) (cs := [(97 : Nat) = 97, xidx (w32 (v3 + 1)) sc.length, (97 : Nat) = 97, xidx (w32 (v3 + 2)) sc.length, (97 : Nat) = 97, xidx (w32 (v3 + 3)) sc.length, (97 : Nat) = 97, xidx (w32 (v3 + 4)) sc.length, (97 : Nat) = 97, xidx (w32 (v3 + 5)) sc.length]) (by rfl) ⟨rfl, c_44, rfl, c_45, rfl, c_46, rfl, c_47, rfl, c_48, trivial⟩ (Nat.le_refl _) ?_
                obtain ⟨r_52, M_53, e_54, h⟩ := xb2_ex h
                refine XR.callV 11 rfl (rest := [(vI r_49)]) m_M_pour k_11_39 10 104 (Or.inl ⟨by decide, rfl⟩) [(vI (sc.getD (Int.toNat (w32 (v3 + 1))) 0)), (vI (sc.getD (Int.toNat (w32 (v3 + 2))) 0)), (vI (sc.getD (Int.toNat (w32 (v3 + 3))) 0)), (vI (sc.getD (Int.toNat (w32 (v3 + 4))) 0)), (vI (sc.getD (Int.toNat (w32 (v3 + 5))) 0))] rfl rfl (c_M_pour e_54) (by decide) (Nat.le_of_ble_eq_true rfl) (dl (by decide +kernel)) (Nat.le_refl _) (Nat.le_refl _) ?_
                show XR false 54 174 sc (yW nm) (393, [(0, (vR 97 0)), (1, (vR 9 1)), (2, (vR 10 104)), (3, (vI v3))], [(vI r_52), (vI r_49)], R, M_53, 174) _
                rcases xif_ex h with ⟨c_55, h⟩ | ⟨c_55, h⟩
                · skip
                  refine s_W_law [(393, .if_icmp .eq 1013, 0, 1406)] (by decide +kernel) (z' := (1406, [(0, (vR 97 0)), (1, (vR 9 1)), (2, (vR 10 104)), (3, (vI v3))], [], R, M_53, 174)) (cs := [r_49 = r_52]) (by rfl) ⟨c_55, trivial⟩ (Nat.le_refl _) ?_
                  exact o_W_law_J1406 ih h
                · skip
                  refine s_W_law [(393, .if_icmp .eq 1013, 0, (-1)), (396, .iconst 0, 0, 0)] (by decide +kernel) (z' := (397, [(0, (vR 97 0)), (1, (vR 9 1)), (2, (vR 10 104)), (3, (vI v3))], [(vI 0)], R, M_53, 174)) (cs := [¬ (r_49 = r_52)]) (by rfl) ⟨c_55, trivial⟩ (Nat.le_refl _) ?_
                  obtain rfl := Option.some.inj h
                  exact XR.retI .boolean rfl (xnar_z (by decide)) (dl (by decide +kernel))
              · skip
                rcases xif_ex h with ⟨c_56, h⟩ | ⟨c_56, h⟩
                · skip
                  obtain ⟨c_57, h⟩ := xch_ex h
                  obtain ⟨c_58, h⟩ := xch_ex h
                  obtain ⟨c_59, h⟩ := xch_ex h
                  obtain ⟨c_60, h⟩ := xch_ex h
                  obtain ⟨c_61, h⟩ := xch_ex h
                  refine s_W_law [(33, .tableswitch 1373 0 30 #[139, 152, 195, 268, 302, 365, 428, 451, 474, 497, 530, 553, 616, 649, 692, 745, 798, 821, 854, 907, 950, 983, 1006, 1059, 1082, 1145, 1158, 1211, 1234, 1287, 1340], 6, 398), (398, .aload_n 1, 0, 0), (399, .aload_n 0, 0, 0), (400, .iload_n 3, 0, 0), (401, .iconst 1, 0, 1), (402, .iadd, 0, 0), (403, .iaload, 97, 0), (404, .aload_n 0, 0, 0), (405, .iload_n 3, 0, 0), (406, .iconst 2, 0, 2), (407, .iadd, 0, 0), (408, .iaload, 97, 0), (409, .aload_n 0, 0, 0), (410, .iload_n 3, 0, 0), (411, .iconst 3, 0, 3), (412, .iadd, 0, 0), (413, .iaload, 97, 0), (414, .aload_n 0, 0, 0), (415, .iload_n 3, 0, 0), (416, .iconst 4, 0, 4), (417, .iadd, 0, 0), (418, .iaload, 97, 0), (419, .aload_n 0, 0, 0), (420, .iload_n 3, 0, 0), (421, .iconst 5, 0, 5), (422, .iadd, 0, 0), (423, .iaload, 97, 0)] (by decide +kernel) (z' := (424, [(0, (vR 97 0)), (1, (vR 9 1)), (2, (vR 10 104)), (3, (vI v3))], [(vI (sc.getD (Int.toNat (w32 (v3 + 5))) 0)), (vI (sc.getD (Int.toNat (w32 (v3 + 4))) 0)), (vI (sc.getD (Int.toNat (w32 (v3 + 3))) 0)), (vI (sc.getD (Int.toNat (w32 (v3 + 2))) 0)), (vI (sc.getD (Int.toNat (w32 (v3 + 1))) 0)), (vR 9 1)], R, M, 174)) (cs := [xand (sc.getD (Int.toNat v3) 0) 31 = (0 : Int) + ((5 : Nat) : Int), (97 : Nat) = 97, xidx (w32 (v3 + 1)) sc.length, (97 : Nat) = 97, xidx (w32 (v3 + 2)) sc.length, (97 : Nat) = 97, xidx (w32 (v3 + 3)) sc.length, (97 : Nat) = 97, xidx (w32 (v3 + 4)) sc.length, (97 : Nat) = 97, xidx (w32 (v3 + 5)) sc.length]) (by rfl) ⟨by rw [c_56]; rfl, rfl, c_57, rfl, c_58, rfl, c_59, rfl, c_60, rfl, c_61, trivial⟩ (Nat.le_refl _) ?_
                  obtain ⟨r_62, M_63, e_64, h⟩ := xb2_ex h
                  refine XR.callV 11 rfl (rest := []) m_X_feed k_11_40 9 1 (Or.inl ⟨by decide, rfl⟩) [(vI (sc.getD (Int.toNat (w32 (v3 + 1))) 0)), (vI (sc.getD (Int.toNat (w32 (v3 + 2))) 0)), (vI (sc.getD (Int.toNat (w32 (v3 + 3))) 0)), (vI (sc.getD (Int.toNat (w32 (v3 + 4))) 0)), (vI (sc.getD (Int.toNat (w32 (v3 + 5))) 0))] rfl rfl (c_X_feed e_64) (by decide) (Nat.le_of_ble_eq_true rfl) (dl (by decide +kernel)) (Nat.le_refl _) (Nat.le_refl _) ?_
                  show XR false 54 174 sc (yW nm) (427, [(0, (vR 97 0)), (1, (vR 9 1)), (2, (vR 10 104)), (3, (vI v3))], [(vI r_62)], R, M_63, 174) _
                  refine s_W_law [(427, .aload_n 2, 0, 0), (428, .aload_n 0, 0, 0), (429, .iload_n 3, 0, 0), (430, .iconst 1, 0, 1), (431, .iadd, 0, 0), (432, .iaload, 97, 0), (433, .aload_n 0, 0, 0), (434, .iload_n 3, 0, 0), (435, .iconst 2, 0, 2), (436, .iadd, 0, 0), (437, .iaload, 97, 0), (438, .aload_n 0, 0, 0), (439, .iload_n 3, 0, 0), (440, .iconst 3, 0, 3), (441, .iadd, 0, 0), (442, .iaload, 97, 0), (443, .aload_n 0, 0, 0), (444, .iload_n 3, 0, 0), (445, .iconst 4, 0, 4), (446, .iadd, 0, 0), (447, .iaload, 97, 0), (448, .aload_n 0, 0, 0), (449, .iload_n 3, 0, 0), (450, .iconst 5, 0, 5), (451, .iadd, 0, 0), (452, .iaload, 97, 0)] (by decide +kernel) (z' := (453, [(0, (vR 97 0)), (1, (vR 9 1)), (2, (vR 10 104)), (3, (vI v3))], [(vI (sc.getD (Int.toNat (w32 (v3 + 5))) 0)), (vI (sc.getD (Int.toNat (w32 (v3 + 4))) 0)), (vI (sc.getD (Int.toNat (w32 (v3 + 3))) 0)), (vI (sc.getD (Int.toNat (w32 (v3 + 2))) 0)), (vI (sc.getD (Int.toNat (w32 (v3 + 1))) 0)), (vR 10 104), (vI r_62)], R, M_63, 174)) (cs := [(97 : Nat) = 97, xidx (w32 (v3 + 1)) sc.length, (97 : Nat) = 97, xidx (w32 (v3 + 2)) sc.length, (97 : Nat) = 97, xidx (w32 (v3 + 3)) sc.length, (97 : Nat) = 97, xidx (w32 (v3 + 4)) sc.length, (97 : Nat) = 97, xidx (w32 (v3 + 5)) sc.length]) (by rfl) ⟨rfl, c_57, rfl, c_58, rfl, c_59, rfl, c_60, rfl, c_61, trivial⟩ (Nat.le_refl _) ?_
                  obtain ⟨r_65, M_66, e_67, h⟩ := xb2_ex h
                  refine XR.callV 11 rfl (rest := [(vI r_62)]) m_M_feed k_11_44 10 104 (Or.inl ⟨by decide, rfl⟩) [(vI (sc.getD (Int.toNat (w32 (v3 + 1))) 0)), (vI (sc.getD (Int.toNat (w32 (v3 + 2))) 0)), (vI (sc.getD (Int.toNat (w32 (v3 + 3))) 0)), (vI (sc.getD (Int.toNat (w32 (v3 + 4))) 0)), (vI (sc.getD (Int.toNat (w32 (v3 + 5))) 0))] rfl rfl (c_M_feed e_67) (by decide) (Nat.le_of_ble_eq_true rfl) (dl (by decide +kernel)) (Nat.le_refl _) (Nat.le_refl _) ?_
                  show XR false 54 174 sc (yW nm) (456, [(0, (vR 97 0)), (1, (vR 9 1)), (2, (vR 10 104)), (3, (vI v3))], [(vI r_65), (vI r_62)], R, M_66, 174) _
                  rcases xif_ex h with ⟨c_68, h⟩ | ⟨c_68, h⟩
                  · skip
                    refine s_W_law [(456, .if_icmp .eq 950, 0, 1406)] (by decide +kernel) (z' := (1406, [(0, (vR 97 0)), (1, (vR 9 1)), (2, (vR 10 104)), (3, (vI v3))], [], R, M_66, 174)) (cs := [r_62 = r_65]) (by rfl) ⟨c_68, trivial⟩ (Nat.le_refl _) ?_
                    exact o_W_law_J1406 ih h
                  · skip
                    refine s_W_law [(456, .if_icmp .eq 950, 0, (-1)), (459, .iconst 0, 0, 0)] (by decide +kernel) (z' := (460, [(0, (vR 97 0)), (1, (vR 9 1)), (2, (vR 10 104)), (3, (vI v3))], [(vI 0)], R, M_66, 174)) (cs := [¬ (r_62 = r_65)]) (by rfl) ⟨c_68, trivial⟩ (Nat.le_refl _) ?_
                    obtain rfl := Option.some.inj h
                    exact XR.retI .boolean rfl (xnar_z (by decide)) (dl (by decide +kernel))
                · skip
                  rcases xif_ex h with ⟨c_69, h⟩ | ⟨c_69, h⟩
                  · skip
                    obtain ⟨c_70, h⟩ := xch_ex h
                    refine s_W_law [(33, .tableswitch 1373 0 30 #[139, 152, 195, 268, 302, 365, 428, 451, 474, 497, 530, 553, 616, 649, 692, 745, 798, 821, 854, 907, 950, 983, 1006, 1059, 1082, 1145, 1158, 1211, 1234, 1287, 1340], 7, 461), (461, .aload_n 1, 0, 0), (462, .aload_n 0, 0, 0), (463, .iload_n 3, 0, 0), (464, .iconst 1, 0, 1), (465, .iadd, 0, 0), (466, .iaload, 97, 0)] (by decide +kernel) (z' := (467, [(0, (vR 97 0)), (1, (vR 9 1)), (2, (vR 10 104)), (3, (vI v3))], [(vI (sc.getD (Int.toNat (w32 (v3 + 1))) 0)), (vR 9 1)], R, M, 174)) (cs := [xand (sc.getD (Int.toNat v3) 0) 31 = (0 : Int) + ((6 : Nat) : Int), (97 : Nat) = 97, xidx (w32 (v3 + 1)) sc.length]) (by rfl) ⟨by rw [c_69]; rfl, rfl, c_70, trivial⟩ (Nat.le_refl _) ?_
                    obtain ⟨r_71, R_72, M_73, e_74, h⟩ := xb3_ex h
                    refine XR.callV 11 rfl (rest := []) m_X_plant k_11_45 9 1 (Or.inl ⟨by decide, rfl⟩) [(vI (sc.getD (Int.toNat (w32 (v3 + 1))) 0))] rfl rfl (c_X_plant e_74) (by decide) (Nat.le_of_ble_eq_true rfl) (dl (by decide +kernel)) (Nat.le_refl _) (Nat.le_refl _) ?_
                    show XR false 54 174 sc (yW nm) (470, [(0, (vR 97 0)), (1, (vR 9 1)), (2, (vR 10 104)), (3, (vI v3))], [(vI r_71)], R_72, M_73, 174) _
                    refine s_W_law [(470, .aload_n 2, 0, 0), (471, .aload_n 0, 0, 0), (472, .iload_n 3, 0, 0), (473, .iconst 1, 0, 1), (474, .iadd, 0, 0), (475, .iaload, 97, 0)] (by decide +kernel) (z' := (476, [(0, (vR 97 0)), (1, (vR 9 1)), (2, (vR 10 104)), (3, (vI v3))], [(vI (sc.getD (Int.toNat (w32 (v3 + 1))) 0)), (vR 10 104), (vI r_71)], R_72, M_73, 174)) (cs := [(97 : Nat) = 97, xidx (w32 (v3 + 1)) sc.length]) (by rfl) ⟨rfl, c_70, trivial⟩ (Nat.le_refl _) ?_
                    obtain ⟨r_75, M_76, e_77, h⟩ := xb2_ex h
                    refine XR.callV 11 rfl (rest := [(vI r_71)]) m_M_plant k_11_49 10 104 (Or.inl ⟨by decide, rfl⟩) [(vI (sc.getD (Int.toNat (w32 (v3 + 1))) 0))] rfl rfl (c_M_plant e_77) (by decide) (Nat.le_of_ble_eq_true rfl) (dl (by decide +kernel)) (Nat.le_refl _) (Nat.le_refl _) ?_
                    show XR false 54 174 sc (yW nm) (479, [(0, (vR 97 0)), (1, (vR 9 1)), (2, (vR 10 104)), (3, (vI v3))], [(vI r_75), (vI r_71)], R_72, M_76, 174) _
                    rcases xif_ex h with ⟨c_78, h⟩ | ⟨c_78, h⟩
                    · skip
                      refine s_W_law [(479, .if_icmp .eq 927, 0, 1406)] (by decide +kernel) (z' := (1406, [(0, (vR 97 0)), (1, (vR 9 1)), (2, (vR 10 104)), (3, (vI v3))], [], R_72, M_76, 174)) (cs := [r_71 = r_75]) (by rfl) ⟨c_78, trivial⟩ (Nat.le_refl _) ?_
                      exact o_W_law_J1406 ih h
                    · skip
                      refine s_W_law [(479, .if_icmp .eq 927, 0, (-1)), (482, .iconst 0, 0, 0)] (by decide +kernel) (z' := (483, [(0, (vR 97 0)), (1, (vR 9 1)), (2, (vR 10 104)), (3, (vI v3))], [(vI 0)], R_72, M_76, 174)) (cs := [¬ (r_71 = r_75)]) (by rfl) ⟨c_78, trivial⟩ (Nat.le_refl _) ?_
                      obtain rfl := Option.some.inj h
                      exact XR.retI .boolean rfl (xnar_z (by decide)) (dl (by decide +kernel))
                  · skip
                    rcases xif_ex h with ⟨c_79, h⟩ | ⟨c_79, h⟩
                    · skip
                      obtain ⟨c_80, h⟩ := xch_ex h
                      refine s_W_law [(33, .tableswitch 1373 0 30 #[139, 152, 195, 268, 302, 365, 428, 451, 474, 497, 530, 553, 616, 649, 692, 745, 798, 821, 854, 907, 950, 983, 1006, 1059, 1082, 1145, 1158, 1211, 1234, 1287, 1340], 8, 484), (484, .aload_n 1, 0, 0), (485, .aload_n 0, 0, 0), (486, .iload_n 3, 0, 0), (487, .iconst 1, 0, 1), (488, .iadd, 0, 0), (489, .iaload, 97, 0)] (by decide +kernel) (z' := (490, [(0, (vR 97 0)), (1, (vR 9 1)), (2, (vR 10 104)), (3, (vI v3))], [(vI (sc.getD (Int.toNat (w32 (v3 + 1))) 0)), (vR 9 1)], R, M, 174)) (cs := [xand (sc.getD (Int.toNat v3) 0) 31 = (0 : Int) + ((7 : Nat) : Int), (97 : Nat) = 97, xidx (w32 (v3 + 1)) sc.length]) (by rfl) ⟨by rw [c_79]; rfl, rfl, c_80, trivial⟩ (Nat.le_refl _) ?_
                      obtain ⟨r_81, R_82, M_83, e_84, h⟩ := xb3_ex h
                      refine XR.callV 11 rfl (rest := []) m_X_laws k_11_50 9 1 (Or.inl ⟨by decide, rfl⟩) [(vI (sc.getD (Int.toNat (w32 (v3 + 1))) 0))] rfl rfl (c_X_laws e_84) (by decide) (Nat.le_of_ble_eq_true rfl) (dl (by decide +kernel)) (Nat.le_refl _) (Nat.le_refl _) ?_
                      show XR false 54 174 sc (yW nm) (493, [(0, (vR 97 0)), (1, (vR 9 1)), (2, (vR 10 104)), (3, (vI v3))], [(vI r_81)], R_82, M_83, 174) _
                      refine s_W_law [(493, .aload_n 2, 0, 0), (494, .aload_n 0, 0, 0), (495, .iload_n 3, 0, 0), (496, .iconst 1, 0, 1), (497, .iadd, 0, 0), (498, .iaload, 97, 0)] (by decide +kernel) (z' := (499, [(0, (vR 97 0)), (1, (vR 9 1)), (2, (vR 10 104)), (3, (vI v3))], [(vI (sc.getD (Int.toNat (w32 (v3 + 1))) 0)), (vR 10 104), (vI r_81)], R_82, M_83, 174)) (cs := [(97 : Nat) = 97, xidx (w32 (v3 + 1)) sc.length]) (by rfl) ⟨rfl, c_80, trivial⟩ (Nat.le_refl _) ?_
                      obtain ⟨r_85, M_86, e_87, h⟩ := xb2_ex h
                      refine XR.callV 11 rfl (rest := [(vI r_81)]) m_M_laws k_11_53 10 104 (Or.inl ⟨by decide, rfl⟩) [(vI (sc.getD (Int.toNat (w32 (v3 + 1))) 0))] rfl rfl (c_M_laws e_87) (by decide) (Nat.le_of_ble_eq_true rfl) (dl (by decide +kernel)) (Nat.le_refl _) (Nat.le_refl _) ?_
                      show XR false 54 174 sc (yW nm) (502, [(0, (vR 97 0)), (1, (vR 9 1)), (2, (vR 10 104)), (3, (vI v3))], [(vI r_85), (vI r_81)], R_82, M_86, 174) _
                      rcases xif_ex h with ⟨c_88, h⟩ | ⟨c_88, h⟩
                      · skip
                        refine s_W_law [(502, .if_icmp .eq 904, 0, 1406)] (by decide +kernel) (z' := (1406, [(0, (vR 97 0)), (1, (vR 9 1)), (2, (vR 10 104)), (3, (vI v3))], [], R_82, M_86, 174)) (cs := [r_81 = r_85]) (by rfl) ⟨c_88, trivial⟩ (Nat.le_refl _) ?_
                        exact o_W_law_J1406 ih h
                      · skip
                        refine s_W_law [(502, .if_icmp .eq 904, 0, (-1)), (505, .iconst 0, 0, 0)] (by decide +kernel) (z' := (506, [(0, (vR 97 0)), (1, (vR 9 1)), (2, (vR 10 104)), (3, (vI v3))], [(vI 0)], R_82, M_86, 174)) (cs := [¬ (r_81 = r_85)]) (by rfl) ⟨c_88, trivial⟩ (Nat.le_refl _) ?_
                        obtain rfl := Option.some.inj h
                        exact XR.retI .boolean rfl (xnar_z (by decide)) (dl (by decide +kernel))
                    · skip
                      rcases xif_ex h with ⟨c_89, h⟩ | ⟨c_89, h⟩
                      · skip
                        obtain ⟨c_90, h⟩ := xch_ex h
                        refine s_W_law [(33, .tableswitch 1373 0 30 #[139, 152, 195, 268, 302, 365, 428, 451, 474, 497, 530, 553, 616, 649, 692, 745, 798, 821, 854, 907, 950, 983, 1006, 1059, 1082, 1145, 1158, 1211, 1234, 1287, 1340], 9, 507), (507, .aload_n 1, 0, 0), (508, .aload_n 0, 0, 0), (509, .iload_n 3, 0, 0), (510, .iconst 1, 0, 1), (511, .iadd, 0, 0), (512, .iaload, 97, 0)] (by decide +kernel) (z' := (513, [(0, (vR 97 0)), (1, (vR 9 1)), (2, (vR 10 104)), (3, (vI v3))], [(vI (sc.getD (Int.toNat (w32 (v3 + 1))) 0)), (vR 9 1)], R, M, 174)) (cs := [xand (sc.getD (Int.toNat v3) 0) 31 = (0 : Int) + ((8 : Nat) : Int), (97 : Nat) = 97, xidx (w32 (v3 + 1)) sc.length]) (by rfl) ⟨by rw [c_89]; rfl, rfl, c_90, trivial⟩ (Nat.le_refl _) ?_
                        obtain ⟨r_91, e_92, h⟩ := xb1_ex h
                        refine XR.callV 11 rfl (rest := []) m_X_fault k_11_54 9 1 (Or.inl ⟨by decide, rfl⟩) [(vI (sc.getD (Int.toNat (w32 (v3 + 1))) 0))] rfl rfl (c_X_fault e_92) (by decide) (Nat.le_of_ble_eq_true rfl) (dl (by decide +kernel)) (Nat.le_refl _) (Nat.le_refl _) ?_
                        show XR false 54 174 sc (yW nm) (516, [(0, (vR 97 0)), (1, (vR 9 1)), (2, (vR 10 104)), (3, (vI v3))], [(vI r_91)], R, M, 174) _
                        refine s_W_law [(516, .aload_n 2, 0, 0), (517, .aload_n 0, 0, 0), (518, .iload_n 3, 0, 0), (519, .iconst 1, 0, 1), (520, .iadd, 0, 0), (521, .iaload, 97, 0)] (by decide +kernel) (z' := (522, [(0, (vR 97 0)), (1, (vR 9 1)), (2, (vR 10 104)), (3, (vI v3))], [(vI (sc.getD (Int.toNat (w32 (v3 + 1))) 0)), (vR 10 104), (vI r_91)], R, M, 174)) (cs := [(97 : Nat) = 97, xidx (w32 (v3 + 1)) sc.length]) (by rfl) ⟨rfl, c_90, trivial⟩ (Nat.le_refl _) ?_
                        obtain ⟨r_93, e_94, h⟩ := xb1_ex h
                        refine XR.callV 11 rfl (rest := [(vI r_91)]) m_M_fault k_11_57 10 104 (Or.inl ⟨by decide, rfl⟩) [(vI (sc.getD (Int.toNat (w32 (v3 + 1))) 0))] rfl rfl (c_M_fault e_94) (by decide) (Nat.le_of_ble_eq_true rfl) (dl (by decide +kernel)) (Nat.le_refl _) (Nat.le_refl _) ?_
                        show XR false 54 174 sc (yW nm) (525, [(0, (vR 97 0)), (1, (vR 9 1)), (2, (vR 10 104)), (3, (vI v3))], [(vI r_93), (vI r_91)], R, M, 174) _
                        rcases xif_ex h with ⟨c_95, h⟩ | ⟨c_95, h⟩
                        · skip
                          refine s_W_law [(525, .if_icmp .eq 881, 0, 1406)] (by decide +kernel) (z' := (1406, [(0, (vR 97 0)), (1, (vR 9 1)), (2, (vR 10 104)), (3, (vI v3))], [], R, M, 174)) (cs := [r_91 = r_93]) (by rfl) ⟨c_95, trivial⟩ (Nat.le_refl _) ?_
                          exact o_W_law_J1406 ih h
                        · skip
                          refine s_W_law [(525, .if_icmp .eq 881, 0, (-1)), (528, .iconst 0, 0, 0)] (by decide +kernel) (z' := (529, [(0, (vR 97 0)), (1, (vR 9 1)), (2, (vR 10 104)), (3, (vI v3))], [(vI 0)], R, M, 174)) (cs := [¬ (r_91 = r_93)]) (by rfl) ⟨c_95, trivial⟩ (Nat.le_refl _) ?_
                          obtain rfl := Option.some.inj h
                          exact XR.retI .boolean rfl (xnar_z (by decide)) (dl (by decide +kernel))
                      · skip
                        rcases xif_ex h with ⟨c_96, h⟩ | ⟨c_96, h⟩
                        · skip
                          obtain ⟨c_97, h⟩ := xch_ex h
                          obtain ⟨c_98, h⟩ := xch_ex h
                          refine s_W_law [(33, .tableswitch 1373 0 30 #[139, 152, 195, 268, 302, 365, 428, 451, 474, 497, 530, 553, 616, 649, 692, 745, 798, 821, 854, 907, 950, 983, 1006, 1059, 1082, 1145, 1158, 1211, 1234, 1287, 1340], 10, 530), (530, .aload_n 1, 0, 0), (531, .aload_n 0, 0, 0), (532, .iload_n 3, 0, 0), (533, .iconst 1, 0, 1), (534, .iadd, 0, 0), (535, .iaload, 97, 0), (536, .aload_n 0, 0, 0), (537, .iload_n 3, 0, 0), (538, .iconst 2, 0, 2), (539, .iadd, 0, 0), (540, .iaload, 97, 0)] (by decide +kernel) (z' := (541, [(0, (vR 97 0)), (1, (vR 9 1)), (2, (vR 10 104)), (3, (vI v3))], [(vI (sc.getD (Int.toNat (w32 (v3 + 2))) 0)), (vI (sc.getD (Int.toNat (w32 (v3 + 1))) 0)), (vR 9 1)], R, M, 174)) (cs := [xand (sc.getD (Int.toNat v3) 0) 31 = (0 : Int) + ((9 : Nat) : Int), (97 : Nat) = 97, xidx (w32 (v3 + 1)) sc.length, (97 : Nat) = 97, xidx (w32 (v3 + 2)) sc.length]) (by rfl) ⟨by rw [c_96]; rfl, rfl, c_97, rfl, c_98, trivial⟩ (Nat.le_refl _) ?_
                          obtain ⟨r_99, M_100, e_101, h⟩ := xb2_ex h
                          refine XR.callV 11 rfl (rest := []) m_X_cleaner k_11_58 9 1 (Or.inl ⟨by decide, rfl⟩) [(vI (sc.getD (Int.toNat (w32 (v3 + 1))) 0)), (vI (sc.getD (Int.toNat (w32 (v3 + 2))) 0))] rfl rfl (c_X_cleaner e_101) (by decide) (Nat.le_of_ble_eq_true rfl) (dl (by decide +kernel)) (Nat.le_refl _) (Nat.le_refl _) ?_
                          show XR false 54 174 sc (yW nm) (544, [(0, (vR 97 0)), (1, (vR 9 1)), (2, (vR 10 104)), (3, (vI v3))], [(vI r_99)], R, M_100, 174) _
                          refine s_W_law [(544, .aload_n 2, 0, 0), (545, .aload_n 0, 0, 0), (546, .iload_n 3, 0, 0), (547, .iconst 1, 0, 1), (548, .iadd, 0, 0), (549, .iaload, 97, 0), (550, .aload_n 0, 0, 0), (551, .iload_n 3, 0, 0), (552, .iconst 2, 0, 2), (553, .iadd, 0, 0), (554, .iaload, 97, 0)] (by decide +kernel) (z' := (555, [(0, (vR 97 0)), (1, (vR 9 1)), (2, (vR 10 104)), (3, (vI v3))], [(vI (sc.getD (Int.toNat (w32 (v3 + 2))) 0)), (vI (sc.getD (Int.toNat (w32 (v3 + 1))) 0)), (vR 10 104), (vI r_99)], R, M_100, 174)) (cs := [(97 : Nat) = 97, xidx (w32 (v3 + 1)) sc.length, (97 : Nat) = 97, xidx (w32 (v3 + 2)) sc.length]) (by rfl) ⟨rfl, c_97, rfl, c_98, trivial⟩ (Nat.le_refl _) ?_
                          obtain ⟨r_102, M_103, e_104, h⟩ := xb2_ex h
                          refine XR.callV 11 rfl (rest := [(vI r_99)]) m_M_cleaner k_11_62 10 104 (Or.inl ⟨by decide, rfl⟩) [(vI (sc.getD (Int.toNat (w32 (v3 + 1))) 0)), (vI (sc.getD (Int.toNat (w32 (v3 + 2))) 0))] rfl rfl (c_M_cleaner e_104) (by decide) (Nat.le_of_ble_eq_true rfl) (dl (by decide +kernel)) (Nat.le_refl _) (Nat.le_refl _) ?_
                          show XR false 54 174 sc (yW nm) (558, [(0, (vR 97 0)), (1, (vR 9 1)), (2, (vR 10 104)), (3, (vI v3))], [(vI r_102), (vI r_99)], R, M_103, 174) _
                          rcases xif_ex h with ⟨c_105, h⟩ | ⟨c_105, h⟩
                          · skip
                            refine s_W_law [(558, .if_icmp .eq 848, 0, 1406)] (by decide +kernel) (z' := (1406, [(0, (vR 97 0)), (1, (vR 9 1)), (2, (vR 10 104)), (3, (vI v3))], [], R, M_103, 174)) (cs := [r_99 = r_102]) (by rfl) ⟨c_105, trivial⟩ (Nat.le_refl _) ?_
                            exact o_W_law_J1406 ih h
                          · skip
                            refine s_W_law [(558, .if_icmp .eq 848, 0, (-1)), (561, .iconst 0, 0, 0)] (by decide +kernel) (z' := (562, [(0, (vR 97 0)), (1, (vR 9 1)), (2, (vR 10 104)), (3, (vI v3))], [(vI 0)], R, M_103, 174)) (cs := [¬ (r_99 = r_102)]) (by rfl) ⟨c_105, trivial⟩ (Nat.le_refl _) ?_
                            obtain rfl := Option.some.inj h
                            exact XR.retI .boolean rfl (xnar_z (by decide)) (dl (by decide +kernel))
                        · skip
                          rcases xif_ex h with ⟨c_106, h⟩ | ⟨c_106, h⟩
                          · skip
                            obtain ⟨c_107, h⟩ := xch_ex h
                            refine s_W_law [(33, .tableswitch 1373 0 30 #[139, 152, 195, 268, 302, 365, 428, 451, 474, 497, 530, 553, 616, 649, 692, 745, 798, 821, 854, 907, 950, 983, 1006, 1059, 1082, 1145, 1158, 1211, 1234, 1287, 1340], 11, 563), (563, .aload_n 1, 0, 0), (564, .aload_n 0, 0, 0), (565, .iload_n 3, 0, 0), (566, .iconst 1, 0, 1), (567, .iadd, 0, 0), (568, .iaload, 97, 0)] (by decide +kernel) (z' := (569, [(0, (vR 97 0)), (1, (vR 9 1)), (2, (vR 10 104)), (3, (vI v3))], [(vI (sc.getD (Int.toNat (w32 (v3 + 1))) 0)), (vR 9 1)], R, M, 174)) (cs := [xand (sc.getD (Int.toNat v3) 0) 31 = (0 : Int) + ((10 : Nat) : Int), (97 : Nat) = 97, xidx (w32 (v3 + 1)) sc.length]) (by rfl) ⟨by rw [c_106]; rfl, rfl, c_107, trivial⟩ (Nat.le_refl _) ?_
                            obtain ⟨r_108, M_109, e_110, h⟩ := xb2_ex h
                            refine XR.callV 11 rfl (rest := []) m_X_works k_11_63 9 1 (Or.inl ⟨by decide, rfl⟩) [(vI (sc.getD (Int.toNat (w32 (v3 + 1))) 0))] rfl rfl (c_X_works e_110) (by decide) (Nat.le_of_ble_eq_true rfl) (dl (by decide +kernel)) (Nat.le_refl _) (Nat.le_refl _) ?_
                            show XR false 54 174 sc (yW nm) (572, [(0, (vR 97 0)), (1, (vR 9 1)), (2, (vR 10 104)), (3, (vI v3))], [(vI r_108)], R, M_109, 174) _
                            refine s_W_law [(572, .aload_n 2, 0, 0), (573, .aload_n 0, 0, 0), (574, .iload_n 3, 0, 0), (575, .iconst 1, 0, 1), (576, .iadd, 0, 0), (577, .iaload, 97, 0)] (by decide +kernel) (z' := (578, [(0, (vR 97 0)), (1, (vR 9 1)), (2, (vR 10 104)), (3, (vI v3))], [(vI (sc.getD (Int.toNat (w32 (v3 + 1))) 0)), (vR 10 104), (vI r_108)], R, M_109, 174)) (cs := [(97 : Nat) = 97, xidx (w32 (v3 + 1)) sc.length]) (by rfl) ⟨rfl, c_107, trivial⟩ (Nat.le_refl _) ?_
                            obtain ⟨r_111, M_112, e_113, h⟩ := xb2_ex h
                            refine XR.callV 11 rfl (rest := [(vI r_108)]) m_M_works k_11_66 10 104 (Or.inl ⟨by decide, rfl⟩) [(vI (sc.getD (Int.toNat (w32 (v3 + 1))) 0))] rfl rfl (c_M_works e_113) (by decide) (Nat.le_of_ble_eq_true rfl) (dl (by decide +kernel)) (Nat.le_refl _) (Nat.le_refl _) ?_
                            show XR false 54 174 sc (yW nm) (581, [(0, (vR 97 0)), (1, (vR 9 1)), (2, (vR 10 104)), (3, (vI v3))], [(vI r_111), (vI r_108)], R, M_112, 174) _
                            rcases xif_ex h with ⟨c_114, h⟩ | ⟨c_114, h⟩
                            · skip
                              refine s_W_law [(581, .if_icmp .eq 825, 0, 1406)] (by decide +kernel) (z' := (1406, [(0, (vR 97 0)), (1, (vR 9 1)), (2, (vR 10 104)), (3, (vI v3))], [], R, M_112, 174)) (cs := [r_108 = r_111]) (by rfl) ⟨c_114, trivial⟩ (Nat.le_refl _) ?_
                              exact o_W_law_J1406 ih h
                            · skip
                              refine s_W_law [(581, .if_icmp .eq 825, 0, (-1)), (584, .iconst 0, 0, 0)] (by decide +kernel) (z' := (585, [(0, (vR 97 0)), (1, (vR 9 1)), (2, (vR 10 104)), (3, (vI v3))], [(vI 0)], R, M_112, 174)) (cs := [¬ (r_108 = r_111)]) (by rfl) ⟨c_114, trivial⟩ (Nat.le_refl _) ?_
                              obtain rfl := Option.some.inj h
                              exact XR.retI .boolean rfl (xnar_z (by decide)) (dl (by decide +kernel))
                          · skip
                            rcases xif_ex h with ⟨c_115, h⟩ | ⟨c_115, h⟩
                            · skip
                              obtain ⟨c_116, h⟩ := xch_ex h
                              obtain ⟨c_117, h⟩ := xch_ex h
                              obtain ⟨c_118, h⟩ := xch_ex h
                              obtain ⟨c_119, h⟩ := xch_ex h
                              obtain ⟨c_120, h⟩ := xch_ex h
                              refine s_W_law [(33, .tableswitch 1373 0 30 #[139, 152, 195, 268, 302, 365, 428, 451, 474, 497, 530, 553, 616, 649, 692, 745, 798, 821, 854, 907, 950, 983, 1006, 1059, 1082, 1145, 1158, 1211, 1234, 1287, 1340], 12, 586), (586, .aload_n 1, 0, 0), (587, .aload_n 0, 0, 0), (588, .iload_n 3, 0, 0), (589, .iconst 1, 0, 1), (590, .iadd, 0, 0), (591, .iaload, 97, 0), (592, .aload_n 0, 0, 0), (593, .iload_n 3, 0, 0), (594, .iconst 2, 0, 2), (595, .iadd, 0, 0), (596, .iaload, 97, 0), (597, .aload_n 0, 0, 0), (598, .iload_n 3, 0, 0), (599, .iconst 3, 0, 3), (600, .iadd, 0, 0), (601, .iaload, 97, 0), (602, .aload_n 0, 0, 0), (603, .iload_n 3, 0, 0), (604, .iconst 4, 0, 4), (605, .iadd, 0, 0), (606, .iaload, 97, 0), (607, .aload_n 0, 0, 0), (608, .iload_n 3, 0, 0), (609, .iconst 5, 0, 5), (610, .iadd, 0, 0), (611, .iaload, 97, 0)] (by decide +kernel) (z' := (612, [(0, (vR 97 0)), (1, (vR 9 1)), (2, (vR 10 104)), (3, (vI v3))], [(vI (sc.getD (Int.toNat (w32 (v3 + 5))) 0)), (vI (sc.getD (Int.toNat (w32 (v3 + 4))) 0)), (vI (sc.getD (Int.toNat (w32 (v3 + 3))) 0)), (vI (sc.getD (Int.toNat (w32 (v3 + 2))) 0)), (vI (sc.getD (Int.toNat (w32 (v3 + 1))) 0)), (vR 9 1)], R, M, 174)) (cs := [xand (sc.getD (Int.toNat v3) 0) 31 = (0 : Int) + ((11 : Nat) : Int), (97 : Nat) = 97, xidx (w32 (v3 + 1)) sc.length, (97 : Nat) = 97, xidx (w32 (v3 + 2)) sc.length, (97 : Nat) = 97, xidx (w32 (v3 + 3)) sc.length, (97 : Nat) = 97, xidx (w32 (v3 + 4)) sc.length, (97 : Nat) = 97, xidx (w32 (v3 + 5)) sc.length]) (by rfl) ⟨by rw [c_115]; rfl, rfl, c_116, rfl, c_117, rfl, c_118, rfl, c_119, rfl, c_120, trivial⟩ (Nat.le_refl _) ?_
                              obtain ⟨r_121, M_122, e_123, h⟩ := xb2_ex h
                              refine XR.callV 11 rfl (rest := []) m_X_row k_11_67 9 1 (Or.inl ⟨by decide, rfl⟩) [(vI (sc.getD (Int.toNat (w32 (v3 + 1))) 0)), (vI (sc.getD (Int.toNat (w32 (v3 + 2))) 0)), (vI (sc.getD (Int.toNat (w32 (v3 + 3))) 0)), (vI (sc.getD (Int.toNat (w32 (v3 + 4))) 0)), (vI (sc.getD (Int.toNat (w32 (v3 + 5))) 0))] rfl rfl (c_X_row e_123) (by decide) (Nat.le_of_ble_eq_true rfl) (dl (by decide +kernel)) (Nat.le_refl _) (Nat.le_refl _) ?_
                              show XR false 54 174 sc (yW nm) (615, [(0, (vR 97 0)), (1, (vR 9 1)), (2, (vR 10 104)), (3, (vI v3))], [(vI r_121)], R, M_122, 174) _
                              refine s_W_law [(615, .aload_n 2, 0, 0), (616, .aload_n 0, 0, 0), (617, .iload_n 3, 0, 0), (618, .iconst 1, 0, 1), (619, .iadd, 0, 0), (620, .iaload, 97, 0), (621, .aload_n 0, 0, 0), (622, .iload_n 3, 0, 0), (623, .iconst 2, 0, 2), (624, .iadd, 0, 0), (625, .iaload, 97, 0), (626, .aload_n 0, 0, 0), (627, .iload_n 3, 0, 0), (628, .iconst 3, 0, 3), (629, .iadd, 0, 0), (630, .iaload, 97, 0), (631, .aload_n 0, 0, 0), (632, .iload_n 3, 0, 0), (633, .iconst 4, 0, 4), (634, .iadd, 0, 0), (635, .iaload, 97, 0), (636, .aload_n 0, 0, 0), (637, .iload_n 3, 0, 0), (638, .iconst 5, 0, 5), (639, .iadd, 0, 0), (640, .iaload, 97, 0)] (by decide +kernel) (z' := (641, [(0, (vR 97 0)), (1, (vR 9 1)), (2, (vR 10 104)), (3, (vI v3))], [(vI (sc.getD (Int.toNat (w32 (v3 + 5))) 0)), (vI (sc.getD (Int.toNat (w32 (v3 + 4))) 0)), (vI (sc.getD (Int.toNat (w32 (v3 + 3))) 0)), (vI (sc.getD (Int.toNat (w32 (v3 + 2))) 0)), (vI (sc.getD (Int.toNat (w32 (v3 + 1))) 0)), (vR 10 104), (vI r_121)], R, M_122, 174)) (cs := [(97 : Nat) = 97, xidx (w32 (v3 + 1)) sc.length, (97 : Nat) = 97, xidx (w32 (v3 + 2)) sc.length, (97 : Nat) = 97, xidx (w32 (v3 + 3)) sc.length, (97 : Nat) = 97, xidx (w32 (v3 + 4)) sc.length, (97 : Nat) = 97, xidx (w32 (v3 + 5)) sc.length]) (by rfl) ⟨rfl, c_116, rfl, c_117, rfl, c_118, rfl, c_119, rfl, c_120, trivial⟩ (Nat.le_refl _) ?_
                              obtain ⟨r_124, M_125, e_126, h⟩ := xb2_ex h
                              refine XR.callV 11 rfl (rest := [(vI r_121)]) m_M_row k_11_70 10 104 (Or.inl ⟨by decide, rfl⟩) [(vI (sc.getD (Int.toNat (w32 (v3 + 1))) 0)), (vI (sc.getD (Int.toNat (w32 (v3 + 2))) 0)), (vI (sc.getD (Int.toNat (w32 (v3 + 3))) 0)), (vI (sc.getD (Int.toNat (w32 (v3 + 4))) 0)), (vI (sc.getD (Int.toNat (w32 (v3 + 5))) 0))] rfl rfl (c_M_row e_126) (by decide) (Nat.le_of_ble_eq_true rfl) (dl (by decide +kernel)) (Nat.le_refl _) (Nat.le_refl _) ?_
                              show XR false 54 174 sc (yW nm) (644, [(0, (vR 97 0)), (1, (vR 9 1)), (2, (vR 10 104)), (3, (vI v3))], [(vI r_124), (vI r_121)], R, M_125, 174) _
                              rcases xif_ex h with ⟨c_127, h⟩ | ⟨c_127, h⟩
                              · skip
                                refine s_W_law [(644, .if_icmp .eq 762, 0, 1406)] (by decide +kernel) (z' := (1406, [(0, (vR 97 0)), (1, (vR 9 1)), (2, (vR 10 104)), (3, (vI v3))], [], R, M_125, 174)) (cs := [r_121 = r_124]) (by rfl) ⟨c_127, trivial⟩ (Nat.le_refl _) ?_
                                exact o_W_law_J1406 ih h
                              · skip
                                refine s_W_law [(644, .if_icmp .eq 762, 0, (-1)), (647, .iconst 0, 0, 0)] (by decide +kernel) (z' := (648, [(0, (vR 97 0)), (1, (vR 9 1)), (2, (vR 10 104)), (3, (vI v3))], [(vI 0)], R, M_125, 174)) (cs := [¬ (r_121 = r_124)]) (by rfl) ⟨c_127, trivial⟩ (Nat.le_refl _) ?_
                                obtain rfl := Option.some.inj h
                                exact XR.retI .boolean rfl (xnar_z (by decide)) (dl (by decide +kernel))
                            · skip
                              rcases xif_ex h with ⟨c_128, h⟩ | ⟨c_128, h⟩
                              · skip
                                obtain ⟨c_129, h⟩ := xch_ex h
                                obtain ⟨c_130, h⟩ := xch_ex h
                                refine s_W_law [(33, .tableswitch 1373 0 30 #[139, 152, 195, 268, 302, 365, 428, 451, 474, 497, 530, 553, 616, 649, 692, 745, 798, 821, 854, 907, 950, 983, 1006, 1059, 1082, 1145, 1158, 1211, 1234, 1287, 1340], 13, 649), (649, .aload_n 1, 0, 0), (650, .aload_n 0, 0, 0), (651, .iload_n 3, 0, 0), (652, .iconst 1, 0, 1), (653, .iadd, 0, 0), (654, .iaload, 97, 0), (655, .aload_n 0, 0, 0), (656, .iload_n 3, 0, 0), (657, .iconst 2, 0, 2), (658, .iadd, 0, 0), (659, .iaload, 97, 0)] (by decide +kernel) (z' := (660, [(0, (vR 97 0)), (1, (vR 9 1)), (2, (vR 10 104)), (3, (vI v3))], [(vI (sc.getD (Int.toNat (w32 (v3 + 2))) 0)), (vI (sc.getD (Int.toNat (w32 (v3 + 1))) 0)), (vR 9 1)], R, M, 174)) (cs := [xand (sc.getD (Int.toNat v3) 0) 31 = (0 : Int) + ((12 : Nat) : Int), (97 : Nat) = 97, xidx (w32 (v3 + 1)) sc.length, (97 : Nat) = 97, xidx (w32 (v3 + 2)) sc.length]) (by rfl) ⟨by rw [c_128]; rfl, rfl, c_129, rfl, c_130, trivial⟩ (Nat.le_refl _) ?_
                                obtain ⟨r_131, M_132, e_133, h⟩ := xb2_ex h
                                refine XR.callV 11 rfl (rest := []) m_X_warmth k_11_71 9 1 (Or.inl ⟨by decide, rfl⟩) [(vI (sc.getD (Int.toNat (w32 (v3 + 1))) 0)), (vI (sc.getD (Int.toNat (w32 (v3 + 2))) 0))] rfl rfl (c_X_warmth e_133) (by decide) (Nat.le_of_ble_eq_true rfl) (dl (by decide +kernel)) (Nat.le_refl _) (Nat.le_refl _) ?_
                                show XR false 54 174 sc (yW nm) (663, [(0, (vR 97 0)), (1, (vR 9 1)), (2, (vR 10 104)), (3, (vI v3))], [(vI r_131)], R, M_132, 174) _
                                refine s_W_law [(663, .aload_n 2, 0, 0), (664, .aload_n 0, 0, 0), (665, .iload_n 3, 0, 0), (666, .iconst 1, 0, 1), (667, .iadd, 0, 0), (668, .iaload, 97, 0), (669, .aload_n 0, 0, 0), (670, .iload_n 3, 0, 0), (671, .iconst 2, 0, 2), (672, .iadd, 0, 0), (673, .iaload, 97, 0)] (by decide +kernel) (z' := (674, [(0, (vR 97 0)), (1, (vR 9 1)), (2, (vR 10 104)), (3, (vI v3))], [(vI (sc.getD (Int.toNat (w32 (v3 + 2))) 0)), (vI (sc.getD (Int.toNat (w32 (v3 + 1))) 0)), (vR 10 104), (vI r_131)], R, M_132, 174)) (cs := [(97 : Nat) = 97, xidx (w32 (v3 + 1)) sc.length, (97 : Nat) = 97, xidx (w32 (v3 + 2)) sc.length]) (by rfl) ⟨rfl, c_129, rfl, c_130, trivial⟩ (Nat.le_refl _) ?_
                                obtain ⟨r_134, M_135, e_136, h⟩ := xb2_ex h
                                refine XR.callV 11 rfl (rest := [(vI r_131)]) m_M_warmth k_11_75 10 104 (Or.inl ⟨by decide, rfl⟩) [(vI (sc.getD (Int.toNat (w32 (v3 + 1))) 0)), (vI (sc.getD (Int.toNat (w32 (v3 + 2))) 0))] rfl rfl (c_M_warmth e_136) (by decide) (Nat.le_of_ble_eq_true rfl) (dl (by decide +kernel)) (Nat.le_refl _) (Nat.le_refl _) ?_
                                show XR false 54 174 sc (yW nm) (677, [(0, (vR 97 0)), (1, (vR 9 1)), (2, (vR 10 104)), (3, (vI v3))], [(vI r_134), (vI r_131)], R, M_135, 174) _
                                rcases xif_ex h with ⟨c_137, h⟩ | ⟨c_137, h⟩
                                · skip
                                  refine s_W_law [(677, .if_icmp .eq 729, 0, 1406)] (by decide +kernel) (z' := (1406, [(0, (vR 97 0)), (1, (vR 9 1)), (2, (vR 10 104)), (3, (vI v3))], [], R, M_135, 174)) (cs := [r_131 = r_134]) (by rfl) ⟨c_137, trivial⟩ (Nat.le_refl _) ?_
                                  exact o_W_law_J1406 ih h
                                · skip
                                  refine s_W_law [(677, .if_icmp .eq 729, 0, (-1)), (680, .iconst 0, 0, 0)] (by decide +kernel) (z' := (681, [(0, (vR 97 0)), (1, (vR 9 1)), (2, (vR 10 104)), (3, (vI v3))], [(vI 0)], R, M_135, 174)) (cs := [¬ (r_131 = r_134)]) (by rfl) ⟨c_137, trivial⟩ (Nat.le_refl _) ?_
                                  obtain rfl := Option.some.inj h
                                  exact XR.retI .boolean rfl (xnar_z (by decide)) (dl (by decide +kernel))
                              · skip
                                rcases xif_ex h with ⟨c_138, h⟩ | ⟨c_138, h⟩
                                · skip
                                  obtain ⟨c_139, h⟩ := xch_ex h
                                  obtain ⟨c_140, h⟩ := xch_ex h
                                  obtain ⟨c_141, h⟩ := xch_ex h
                                  refine s_W_law [(33, .tableswitch 1373 0 30 #[139, 152, 195, 268, 302, 365, 428, 451, 474, 497, 530, 553, 616, 649, 692, 745, 798, 821, 854, 907, 950, 983, 1006, 1059, 1082, 1145, 1158, 1211, 1234, 1287, 1340], 14, 682), (682, .aload_n 1, 0, 0), (683, .aload_n 0, 0, 0), (684, .iload_n 3, 0, 0), (685, .iconst 1, 0, 1), (686, .iadd, 0, 0), (687, .iaload, 97, 0), (688, .aload_n 0, 0, 0), (689, .iload_n 3, 0, 0), (690, .iconst 2, 0, 2), (691, .iadd, 0, 0), (692, .iaload, 97, 0), (693, .aload_n 0, 0, 0), (694, .iload_n 3, 0, 0), (695, .iconst 3, 0, 3), (696, .iadd, 0, 0), (697, .iaload, 97, 0)] (by decide +kernel) (z' := (698, [(0, (vR 97 0)), (1, (vR 9 1)), (2, (vR 10 104)), (3, (vI v3))], [(vI (sc.getD (Int.toNat (w32 (v3 + 3))) 0)), (vI (sc.getD (Int.toNat (w32 (v3 + 2))) 0)), (vI (sc.getD (Int.toNat (w32 (v3 + 1))) 0)), (vR 9 1)], R, M, 174)) (cs := [xand (sc.getD (Int.toNat v3) 0) 31 = (0 : Int) + ((13 : Nat) : Int), (97 : Nat) = 97, xidx (w32 (v3 + 1)) sc.length, (97 : Nat) = 97, xidx (w32 (v3 + 2)) sc.length, (97 : Nat) = 97, xidx (w32 (v3 + 3)) sc.length]) (by rfl) ⟨by rw [c_138]; rfl, rfl, c_139, rfl, c_140, rfl, c_141, trivial⟩ (Nat.le_refl _) ?_
                                  obtain ⟨r_142, M_143, e_144, h⟩ := xb2_ex h
                                  refine XR.callV 11 rfl (rest := []) m_X_knock k_11_76 9 1 (Or.inl ⟨by decide, rfl⟩) [(vI (sc.getD (Int.toNat (w32 (v3 + 1))) 0)), (vI (sc.getD (Int.toNat (w32 (v3 + 2))) 0)), (vI (sc.getD (Int.toNat (w32 (v3 + 3))) 0))] rfl rfl (c_X_knock e_144) (by decide) (Nat.le_of_ble_eq_true rfl) (dl (by decide +kernel)) (Nat.le_refl _) (Nat.le_refl _) ?_
                                  show XR false 54 174 sc (yW nm) (701, [(0, (vR 97 0)), (1, (vR 9 1)), (2, (vR 10 104)), (3, (vI v3))], [(vI r_142)], R, M_143, 174) _
                                  refine s_W_law [(701, .aload_n 2, 0, 0), (702, .aload_n 0, 0, 0), (703, .iload_n 3, 0, 0), (704, .iconst 1, 0, 1), (705, .iadd, 0, 0), (706, .iaload, 97, 0), (707, .aload_n 0, 0, 0), (708, .iload_n 3, 0, 0), (709, .iconst 2, 0, 2), (710, .iadd, 0, 0), (711, .iaload, 97, 0), (712, .aload_n 0, 0, 0), (713, .iload_n 3, 0, 0), (714, .iconst 3, 0, 3), (715, .iadd, 0, 0), (716, .iaload, 97, 0)] (by decide +kernel) (z' := (717, [(0, (vR 97 0)), (1, (vR 9 1)), (2, (vR 10 104)), (3, (vI v3))], [(vI (sc.getD (Int.toNat (w32 (v3 + 3))) 0)), (vI (sc.getD (Int.toNat (w32 (v3 + 2))) 0)), (vI (sc.getD (Int.toNat (w32 (v3 + 1))) 0)), (vR 10 104), (vI r_142)], R, M_143, 174)) (cs := [(97 : Nat) = 97, xidx (w32 (v3 + 1)) sc.length, (97 : Nat) = 97, xidx (w32 (v3 + 2)) sc.length, (97 : Nat) = 97, xidx (w32 (v3 + 3)) sc.length]) (by rfl) ⟨rfl, c_139, rfl, c_140, rfl, c_141, trivial⟩ (Nat.le_refl _) ?_
                                  obtain ⟨r_145, M_146, e_147, h⟩ := xb2_ex h
                                  refine XR.callV 11 rfl (rest := [(vI r_142)]) m_M_knock k_11_79 10 104 (Or.inl ⟨by decide, rfl⟩) [(vI (sc.getD (Int.toNat (w32 (v3 + 1))) 0)), (vI (sc.getD (Int.toNat (w32 (v3 + 2))) 0)), (vI (sc.getD (Int.toNat (w32 (v3 + 3))) 0))] rfl rfl (c_M_knock e_147) (by decide) (Nat.le_of_ble_eq_true rfl) (dl (by decide +kernel)) (Nat.le_refl _) (Nat.le_refl _) ?_
                                  show XR false 54 174 sc (yW nm) (720, [(0, (vR 97 0)), (1, (vR 9 1)), (2, (vR 10 104)), (3, (vI v3))], [(vI r_145), (vI r_142)], R, M_146, 174) _
                                  rcases xif_ex h with ⟨c_148, h⟩ | ⟨c_148, h⟩
                                  · skip
                                    refine s_W_law [(720, .if_icmp .eq 686, 0, 1406)] (by decide +kernel) (z' := (1406, [(0, (vR 97 0)), (1, (vR 9 1)), (2, (vR 10 104)), (3, (vI v3))], [], R, M_146, 174)) (cs := [r_142 = r_145]) (by rfl) ⟨c_148, trivial⟩ (Nat.le_refl _) ?_
                                    exact o_W_law_J1406 ih h
                                  · skip
                                    refine s_W_law [(720, .if_icmp .eq 686, 0, (-1)), (723, .iconst 0, 0, 0)] (by decide +kernel) (z' := (724, [(0, (vR 97 0)), (1, (vR 9 1)), (2, (vR 10 104)), (3, (vI v3))], [(vI 0)], R, M_146, 174)) (cs := [¬ (r_142 = r_145)]) (by rfl) ⟨c_148, trivial⟩ (Nat.le_refl _) ?_
                                    obtain rfl := Option.some.inj h
                                    exact XR.retI .boolean rfl (xnar_z (by decide)) (dl (by decide +kernel))
                                · skip
                                  rcases xif_ex h with ⟨c_149, h⟩ | ⟨c_149, h⟩
                                  · skip
                                    obtain ⟨c_150, h⟩ := xch_ex h
                                    obtain ⟨c_151, h⟩ := xch_ex h
                                    obtain ⟨c_152, h⟩ := xch_ex h
                                    obtain ⟨c_153, h⟩ := xch_ex h
                                    refine s_W_law [(33, .tableswitch 1373 0 30 #[139, 152, 195, 268, 302, 365, 428, 451, 474, 497, 530, 553, 616, 649, 692, 745, 798, 821, 854, 907, 950, 983, 1006, 1059, 1082, 1145, 1158, 1211, 1234, 1287, 1340], 15, 725), (725, .aload_n 1, 0, 0), (726, .aload_n 0, 0, 0), (727, .iload_n 3, 0, 0), (728, .iconst 1, 0, 1), (729, .iadd, 0, 0), (730, .iaload, 97, 0), (731, .aload_n 0, 0, 0), (732, .iload_n 3, 0, 0), (733, .iconst 2, 0, 2), (734, .iadd, 0, 0), (735, .iaload, 97, 0), (736, .aload_n 0, 0, 0), (737, .iload_n 3, 0, 0), (738, .iconst 3, 0, 3), (739, .iadd, 0, 0), (740, .iaload, 97, 0), (741, .aload_n 0, 0, 0), (742, .iload_n 3, 0, 0), (743, .iconst 4, 0, 4), (744, .iadd, 0, 0), (745, .iaload, 97, 0)] (by decide +kernel) (z' := (746, [(0, (vR 97 0)), (1, (vR 9 1)), (2, (vR 10 104)), (3, (vI v3))], [(vI (sc.getD (Int.toNat (w32 (v3 + 4))) 0)), (vI (sc.getD (Int.toNat (w32 (v3 + 3))) 0)), (vI (sc.getD (Int.toNat (w32 (v3 + 2))) 0)), (vI (sc.getD (Int.toNat (w32 (v3 + 1))) 0)), (vR 9 1)], R, M, 174)) (cs := [xand (sc.getD (Int.toNat v3) 0) 31 = (0 : Int) + ((14 : Nat) : Int), (97 : Nat) = 97, xidx (w32 (v3 + 1)) sc.length, (97 : Nat) = 97, xidx (w32 (v3 + 2)) sc.length, (97 : Nat) = 97, xidx (w32 (v3 + 3)) sc.length, (97 : Nat) = 97, xidx (w32 (v3 + 4)) sc.length]) (by rfl) ⟨by rw [c_149]; rfl, rfl, c_150, rfl, c_151, rfl, c_152, rfl, c_153, trivial⟩ (Nat.le_refl _) ?_
                                    obtain ⟨r_154, M_155, e_156, h⟩ := xb2_ex h
                                    refine XR.callV 11 rfl (rest := []) m_X_hole k_11_80 9 1 (Or.inl ⟨by decide, rfl⟩) [(vI (sc.getD (Int.toNat (w32 (v3 + 1))) 0)), (vI (sc.getD (Int.toNat (w32 (v3 + 2))) 0)), (vI (sc.getD (Int.toNat (w32 (v3 + 3))) 0)), (vI (sc.getD (Int.toNat (w32 (v3 + 4))) 0))] rfl rfl (c_X_hole e_156) (by decide) (Nat.le_of_ble_eq_true rfl) (dl (by decide +kernel)) (Nat.le_refl _) (Nat.le_refl _) ?_
                                    show XR false 54 174 sc (yW nm) (749, [(0, (vR 97 0)), (1, (vR 9 1)), (2, (vR 10 104)), (3, (vI v3))], [(vI r_154)], R, M_155, 174) _
                                    refine s_W_law [(749, .aload_n 2, 0, 0), (750, .aload_n 0, 0, 0), (751, .iload_n 3, 0, 0), (752, .iconst 1, 0, 1), (753, .iadd, 0, 0), (754, .iaload, 97, 0), (755, .aload_n 0, 0, 0), (756, .iload_n 3, 0, 0), (757, .iconst 2, 0, 2), (758, .iadd, 0, 0), (759, .iaload, 97, 0), (760, .aload_n 0, 0, 0), (761, .iload_n 3, 0, 0), (762, .iconst 3, 0, 3), (763, .iadd, 0, 0), (764, .iaload, 97, 0), (765, .aload_n 0, 0, 0), (766, .iload_n 3, 0, 0), (767, .iconst 4, 0, 4), (768, .iadd, 0, 0), (769, .iaload, 97, 0)] (by decide +kernel) (z' := (770, [(0, (vR 97 0)), (1, (vR 9 1)), (2, (vR 10 104)), (3, (vI v3))], [(vI (sc.getD (Int.toNat (w32 (v3 + 4))) 0)), (vI (sc.getD (Int.toNat (w32 (v3 + 3))) 0)), (vI (sc.getD (Int.toNat (w32 (v3 + 2))) 0)), (vI (sc.getD (Int.toNat (w32 (v3 + 1))) 0)), (vR 10 104), (vI r_154)], R, M_155, 174)) (cs := [(97 : Nat) = 97, xidx (w32 (v3 + 1)) sc.length, (97 : Nat) = 97, xidx (w32 (v3 + 2)) sc.length, (97 : Nat) = 97, xidx (w32 (v3 + 3)) sc.length, (97 : Nat) = 97, xidx (w32 (v3 + 4)) sc.length]) (by rfl) ⟨rfl, c_150, rfl, c_151, rfl, c_152, rfl, c_153, trivial⟩ (Nat.le_refl _) ?_
                                    obtain ⟨r_157, M_158, e_159, h⟩ := xb2_ex h
                                    refine XR.callV 11 rfl (rest := [(vI r_154)]) m_M_hole k_11_84 10 104 (Or.inl ⟨by decide, rfl⟩) [(vI (sc.getD (Int.toNat (w32 (v3 + 1))) 0)), (vI (sc.getD (Int.toNat (w32 (v3 + 2))) 0)), (vI (sc.getD (Int.toNat (w32 (v3 + 3))) 0)), (vI (sc.getD (Int.toNat (w32 (v3 + 4))) 0))] rfl rfl (c_M_hole e_159) (by decide) (Nat.le_of_ble_eq_true rfl) (dl (by decide +kernel)) (Nat.le_refl _) (Nat.le_refl _) ?_
                                    show XR false 54 174 sc (yW nm) (773, [(0, (vR 97 0)), (1, (vR 9 1)), (2, (vR 10 104)), (3, (vI v3))], [(vI r_157), (vI r_154)], R, M_158, 174) _
                                    rcases xif_ex h with ⟨c_160, h⟩ | ⟨c_160, h⟩
                                    · skip
                                      refine s_W_law [(773, .if_icmp .eq 633, 0, 1406)] (by decide +kernel) (z' := (1406, [(0, (vR 97 0)), (1, (vR 9 1)), (2, (vR 10 104)), (3, (vI v3))], [], R, M_158, 174)) (cs := [r_154 = r_157]) (by rfl) ⟨c_160, trivial⟩ (Nat.le_refl _) ?_
                                      exact o_W_law_J1406 ih h
                                    · skip
                                      refine s_W_law [(773, .if_icmp .eq 633, 0, (-1)), (776, .iconst 0, 0, 0)] (by decide +kernel) (z' := (777, [(0, (vR 97 0)), (1, (vR 9 1)), (2, (vR 10 104)), (3, (vI v3))], [(vI 0)], R, M_158, 174)) (cs := [¬ (r_154 = r_157)]) (by rfl) ⟨c_160, trivial⟩ (Nat.le_refl _) ?_
                                      obtain rfl := Option.some.inj h
                                      exact XR.retI .boolean rfl (xnar_z (by decide)) (dl (by decide +kernel))
                                  · skip
                                    rcases xif_ex h with ⟨c_161, h⟩ | ⟨c_161, h⟩
                                    · skip
                                      obtain ⟨c_162, h⟩ := xch_ex h
                                      obtain ⟨c_163, h⟩ := xch_ex h
                                      obtain ⟨c_164, h⟩ := xch_ex h
                                      obtain ⟨c_165, h⟩ := xch_ex h
                                      refine s_W_law [(33, .tableswitch 1373 0 30 #[139, 152, 195, 268, 302, 365, 428, 451, 474, 497, 530, 553, 616, 649, 692, 745, 798, 821, 854, 907, 950, 983, 1006, 1059, 1082, 1145, 1158, 1211, 1234, 1287, 1340], 16, 778), (778, .aload_n 1, 0, 0), (779, .aload_n 0, 0, 0), (780, .iload_n 3, 0, 0), (781, .iconst 1, 0, 1), (782, .iadd, 0, 0), (783, .iaload, 97, 0), (784, .aload_n 0, 0, 0), (785, .iload_n 3, 0, 0), (786, .iconst 2, 0, 2), (787, .iadd, 0, 0), (788, .iaload, 97, 0), (789, .aload_n 0, 0, 0), (790, .iload_n 3, 0, 0), (791, .iconst 3, 0, 3), (792, .iadd, 0, 0), (793, .iaload, 97, 0), (794, .aload_n 0, 0, 0), (795, .iload_n 3, 0, 0), (796, .iconst 4, 0, 4), (797, .iadd, 0, 0), (798, .iaload, 97, 0)] (by decide +kernel) (z' := (799, [(0, (vR 97 0)), (1, (vR 9 1)), (2, (vR 10 104)), (3, (vI v3))], [(vI (sc.getD (Int.toNat (w32 (v3 + 4))) 0)), (vI (sc.getD (Int.toNat (w32 (v3 + 3))) 0)), (vI (sc.getD (Int.toNat (w32 (v3 + 2))) 0)), (vI (sc.getD (Int.toNat (w32 (v3 + 1))) 0)), (vR 9 1)], R, M, 174)) (cs := [xand (sc.getD (Int.toNat v3) 0) 31 = (0 : Int) + ((15 : Nat) : Int), (97 : Nat) = 97, xidx (w32 (v3 + 1)) sc.length, (97 : Nat) = 97, xidx (w32 (v3 + 2)) sc.length, (97 : Nat) = 97, xidx (w32 (v3 + 3)) sc.length, (97 : Nat) = 97, xidx (w32 (v3 + 4)) sc.length]) (by rfl) ⟨by rw [c_161]; rfl, rfl, c_162, rfl, c_163, rfl, c_164, rfl, c_165, trivial⟩ (Nat.le_refl _) ?_
                                      obtain ⟨r_166, M_167, e_168, h⟩ := xb2_ex h
                                      refine XR.callV 11 rfl (rest := []) m_X_off k_11_85 9 1 (Or.inl ⟨by decide, rfl⟩) [(vI (sc.getD (Int.toNat (w32 (v3 + 1))) 0)), (vI (sc.getD (Int.toNat (w32 (v3 + 2))) 0)), (vI (sc.getD (Int.toNat (w32 (v3 + 3))) 0)), (vI (sc.getD (Int.toNat (w32 (v3 + 4))) 0))] rfl rfl (c_X_off e_168) (by decide) (Nat.le_of_ble_eq_true rfl) (dl (by decide +kernel)) (Nat.le_refl _) (Nat.le_refl _) ?_
                                      show XR false 54 174 sc (yW nm) (802, [(0, (vR 97 0)), (1, (vR 9 1)), (2, (vR 10 104)), (3, (vI v3))], [(vI r_166)], R, M_167, 174) _
                                      refine s_W_law [(802, .aload_n 2, 0, 0), (803, .aload_n 0, 0, 0), (804, .iload_n 3, 0, 0), (805, .iconst 1, 0, 1), (806, .iadd, 0, 0), (807, .iaload, 97, 0), (808, .aload_n 0, 0, 0), (809, .iload_n 3, 0, 0), (810, .iconst 2, 0, 2), (811, .iadd, 0, 0), (812, .iaload, 97, 0), (813, .aload_n 0, 0, 0), (814, .iload_n 3, 0, 0), (815, .iconst 3, 0, 3), (816, .iadd, 0, 0), (817, .iaload, 97, 0), (818, .aload_n 0, 0, 0), (819, .iload_n 3, 0, 0), (820, .iconst 4, 0, 4), (821, .iadd, 0, 0), (822, .iaload, 97, 0)] (by decide +kernel) (z' := (823, [(0, (vR 97 0)), (1, (vR 9 1)), (2, (vR 10 104)), (3, (vI v3))], [(vI (sc.getD (Int.toNat (w32 (v3 + 4))) 0)), (vI (sc.getD (Int.toNat (w32 (v3 + 3))) 0)), (vI (sc.getD (Int.toNat (w32 (v3 + 2))) 0)), (vI (sc.getD (Int.toNat (w32 (v3 + 1))) 0)), (vR 10 104), (vI r_166)], R, M_167, 174)) (cs := [(97 : Nat) = 97, xidx (w32 (v3 + 1)) sc.length, (97 : Nat) = 97, xidx (w32 (v3 + 2)) sc.length, (97 : Nat) = 97, xidx (w32 (v3 + 3)) sc.length, (97 : Nat) = 97, xidx (w32 (v3 + 4)) sc.length]) (by rfl) ⟨rfl, c_162, rfl, c_163, rfl, c_164, rfl, c_165, trivial⟩ (Nat.le_refl _) ?_
                                      obtain ⟨r_169, M_170, e_171, h⟩ := xb2_ex h
                                      refine XR.callV 11 rfl (rest := [(vI r_166)]) m_M_off k_11_88 10 104 (Or.inl ⟨by decide, rfl⟩) [(vI (sc.getD (Int.toNat (w32 (v3 + 1))) 0)), (vI (sc.getD (Int.toNat (w32 (v3 + 2))) 0)), (vI (sc.getD (Int.toNat (w32 (v3 + 3))) 0)), (vI (sc.getD (Int.toNat (w32 (v3 + 4))) 0))] rfl rfl (c_M_off e_171) (by decide) (Nat.le_of_ble_eq_true rfl) (dl (by decide +kernel)) (Nat.le_refl _) (Nat.le_refl _) ?_
                                      show XR false 54 174 sc (yW nm) (826, [(0, (vR 97 0)), (1, (vR 9 1)), (2, (vR 10 104)), (3, (vI v3))], [(vI r_169), (vI r_166)], R, M_170, 174) _
                                      rcases xif_ex h with ⟨c_172, h⟩ | ⟨c_172, h⟩
                                      · skip
                                        refine s_W_law [(826, .if_icmp .eq 580, 0, 1406)] (by decide +kernel) (z' := (1406, [(0, (vR 97 0)), (1, (vR 9 1)), (2, (vR 10 104)), (3, (vI v3))], [], R, M_170, 174)) (cs := [r_166 = r_169]) (by rfl) ⟨c_172, trivial⟩ (Nat.le_refl _) ?_
                                        exact o_W_law_J1406 ih h
                                      · skip
                                        refine s_W_law [(826, .if_icmp .eq 580, 0, (-1)), (829, .iconst 0, 0, 0)] (by decide +kernel) (z' := (830, [(0, (vR 97 0)), (1, (vR 9 1)), (2, (vR 10 104)), (3, (vI v3))], [(vI 0)], R, M_170, 174)) (cs := [¬ (r_166 = r_169)]) (by rfl) ⟨c_172, trivial⟩ (Nat.le_refl _) ?_
                                        obtain rfl := Option.some.inj h
                                        exact XR.retI .boolean rfl (xnar_z (by decide)) (dl (by decide +kernel))
                                    · skip
                                      rcases xif_ex h with ⟨c_173, h⟩ | ⟨c_173, h⟩
                                      · skip
                                        obtain ⟨c_174, h⟩ := xch_ex h
                                        refine s_W_law [(33, .tableswitch 1373 0 30 #[139, 152, 195, 268, 302, 365, 428, 451, 474, 497, 530, 553, 616, 649, 692, 745, 798, 821, 854, 907, 950, 983, 1006, 1059, 1082, 1145, 1158, 1211, 1234, 1287, 1340], 17, 831), (831, .aload_n 1, 0, 0), (832, .aload_n 0, 0, 0), (833, .iload_n 3, 0, 0), (834, .iconst 1, 0, 1), (835, .iadd, 0, 0), (836, .iaload, 97, 0)] (by decide +kernel) (z' := (837, [(0, (vR 97 0)), (1, (vR 9 1)), (2, (vR 10 104)), (3, (vI v3))], [(vI (sc.getD (Int.toNat (w32 (v3 + 1))) 0)), (vR 9 1)], R, M, 174)) (cs := [xand (sc.getD (Int.toNat v3) 0) 31 = (0 : Int) + ((16 : Nat) : Int), (97 : Nat) = 97, xidx (w32 (v3 + 1)) sc.length]) (by rfl) ⟨by rw [c_173]; rfl, rfl, c_174, trivial⟩ (Nat.le_refl _) ?_
                                        obtain ⟨r_175, M_176, e_177, h⟩ := xb2_ex h
                                        refine XR.callV 11 rfl (rest := []) m_X_asof k_11_89 9 1 (Or.inl ⟨by decide, rfl⟩) [(vI (sc.getD (Int.toNat (w32 (v3 + 1))) 0))] rfl rfl (c_X_asof e_177) (by decide) (Nat.le_of_ble_eq_true rfl) (dl (by decide +kernel)) (Nat.le_refl _) (Nat.le_refl _) ?_
                                        show XR false 54 174 sc (yW nm) (840, [(0, (vR 97 0)), (1, (vR 9 1)), (2, (vR 10 104)), (3, (vI v3))], [(vI r_175)], R, M_176, 174) _
                                        refine s_W_law [(840, .aload_n 2, 0, 0), (841, .aload_n 0, 0, 0), (842, .iload_n 3, 0, 0), (843, .iconst 1, 0, 1), (844, .iadd, 0, 0), (845, .iaload, 97, 0)] (by decide +kernel) (z' := (846, [(0, (vR 97 0)), (1, (vR 9 1)), (2, (vR 10 104)), (3, (vI v3))], [(vI (sc.getD (Int.toNat (w32 (v3 + 1))) 0)), (vR 10 104), (vI r_175)], R, M_176, 174)) (cs := [(97 : Nat) = 97, xidx (w32 (v3 + 1)) sc.length]) (by rfl) ⟨rfl, c_174, trivial⟩ (Nat.le_refl _) ?_
                                        obtain ⟨r_178, M_179, e_180, h⟩ := xb2_ex h
                                        refine XR.callV 11 rfl (rest := [(vI r_175)]) m_M_asof k_11_93 10 104 (Or.inl ⟨by decide, rfl⟩) [(vI (sc.getD (Int.toNat (w32 (v3 + 1))) 0))] rfl rfl (c_M_asof e_180) (by decide) (Nat.le_of_ble_eq_true rfl) (dl (by decide +kernel)) (Nat.le_refl _) (Nat.le_refl _) ?_
                                        show XR false 54 174 sc (yW nm) (849, [(0, (vR 97 0)), (1, (vR 9 1)), (2, (vR 10 104)), (3, (vI v3))], [(vI r_178), (vI r_175)], R, M_179, 174) _
                                        rcases xif_ex h with ⟨c_181, h⟩ | ⟨c_181, h⟩
                                        · skip
                                          refine s_W_law [(849, .if_icmp .eq 557, 0, 1406)] (by decide +kernel) (z' := (1406, [(0, (vR 97 0)), (1, (vR 9 1)), (2, (vR 10 104)), (3, (vI v3))], [], R, M_179, 174)) (cs := [r_175 = r_178]) (by rfl) ⟨c_181, trivial⟩ (Nat.le_refl _) ?_
                                          exact o_W_law_J1406 ih h
                                        · skip
                                          refine s_W_law [(849, .if_icmp .eq 557, 0, (-1)), (852, .iconst 0, 0, 0)] (by decide +kernel) (z' := (853, [(0, (vR 97 0)), (1, (vR 9 1)), (2, (vR 10 104)), (3, (vI v3))], [(vI 0)], R, M_179, 174)) (cs := [¬ (r_175 = r_178)]) (by rfl) ⟨c_181, trivial⟩ (Nat.le_refl _) ?_
                                          obtain rfl := Option.some.inj h
                                          exact XR.retI .boolean rfl (xnar_z (by decide)) (dl (by decide +kernel))
                                      · skip
                                        rcases xif_ex h with ⟨c_182, h⟩ | ⟨c_182, h⟩
                                        · skip
                                          obtain ⟨c_183, h⟩ := xch_ex h
                                          obtain ⟨c_184, h⟩ := xch_ex h
                                          refine s_W_law [(33, .tableswitch 1373 0 30 #[139, 152, 195, 268, 302, 365, 428, 451, 474, 497, 530, 553, 616, 649, 692, 745, 798, 821, 854, 907, 950, 983, 1006, 1059, 1082, 1145, 1158, 1211, 1234, 1287, 1340], 18, 854), (854, .aload_n 1, 0, 0), (855, .aload_n 0, 0, 0), (856, .iload_n 3, 0, 0), (857, .iconst 1, 0, 1), (858, .iadd, 0, 0), (859, .iaload, 97, 0), (860, .aload_n 0, 0, 0), (861, .iload_n 3, 0, 0), (862, .iconst 2, 0, 2), (863, .iadd, 0, 0), (864, .iaload, 97, 0)] (by decide +kernel) (z' := (865, [(0, (vR 97 0)), (1, (vR 9 1)), (2, (vR 10 104)), (3, (vI v3))], [(vI (sc.getD (Int.toNat (w32 (v3 + 2))) 0)), (vI (sc.getD (Int.toNat (w32 (v3 + 1))) 0)), (vR 9 1)], R, M, 174)) (cs := [xand (sc.getD (Int.toNat v3) 0) 31 = (0 : Int) + ((17 : Nat) : Int), (97 : Nat) = 97, xidx (w32 (v3 + 1)) sc.length, (97 : Nat) = 97, xidx (w32 (v3 + 2)) sc.length]) (by rfl) ⟨by rw [c_182]; rfl, rfl, c_183, rfl, c_184, trivial⟩ (Nat.le_refl _) ?_
                                          obtain ⟨r_185, M_186, e_187, h⟩ := xb2_ex h
                                          refine XR.callV 11 rfl (rest := []) m_X_up k_11_94 9 1 (Or.inl ⟨by decide, rfl⟩) [(vI (sc.getD (Int.toNat (w32 (v3 + 1))) 0)), (vI (sc.getD (Int.toNat (w32 (v3 + 2))) 0))] rfl rfl (c_X_up e_187) (by decide) (Nat.le_of_ble_eq_true rfl) (dl (by decide +kernel)) (Nat.le_refl _) (Nat.le_refl _) ?_
                                          show XR false 54 174 sc (yW nm) (868, [(0, (vR 97 0)), (1, (vR 9 1)), (2, (vR 10 104)), (3, (vI v3))], [(vI r_185)], R, M_186, 174) _
                                          refine s_W_law [(868, .aload_n 2, 0, 0), (869, .aload_n 0, 0, 0), (870, .iload_n 3, 0, 0), (871, .iconst 1, 0, 1), (872, .iadd, 0, 0), (873, .iaload, 97, 0), (874, .aload_n 0, 0, 0), (875, .iload_n 3, 0, 0), (876, .iconst 2, 0, 2), (877, .iadd, 0, 0), (878, .iaload, 97, 0)] (by decide +kernel) (z' := (879, [(0, (vR 97 0)), (1, (vR 9 1)), (2, (vR 10 104)), (3, (vI v3))], [(vI (sc.getD (Int.toNat (w32 (v3 + 2))) 0)), (vI (sc.getD (Int.toNat (w32 (v3 + 1))) 0)), (vR 10 104), (vI r_185)], R, M_186, 174)) (cs := [(97 : Nat) = 97, xidx (w32 (v3 + 1)) sc.length, (97 : Nat) = 97, xidx (w32 (v3 + 2)) sc.length]) (by rfl) ⟨rfl, c_183, rfl, c_184, trivial⟩ (Nat.le_refl _) ?_
                                          obtain ⟨r_188, M_189, e_190, h⟩ := xb2_ex h
                                          refine XR.callV 11 rfl (rest := [(vI r_185)]) m_M_up k_11_97 10 104 (Or.inl ⟨by decide, rfl⟩) [(vI (sc.getD (Int.toNat (w32 (v3 + 1))) 0)), (vI (sc.getD (Int.toNat (w32 (v3 + 2))) 0))] rfl rfl (c_M_up e_190) (by decide) (Nat.le_of_ble_eq_true rfl) (dl (by decide +kernel)) (Nat.le_refl _) (Nat.le_refl _) ?_
                                          show XR false 54 174 sc (yW nm) (882, [(0, (vR 97 0)), (1, (vR 9 1)), (2, (vR 10 104)), (3, (vI v3))], [(vI r_188), (vI r_185)], R, M_189, 174) _
                                          rcases xif_ex h with ⟨c_191, h⟩ | ⟨c_191, h⟩
                                          · skip
                                            refine s_W_law [(882, .if_icmp .eq 524, 0, 1406)] (by decide +kernel) (z' := (1406, [(0, (vR 97 0)), (1, (vR 9 1)), (2, (vR 10 104)), (3, (vI v3))], [], R, M_189, 174)) (cs := [r_185 = r_188]) (by rfl) ⟨c_191, trivial⟩ (Nat.le_refl _) ?_
                                            exact o_W_law_J1406 ih h
                                          · skip
                                            refine s_W_law [(882, .if_icmp .eq 524, 0, (-1)), (885, .iconst 0, 0, 0)] (by decide +kernel) (z' := (886, [(0, (vR 97 0)), (1, (vR 9 1)), (2, (vR 10 104)), (3, (vI v3))], [(vI 0)], R, M_189, 174)) (cs := [¬ (r_185 = r_188)]) (by rfl) ⟨c_191, trivial⟩ (Nat.le_refl _) ?_
                                            obtain rfl := Option.some.inj h
                                            exact XR.retI .boolean rfl (xnar_z (by decide)) (dl (by decide +kernel))
                                        · skip
                                          rcases xif_ex h with ⟨c_192, h⟩ | ⟨c_192, h⟩
                                          · skip
                                            obtain ⟨c_193, h⟩ := xch_ex h
                                            obtain ⟨c_194, h⟩ := xch_ex h
                                            obtain ⟨c_195, h⟩ := xch_ex h
                                            obtain ⟨c_196, h⟩ := xch_ex h
                                            refine s_W_law [(33, .tableswitch 1373 0 30 #[139, 152, 195, 268, 302, 365, 428, 451, 474, 497, 530, 553, 616, 649, 692, 745, 798, 821, 854, 907, 950, 983, 1006, 1059, 1082, 1145, 1158, 1211, 1234, 1287, 1340], 19, 887), (887, .aload_n 1, 0, 0), (888, .aload_n 0, 0, 0), (889, .iload_n 3, 0, 0), (890, .iconst 1, 0, 1), (891, .iadd, 0, 0), (892, .iaload, 97, 0), (893, .aload_n 0, 0, 0), (894, .iload_n 3, 0, 0), (895, .iconst 2, 0, 2), (896, .iadd, 0, 0), (897, .iaload, 97, 0), (898, .aload_n 0, 0, 0), (899, .iload_n 3, 0, 0), (900, .iconst 3, 0, 3), (901, .iadd, 0, 0), (902, .iaload, 97, 0), (903, .aload_n 0, 0, 0), (904, .iload_n 3, 0, 0), (905, .iconst 4, 0, 4), (906, .iadd, 0, 0), (907, .iaload, 97, 0)] (by decide +kernel) (z' := (908, [(0, (vR 97 0)), (1, (vR 9 1)), (2, (vR 10 104)), (3, (vI v3))], [(vI (sc.getD (Int.toNat (w32 (v3 + 4))) 0)), (vI (sc.getD (Int.toNat (w32 (v3 + 3))) 0)), (vI (sc.getD (Int.toNat (w32 (v3 + 2))) 0)), (vI (sc.getD (Int.toNat (w32 (v3 + 1))) 0)), (vR 9 1)], R, M, 174)) (cs := [xand (sc.getD (Int.toNat v3) 0) 31 = (0 : Int) + ((18 : Nat) : Int), (97 : Nat) = 97, xidx (w32 (v3 + 1)) sc.length, (97 : Nat) = 97, xidx (w32 (v3 + 2)) sc.length, (97 : Nat) = 97, xidx (w32 (v3 + 3)) sc.length, (97 : Nat) = 97, xidx (w32 (v3 + 4)) sc.length]) (by rfl) ⟨by rw [c_192]; rfl, rfl, c_193, rfl, c_194, rfl, c_195, rfl, c_196, trivial⟩ (Nat.le_refl _) ?_
                                            obtain ⟨r_197, M_198, e_199, h⟩ := xb2_ex h
                                            refine XR.callV 11 rfl (rest := []) m_X_at k_11_98 9 1 (Or.inl ⟨by decide, rfl⟩) [(vI (sc.getD (Int.toNat (w32 (v3 + 1))) 0)), (vI (sc.getD (Int.toNat (w32 (v3 + 2))) 0)), (vI (sc.getD (Int.toNat (w32 (v3 + 3))) 0)), (vI (sc.getD (Int.toNat (w32 (v3 + 4))) 0))] rfl rfl (c_X_at e_199) (by decide) (Nat.le_of_ble_eq_true rfl) (dl (by decide +kernel)) (Nat.le_refl _) (Nat.le_refl _) ?_
                                            show XR false 54 174 sc (yW nm) (911, [(0, (vR 97 0)), (1, (vR 9 1)), (2, (vR 10 104)), (3, (vI v3))], [(vI r_197)], R, M_198, 174) _
                                            refine s_W_law [(911, .aload_n 2, 0, 0), (912, .aload_n 0, 0, 0), (913, .iload_n 3, 0, 0), (914, .iconst 1, 0, 1), (915, .iadd, 0, 0), (916, .iaload, 97, 0), (917, .aload_n 0, 0, 0), (918, .iload_n 3, 0, 0), (919, .iconst 2, 0, 2), (920, .iadd, 0, 0), (921, .iaload, 97, 0), (922, .aload_n 0, 0, 0), (923, .iload_n 3, 0, 0), (924, .iconst 3, 0, 3), (925, .iadd, 0, 0), (926, .iaload, 97, 0), (927, .aload_n 0, 0, 0), (928, .iload_n 3, 0, 0), (929, .iconst 4, 0, 4), (930, .iadd, 0, 0), (931, .iaload, 97, 0)] (by decide +kernel) (z' := (932, [(0, (vR 97 0)), (1, (vR 9 1)), (2, (vR 10 104)), (3, (vI v3))], [(vI (sc.getD (Int.toNat (w32 (v3 + 4))) 0)), (vI (sc.getD (Int.toNat (w32 (v3 + 3))) 0)), (vI (sc.getD (Int.toNat (w32 (v3 + 2))) 0)), (vI (sc.getD (Int.toNat (w32 (v3 + 1))) 0)), (vR 10 104), (vI r_197)], R, M_198, 174)) (cs := [(97 : Nat) = 97, xidx (w32 (v3 + 1)) sc.length, (97 : Nat) = 97, xidx (w32 (v3 + 2)) sc.length, (97 : Nat) = 97, xidx (w32 (v3 + 3)) sc.length, (97 : Nat) = 97, xidx (w32 (v3 + 4)) sc.length]) (by rfl) ⟨rfl, c_193, rfl, c_194, rfl, c_195, rfl, c_196, trivial⟩ (Nat.le_refl _) ?_
                                            obtain ⟨r_200, M_201, e_202, h⟩ := xb2_ex h
                                            refine XR.callV 11 rfl (rest := [(vI r_197)]) m_M_at k_11_102 10 104 (Or.inl ⟨by decide, rfl⟩) [(vI (sc.getD (Int.toNat (w32 (v3 + 1))) 0)), (vI (sc.getD (Int.toNat (w32 (v3 + 2))) 0)), (vI (sc.getD (Int.toNat (w32 (v3 + 3))) 0)), (vI (sc.getD (Int.toNat (w32 (v3 + 4))) 0))] rfl rfl (c_M_at e_202) (by decide) (Nat.le_of_ble_eq_true rfl) (dl (by decide +kernel)) (Nat.le_refl _) (Nat.le_refl _) ?_
                                            show XR false 54 174 sc (yW nm) (935, [(0, (vR 97 0)), (1, (vR 9 1)), (2, (vR 10 104)), (3, (vI v3))], [(vI r_200), (vI r_197)], R, M_201, 174) _
                                            rcases xif_ex h with ⟨c_203, h⟩ | ⟨c_203, h⟩
                                            · skip
                                              refine s_W_law [(935, .if_icmp .eq 471, 0, 1406)] (by decide +kernel) (z' := (1406, [(0, (vR 97 0)), (1, (vR 9 1)), (2, (vR 10 104)), (3, (vI v3))], [], R, M_201, 174)) (cs := [r_197 = r_200]) (by rfl) ⟨c_203, trivial⟩ (Nat.le_refl _) ?_
                                              exact o_W_law_J1406 ih h
                                            · skip
                                              refine s_W_law [(935, .if_icmp .eq 471, 0, (-1)), (938, .iconst 0, 0, 0)] (by decide +kernel) (z' := (939, [(0, (vR 97 0)), (1, (vR 9 1)), (2, (vR 10 104)), (3, (vI v3))], [(vI 0)], R, M_201, 174)) (cs := [¬ (r_197 = r_200)]) (by rfl) ⟨c_203, trivial⟩ (Nat.le_refl _) ?_
                                              obtain rfl := Option.some.inj h
                                              exact XR.retI .boolean rfl (xnar_z (by decide)) (dl (by decide +kernel))
                                          · skip
                                            rcases xif_ex h with ⟨c_204, h⟩ | ⟨c_204, h⟩
                                            · skip
                                              obtain ⟨c_205, h⟩ := xch_ex h
                                              obtain ⟨c_206, h⟩ := xch_ex h
                                              obtain ⟨c_207, h⟩ := xch_ex h
                                              refine s_W_law [(33, .tableswitch 1373 0 30 #[139, 152, 195, 268, 302, 365, 428, 451, 474, 497, 530, 553, 616, 649, 692, 745, 798, 821, 854, 907, 950, 983, 1006, 1059, 1082, 1145, 1158, 1211, 1234, 1287, 1340], 20, 940), (940, .aload_n 1, 0, 0), (941, .aload_n 0, 0, 0), (942, .iload_n 3, 0, 0), (943, .iconst 1, 0, 1), (944, .iadd, 0, 0), (945, .iaload, 97, 0), (946, .aload_n 0, 0, 0), (947, .iload_n 3, 0, 0), (948, .iconst 2, 0, 2), (949, .iadd, 0, 0), (950, .iaload, 97, 0), (951, .aload_n 0, 0, 0), (952, .iload_n 3, 0, 0), (953, .iconst 3, 0, 3), (954, .iadd, 0, 0), (955, .iaload, 97, 0)] (by decide +kernel) (z' := (956, [(0, (vR 97 0)), (1, (vR 9 1)), (2, (vR 10 104)), (3, (vI v3))], [(vI (sc.getD (Int.toNat (w32 (v3 + 3))) 0)), (vI (sc.getD (Int.toNat (w32 (v3 + 2))) 0)), (vI (sc.getD (Int.toNat (w32 (v3 + 1))) 0)), (vR 9 1)], R, M, 174)) (cs := [xand (sc.getD (Int.toNat v3) 0) 31 = (0 : Int) + ((19 : Nat) : Int), (97 : Nat) = 97, xidx (w32 (v3 + 1)) sc.length, (97 : Nat) = 97, xidx (w32 (v3 + 2)) sc.length, (97 : Nat) = 97, xidx (w32 (v3 + 3)) sc.length]) (by rfl) ⟨by rw [c_204]; rfl, rfl, c_205, rfl, c_206, rfl, c_207, trivial⟩ (Nat.le_refl _) ?_
                                              obtain ⟨r_208, M_209, e_210, h⟩ := xb2_ex h
                                              refine XR.callV 11 rfl (rest := []) m_X_whose k_11_103 9 1 (Or.inl ⟨by decide, rfl⟩) [(vI (sc.getD (Int.toNat (w32 (v3 + 1))) 0)), (vI (sc.getD (Int.toNat (w32 (v3 + 2))) 0)), (vI (sc.getD (Int.toNat (w32 (v3 + 3))) 0))] rfl rfl (c_X_whose e_210) (by decide) (Nat.le_of_ble_eq_true rfl) (dl (by decide +kernel)) (Nat.le_refl _) (Nat.le_refl _) ?_
                                              show XR false 54 174 sc (yW nm) (959, [(0, (vR 97 0)), (1, (vR 9 1)), (2, (vR 10 104)), (3, (vI v3))], [(vI r_208)], R, M_209, 174) _
                                              refine s_W_law [(959, .aload_n 2, 0, 0), (960, .aload_n 0, 0, 0), (961, .iload_n 3, 0, 0), (962, .iconst 1, 0, 1), (963, .iadd, 0, 0), (964, .iaload, 97, 0), (965, .aload_n 0, 0, 0), (966, .iload_n 3, 0, 0), (967, .iconst 2, 0, 2), (968, .iadd, 0, 0), (969, .iaload, 97, 0), (970, .aload_n 0, 0, 0), (971, .iload_n 3, 0, 0), (972, .iconst 3, 0, 3), (973, .iadd, 0, 0), (974, .iaload, 97, 0)] (by decide +kernel) (z' := (975, [(0, (vR 97 0)), (1, (vR 9 1)), (2, (vR 10 104)), (3, (vI v3))], [(vI (sc.getD (Int.toNat (w32 (v3 + 3))) 0)), (vI (sc.getD (Int.toNat (w32 (v3 + 2))) 0)), (vI (sc.getD (Int.toNat (w32 (v3 + 1))) 0)), (vR 10 104), (vI r_208)], R, M_209, 174)) (cs := [(97 : Nat) = 97, xidx (w32 (v3 + 1)) sc.length, (97 : Nat) = 97, xidx (w32 (v3 + 2)) sc.length, (97 : Nat) = 97, xidx (w32 (v3 + 3)) sc.length]) (by rfl) ⟨rfl, c_205, rfl, c_206, rfl, c_207, trivial⟩ (Nat.le_refl _) ?_
                                              obtain ⟨r_211, M_212, e_213, h⟩ := xb2_ex h
                                              refine XR.callV 11 rfl (rest := [(vI r_208)]) m_M_whose k_11_107 10 104 (Or.inl ⟨by decide, rfl⟩) [(vI (sc.getD (Int.toNat (w32 (v3 + 1))) 0)), (vI (sc.getD (Int.toNat (w32 (v3 + 2))) 0)), (vI (sc.getD (Int.toNat (w32 (v3 + 3))) 0))] rfl rfl (c_M_whose e_213) (by decide) (Nat.le_of_ble_eq_true rfl) (dl (by decide +kernel)) (Nat.le_refl _) (Nat.le_refl _) ?_
                                              show XR false 54 174 sc (yW nm) (978, [(0, (vR 97 0)), (1, (vR 9 1)), (2, (vR 10 104)), (3, (vI v3))], [(vI r_211), (vI r_208)], R, M_212, 174) _
                                              rcases xif_ex h with ⟨c_214, h⟩ | ⟨c_214, h⟩
                                              · skip
                                                refine s_W_law [(978, .if_icmp .eq 428, 0, 1406)] (by decide +kernel) (z' := (1406, [(0, (vR 97 0)), (1, (vR 9 1)), (2, (vR 10 104)), (3, (vI v3))], [], R, M_212, 174)) (cs := [r_208 = r_211]) (by rfl) ⟨c_214, trivial⟩ (Nat.le_refl _) ?_
                                                exact o_W_law_J1406 ih h
                                              · skip
                                                refine s_W_law [(978, .if_icmp .eq 428, 0, (-1)), (981, .iconst 0, 0, 0)] (by decide +kernel) (z' := (982, [(0, (vR 97 0)), (1, (vR 9 1)), (2, (vR 10 104)), (3, (vI v3))], [(vI 0)], R, M_212, 174)) (cs := [¬ (r_208 = r_211)]) (by rfl) ⟨c_214, trivial⟩ (Nat.le_refl _) ?_
                                                obtain rfl := Option.some.inj h
                                                exact XR.retI .boolean rfl (xnar_z (by decide)) (dl (by decide +kernel))
                                            · skip
                                              rcases xif_ex h with ⟨c_215, h⟩ | ⟨c_215, h⟩
                                              · skip
                                                obtain ⟨c_216, h⟩ := xch_ex h
                                                obtain ⟨c_217, h⟩ := xch_ex h
                                                refine s_W_law [(33, .tableswitch 1373 0 30 #[139, 152, 195, 268, 302, 365, 428, 451, 474, 497, 530, 553, 616, 649, 692, 745, 798, 821, 854, 907, 950, 983, 1006, 1059, 1082, 1145, 1158, 1211, 1234, 1287, 1340], 21, 983), (983, .aload_n 1, 0, 0), (984, .aload_n 0, 0, 0), (985, .iload_n 3, 0, 0), (986, .iconst 1, 0, 1), (987, .iadd, 0, 0), (988, .iaload, 97, 0), (989, .aload_n 0, 0, 0), (990, .iload_n 3, 0, 0), (991, .iconst 2, 0, 2), (992, .iadd, 0, 0), (993, .iaload, 97, 0)] (by decide +kernel) (z' := (994, [(0, (vR 97 0)), (1, (vR 9 1)), (2, (vR 10 104)), (3, (vI v3))], [(vI (sc.getD (Int.toNat (w32 (v3 + 2))) 0)), (vI (sc.getD (Int.toNat (w32 (v3 + 1))) 0)), (vR 9 1)], R, M, 174)) (cs := [xand (sc.getD (Int.toNat v3) 0) 31 = (0 : Int) + ((20 : Nat) : Int), (97 : Nat) = 97, xidx (w32 (v3 + 1)) sc.length, (97 : Nat) = 97, xidx (w32 (v3 + 2)) sc.length]) (by rfl) ⟨by rw [c_215]; rfl, rfl, c_216, rfl, c_217, trivial⟩ (Nat.le_refl _) ?_
                                                obtain ⟨r_218, M_219, e_220, h⟩ := xb2_ex h
                                                refine XR.callV 11 rfl (rest := []) m_X_broken k_11_108 9 1 (Or.inl ⟨by decide, rfl⟩) [(vI (sc.getD (Int.toNat (w32 (v3 + 1))) 0)), (vI (sc.getD (Int.toNat (w32 (v3 + 2))) 0))] rfl rfl (c_X_broken e_220) (by decide) (Nat.le_of_ble_eq_true rfl) (dl (by decide +kernel)) (Nat.le_refl _) (Nat.le_refl _) ?_
                                                show XR false 54 174 sc (yW nm) (997, [(0, (vR 97 0)), (1, (vR 9 1)), (2, (vR 10 104)), (3, (vI v3))], [(vI r_218)], R, M_219, 174) _
                                                refine s_W_law [(997, .aload_n 2, 0, 0), (998, .aload_n 0, 0, 0), (999, .iload_n 3, 0, 0), (1000, .iconst 1, 0, 1), (1001, .iadd, 0, 0), (1002, .iaload, 97, 0), (1003, .aload_n 0, 0, 0), (1004, .iload_n 3, 0, 0), (1005, .iconst 2, 0, 2), (1006, .iadd, 0, 0), (1007, .iaload, 97, 0)] (by decide +kernel) (z' := (1008, [(0, (vR 97 0)), (1, (vR 9 1)), (2, (vR 10 104)), (3, (vI v3))], [(vI (sc.getD (Int.toNat (w32 (v3 + 2))) 0)), (vI (sc.getD (Int.toNat (w32 (v3 + 1))) 0)), (vR 10 104), (vI r_218)], R, M_219, 174)) (cs := [(97 : Nat) = 97, xidx (w32 (v3 + 1)) sc.length, (97 : Nat) = 97, xidx (w32 (v3 + 2)) sc.length]) (by rfl) ⟨rfl, c_216, rfl, c_217, trivial⟩ (Nat.le_refl _) ?_
                                                obtain ⟨r_221, M_222, e_223, h⟩ := xb2_ex h
                                                refine XR.callV 11 rfl (rest := [(vI r_218)]) m_M_broken k_11_111 10 104 (Or.inl ⟨by decide, rfl⟩) [(vI (sc.getD (Int.toNat (w32 (v3 + 1))) 0)), (vI (sc.getD (Int.toNat (w32 (v3 + 2))) 0))] rfl rfl (c_M_broken e_223) (by decide) (Nat.le_of_ble_eq_true rfl) (dl (by decide +kernel)) (Nat.le_refl _) (Nat.le_refl _) ?_
                                                show XR false 54 174 sc (yW nm) (1011, [(0, (vR 97 0)), (1, (vR 9 1)), (2, (vR 10 104)), (3, (vI v3))], [(vI r_221), (vI r_218)], R, M_222, 174) _
                                                rcases xif_ex h with ⟨c_224, h⟩ | ⟨c_224, h⟩
                                                · skip
                                                  refine s_W_law [(1011, .if_icmp .eq 395, 0, 1406)] (by decide +kernel) (z' := (1406, [(0, (vR 97 0)), (1, (vR 9 1)), (2, (vR 10 104)), (3, (vI v3))], [], R, M_222, 174)) (cs := [r_218 = r_221]) (by rfl) ⟨c_224, trivial⟩ (Nat.le_refl _) ?_
                                                  exact o_W_law_J1406 ih h
                                                · skip
                                                  refine s_W_law [(1011, .if_icmp .eq 395, 0, (-1)), (1014, .iconst 0, 0, 0)] (by decide +kernel) (z' := (1015, [(0, (vR 97 0)), (1, (vR 9 1)), (2, (vR 10 104)), (3, (vI v3))], [(vI 0)], R, M_222, 174)) (cs := [¬ (r_218 = r_221)]) (by rfl) ⟨c_224, trivial⟩ (Nat.le_refl _) ?_
                                                  obtain rfl := Option.some.inj h
                                                  exact XR.retI .boolean rfl (xnar_z (by decide)) (dl (by decide +kernel))
                                              · skip
                                                rcases xif_ex h with ⟨c_225, h⟩ | ⟨c_225, h⟩
                                                · skip
                                                  obtain ⟨c_226, h⟩ := xch_ex h
                                                  refine s_W_law [(33, .tableswitch 1373 0 30 #[139, 152, 195, 268, 302, 365, 428, 451, 474, 497, 530, 553, 616, 649, 692, 745, 798, 821, 854, 907, 950, 983, 1006, 1059, 1082, 1145, 1158, 1211, 1234, 1287, 1340], 22, 1016), (1016, .aload_n 1, 0, 0), (1017, .aload_n 0, 0, 0), (1018, .iload_n 3, 0, 0), (1019, .iconst 1, 0, 1), (1020, .iadd, 0, 0), (1021, .iaload, 97, 0)] (by decide +kernel) (z' := (1022, [(0, (vR 97 0)), (1, (vR 9 1)), (2, (vR 10 104)), (3, (vI v3))], [(vI (sc.getD (Int.toNat (w32 (v3 + 1))) 0)), (vR 9 1)], R, M, 174)) (cs := [xand (sc.getD (Int.toNat v3) 0) 31 = (0 : Int) + ((21 : Nat) : Int), (97 : Nat) = 97, xidx (w32 (v3 + 1)) sc.length]) (by rfl) ⟨by rw [c_225]; rfl, rfl, c_226, trivial⟩ (Nat.le_refl _) ?_
                                                  obtain ⟨r_227, M_228, e_229, h⟩ := xb2_ex h
                                                  refine XR.callV 11 rfl (rest := []) m_X_breach k_11_112 9 1 (Or.inl ⟨by decide, rfl⟩) [(vI (sc.getD (Int.toNat (w32 (v3 + 1))) 0))] rfl rfl (c_X_breach e_229) (by decide) (Nat.le_of_ble_eq_true rfl) (dl (by decide +kernel)) (Nat.le_refl _) (Nat.le_refl _) ?_
                                                  show XR false 54 174 sc (yW nm) (1025, [(0, (vR 97 0)), (1, (vR 9 1)), (2, (vR 10 104)), (3, (vI v3))], [(vI r_227)], R, M_228, 174) _
                                                  refine s_W_law [(1025, .aload_n 2, 0, 0), (1026, .aload_n 0, 0, 0), (1027, .iload_n 3, 0, 0), (1028, .iconst 1, 0, 1), (1029, .iadd, 0, 0), (1030, .iaload, 97, 0)] (by decide +kernel) (z' := (1031, [(0, (vR 97 0)), (1, (vR 9 1)), (2, (vR 10 104)), (3, (vI v3))], [(vI (sc.getD (Int.toNat (w32 (v3 + 1))) 0)), (vR 10 104), (vI r_227)], R, M_228, 174)) (cs := [(97 : Nat) = 97, xidx (w32 (v3 + 1)) sc.length]) (by rfl) ⟨rfl, c_226, trivial⟩ (Nat.le_refl _) ?_
                                                  obtain ⟨r_230, M_231, e_232, h⟩ := xb2_ex h
                                                  refine XR.callV 11 rfl (rest := [(vI r_227)]) m_M_breach k_11_115 10 104 (Or.inl ⟨by decide, rfl⟩) [(vI (sc.getD (Int.toNat (w32 (v3 + 1))) 0))] rfl rfl (c_M_breach e_232) (by decide) (Nat.le_of_ble_eq_true rfl) (dl (by decide +kernel)) (Nat.le_refl _) (Nat.le_refl _) ?_
                                                  show XR false 54 174 sc (yW nm) (1034, [(0, (vR 97 0)), (1, (vR 9 1)), (2, (vR 10 104)), (3, (vI v3))], [(vI r_230), (vI r_227)], R, M_231, 174) _
                                                  rcases xif_ex h with ⟨c_233, h⟩ | ⟨c_233, h⟩
                                                  · skip
                                                    refine s_W_law [(1034, .if_icmp .eq 372, 0, 1406)] (by decide +kernel) (z' := (1406, [(0, (vR 97 0)), (1, (vR 9 1)), (2, (vR 10 104)), (3, (vI v3))], [], R, M_231, 174)) (cs := [r_227 = r_230]) (by rfl) ⟨c_233, trivial⟩ (Nat.le_refl _) ?_
                                                    exact o_W_law_J1406 ih h
                                                  · skip
                                                    refine s_W_law [(1034, .if_icmp .eq 372, 0, (-1)), (1037, .iconst 0, 0, 0)] (by decide +kernel) (z' := (1038, [(0, (vR 97 0)), (1, (vR 9 1)), (2, (vR 10 104)), (3, (vI v3))], [(vI 0)], R, M_231, 174)) (cs := [¬ (r_227 = r_230)]) (by rfl) ⟨c_233, trivial⟩ (Nat.le_refl _) ?_
                                                    obtain rfl := Option.some.inj h
                                                    exact XR.retI .boolean rfl (xnar_z (by decide)) (dl (by decide +kernel))
                                                · skip
                                                  rcases xif_ex h with ⟨c_234, h⟩ | ⟨c_234, h⟩
                                                  · skip
                                                    obtain ⟨c_235, h⟩ := xch_ex h
                                                    obtain ⟨c_236, h⟩ := xch_ex h
                                                    obtain ⟨c_237, h⟩ := xch_ex h
                                                    obtain ⟨c_238, h⟩ := xch_ex h
                                                    refine s_W_law [(33, .tableswitch 1373 0 30 #[139, 152, 195, 268, 302, 365, 428, 451, 474, 497, 530, 553, 616, 649, 692, 745, 798, 821, 854, 907, 950, 983, 1006, 1059, 1082, 1145, 1158, 1211, 1234, 1287, 1340], 23, 1039), (1039, .aload_n 1, 0, 0), (1040, .aload_n 0, 0, 0), (1041, .iload_n 3, 0, 0), (1042, .iconst 1, 0, 1), (1043, .iadd, 0, 0), (1044, .iaload, 97, 0), (1045, .aload_n 0, 0, 0), (1046, .iload_n 3, 0, 0), (1047, .iconst 2, 0, 2), (1048, .iadd, 0, 0), (1049, .iaload, 97, 0), (1050, .aload_n 0, 0, 0), (1051, .iload_n 3, 0, 0), (1052, .iconst 3, 0, 3), (1053, .iadd, 0, 0), (1054, .iaload, 97, 0), (1055, .aload_n 0, 0, 0), (1056, .iload_n 3, 0, 0), (1057, .iconst 4, 0, 4), (1058, .iadd, 0, 0), (1059, .iaload, 97, 0)] (by decide +kernel) (z' := (1060, [(0, (vR 97 0)), (1, (vR 9 1)), (2, (vR 10 104)), (3, (vI v3))], [(vI (sc.getD (Int.toNat (w32 (v3 + 4))) 0)), (vI (sc.getD (Int.toNat (w32 (v3 + 3))) 0)), (vI (sc.getD (Int.toNat (w32 (v3 + 2))) 0)), (vI (sc.getD (Int.toNat (w32 (v3 + 1))) 0)), (vR 9 1)], R, M, 174)) (cs := [xand (sc.getD (Int.toNat v3) 0) 31 = (0 : Int) + ((22 : Nat) : Int), (97 : Nat) = 97, xidx (w32 (v3 + 1)) sc.length, (97 : Nat) = 97, xidx (w32 (v3 + 2)) sc.length, (97 : Nat) = 97, xidx (w32 (v3 + 3)) sc.length, (97 : Nat) = 97, xidx (w32 (v3 + 4)) sc.length]) (by rfl) ⟨by rw [c_234]; rfl, rfl, c_235, rfl, c_236, rfl, c_237, rfl, c_238, trivial⟩ (Nat.le_refl _) ?_
                                                    obtain ⟨r_239, M_240, e_241, h⟩ := xb2_ex h
                                                    refine XR.callV 11 rfl (rest := []) m_X_torn k_11_116 9 1 (Or.inl ⟨by decide, rfl⟩) [(vI (sc.getD (Int.toNat (w32 (v3 + 1))) 0)), (vI (sc.getD (Int.toNat (w32 (v3 + 2))) 0)), (vI (sc.getD (Int.toNat (w32 (v3 + 3))) 0)), (vI (sc.getD (Int.toNat (w32 (v3 + 4))) 0))] rfl rfl (c_X_torn e_241) (by decide) (Nat.le_of_ble_eq_true rfl) (dl (by decide +kernel)) (Nat.le_refl _) (Nat.le_refl _) ?_
                                                    show XR false 54 174 sc (yW nm) (1063, [(0, (vR 97 0)), (1, (vR 9 1)), (2, (vR 10 104)), (3, (vI v3))], [(vI r_239)], R, M_240, 174) _
                                                    refine s_W_law [(1063, .aload_n 2, 0, 0), (1064, .aload_n 0, 0, 0), (1065, .iload_n 3, 0, 0), (1066, .iconst 1, 0, 1), (1067, .iadd, 0, 0), (1068, .iaload, 97, 0), (1069, .aload_n 0, 0, 0), (1070, .iload_n 3, 0, 0), (1071, .iconst 2, 0, 2), (1072, .iadd, 0, 0), (1073, .iaload, 97, 0), (1074, .aload_n 0, 0, 0), (1075, .iload_n 3, 0, 0), (1076, .iconst 3, 0, 3), (1077, .iadd, 0, 0), (1078, .iaload, 97, 0), (1079, .aload_n 0, 0, 0), (1080, .iload_n 3, 0, 0), (1081, .iconst 4, 0, 4), (1082, .iadd, 0, 0), (1083, .iaload, 97, 0)] (by decide +kernel) (z' := (1084, [(0, (vR 97 0)), (1, (vR 9 1)), (2, (vR 10 104)), (3, (vI v3))], [(vI (sc.getD (Int.toNat (w32 (v3 + 4))) 0)), (vI (sc.getD (Int.toNat (w32 (v3 + 3))) 0)), (vI (sc.getD (Int.toNat (w32 (v3 + 2))) 0)), (vI (sc.getD (Int.toNat (w32 (v3 + 1))) 0)), (vR 10 104), (vI r_239)], R, M_240, 174)) (cs := [(97 : Nat) = 97, xidx (w32 (v3 + 1)) sc.length, (97 : Nat) = 97, xidx (w32 (v3 + 2)) sc.length, (97 : Nat) = 97, xidx (w32 (v3 + 3)) sc.length, (97 : Nat) = 97, xidx (w32 (v3 + 4)) sc.length]) (by rfl) ⟨rfl, c_235, rfl, c_236, rfl, c_237, rfl, c_238, trivial⟩ (Nat.le_refl _) ?_
                                                    obtain ⟨r_242, M_243, e_244, h⟩ := xb2_ex h
                                                    refine XR.callV 11 rfl (rest := [(vI r_239)]) m_M_torn k_11_119 10 104 (Or.inl ⟨by decide, rfl⟩) [(vI (sc.getD (Int.toNat (w32 (v3 + 1))) 0)), (vI (sc.getD (Int.toNat (w32 (v3 + 2))) 0)), (vI (sc.getD (Int.toNat (w32 (v3 + 3))) 0)), (vI (sc.getD (Int.toNat (w32 (v3 + 4))) 0))] rfl rfl (c_M_torn e_244) (by decide) (Nat.le_of_ble_eq_true rfl) (dl (by decide +kernel)) (Nat.le_refl _) (Nat.le_refl _) ?_
                                                    show XR false 54 174 sc (yW nm) (1087, [(0, (vR 97 0)), (1, (vR 9 1)), (2, (vR 10 104)), (3, (vI v3))], [(vI r_242), (vI r_239)], R, M_243, 174) _
                                                    rcases xif_ex h with ⟨c_245, h⟩ | ⟨c_245, h⟩
                                                    · skip
                                                      refine s_W_law [(1087, .if_icmp .eq 319, 0, 1406)] (by decide +kernel) (z' := (1406, [(0, (vR 97 0)), (1, (vR 9 1)), (2, (vR 10 104)), (3, (vI v3))], [], R, M_243, 174)) (cs := [r_239 = r_242]) (by rfl) ⟨c_245, trivial⟩ (Nat.le_refl _) ?_
                                                      exact o_W_law_J1406 ih h
                                                    · skip
                                                      refine s_W_law [(1087, .if_icmp .eq 319, 0, (-1)), (1090, .iconst 0, 0, 0)] (by decide +kernel) (z' := (1091, [(0, (vR 97 0)), (1, (vR 9 1)), (2, (vR 10 104)), (3, (vI v3))], [(vI 0)], R, M_243, 174)) (cs := [¬ (r_239 = r_242)]) (by rfl) ⟨c_245, trivial⟩ (Nat.le_refl _) ?_
                                                      obtain rfl := Option.some.inj h
                                                      exact XR.retI .boolean rfl (xnar_z (by decide)) (dl (by decide +kernel))
                                                  · skip
                                                    rcases xif_ex h with ⟨c_246, h⟩ | ⟨c_246, h⟩
                                                    · skip
                                                      obtain ⟨c_247, h⟩ := xch_ex h
                                                      refine s_W_law [(33, .tableswitch 1373 0 30 #[139, 152, 195, 268, 302, 365, 428, 451, 474, 497, 530, 553, 616, 649, 692, 745, 798, 821, 854, 907, 950, 983, 1006, 1059, 1082, 1145, 1158, 1211, 1234, 1287, 1340], 24, 1092), (1092, .aload_n 1, 0, 0), (1093, .aload_n 0, 0, 0), (1094, .iload_n 3, 0, 0), (1095, .iconst 1, 0, 1), (1096, .iadd, 0, 0), (1097, .iaload, 97, 0)] (by decide +kernel) (z' := (1098, [(0, (vR 97 0)), (1, (vR 9 1)), (2, (vR 10 104)), (3, (vI v3))], [(vI (sc.getD (Int.toNat (w32 (v3 + 1))) 0)), (vR 9 1)], R, M, 174)) (cs := [xand (sc.getD (Int.toNat v3) 0) 31 = (0 : Int) + ((23 : Nat) : Int), (97 : Nat) = 97, xidx (w32 (v3 + 1)) sc.length]) (by rfl) ⟨by rw [c_246]; rfl, rfl, c_247, trivial⟩ (Nat.le_refl _) ?_
                                                      obtain ⟨r_248, M_249, e_250, h⟩ := xb2_ex h
                                                      refine XR.callV 11 rfl (rest := []) m_X_tornTold k_11_120 9 1 (Or.inl ⟨by decide, rfl⟩) [(vI (sc.getD (Int.toNat (w32 (v3 + 1))) 0))] rfl rfl (c_X_tornTold e_250) (by decide) (Nat.le_of_ble_eq_true rfl) (dl (by decide +kernel)) (Nat.le_refl _) (Nat.le_refl _) ?_
                                                      show XR false 54 174 sc (yW nm) (1101, [(0, (vR 97 0)), (1, (vR 9 1)), (2, (vR 10 104)), (3, (vI v3))], [(vI r_248)], R, M_249, 174) _
                                                      refine s_W_law [(1101, .aload_n 2, 0, 0), (1102, .aload_n 0, 0, 0), (1103, .iload_n 3, 0, 0), (1104, .iconst 1, 0, 1), (1105, .iadd, 0, 0), (1106, .iaload, 97, 0)] (by decide +kernel) (z' := (1107, [(0, (vR 97 0)), (1, (vR 9 1)), (2, (vR 10 104)), (3, (vI v3))], [(vI (sc.getD (Int.toNat (w32 (v3 + 1))) 0)), (vR 10 104), (vI r_248)], R, M_249, 174)) (cs := [(97 : Nat) = 97, xidx (w32 (v3 + 1)) sc.length]) (by rfl) ⟨rfl, c_247, trivial⟩ (Nat.le_refl _) ?_
                                                      obtain ⟨r_251, M_252, e_253, h⟩ := xb2_ex h
                                                      refine XR.callV 11 rfl (rest := [(vI r_248)]) m_M_tornTold k_11_123 10 104 (Or.inl ⟨by decide, rfl⟩) [(vI (sc.getD (Int.toNat (w32 (v3 + 1))) 0))] rfl rfl (c_M_tornTold e_253) (by decide) (Nat.le_of_ble_eq_true rfl) (dl (by decide +kernel)) (Nat.le_refl _) (Nat.le_refl _) ?_
                                                      show XR false 54 174 sc (yW nm) (1110, [(0, (vR 97 0)), (1, (vR 9 1)), (2, (vR 10 104)), (3, (vI v3))], [(vI r_251), (vI r_248)], R, M_252, 174) _
                                                      rcases xif_ex h with ⟨c_254, h⟩ | ⟨c_254, h⟩
                                                      · skip
                                                        refine s_W_law [(1110, .if_icmp .eq 296, 0, 1406)] (by decide +kernel) (z' := (1406, [(0, (vR 97 0)), (1, (vR 9 1)), (2, (vR 10 104)), (3, (vI v3))], [], R, M_252, 174)) (cs := [r_248 = r_251]) (by rfl) ⟨c_254, trivial⟩ (Nat.le_refl _) ?_
                                                        exact o_W_law_J1406 ih h
                                                      · skip
                                                        refine s_W_law [(1110, .if_icmp .eq 296, 0, (-1)), (1113, .iconst 0, 0, 0)] (by decide +kernel) (z' := (1114, [(0, (vR 97 0)), (1, (vR 9 1)), (2, (vR 10 104)), (3, (vI v3))], [(vI 0)], R, M_252, 174)) (cs := [¬ (r_248 = r_251)]) (by rfl) ⟨c_254, trivial⟩ (Nat.le_refl _) ?_
                                                        obtain rfl := Option.some.inj h
                                                        exact XR.retI .boolean rfl (xnar_z (by decide)) (dl (by decide +kernel))
                                                    · skip
                                                      rcases xif_ex h with ⟨c_255, h⟩ | ⟨c_255, h⟩
                                                      · skip
                                                        obtain ⟨c_256, h⟩ := xch_ex h
                                                        obtain ⟨c_257, h⟩ := xch_ex h
                                                        obtain ⟨c_258, h⟩ := xch_ex h
                                                        obtain ⟨c_259, h⟩ := xch_ex h
                                                        obtain ⟨c_260, h⟩ := xch_ex h
                                                        refine s_W_law [(33, .tableswitch 1373 0 30 #[139, 152, 195, 268, 302, 365, 428, 451, 474, 497, 530, 553, 616, 649, 692, 745, 798, 821, 854, 907, 950, 983, 1006, 1059, 1082, 1145, 1158, 1211, 1234, 1287, 1340], 25, 1115), (1115, .aload_n 1, 0, 0), (1116, .aload_n 0, 0, 0), (1117, .iload_n 3, 0, 0), (1118, .iconst 1, 0, 1), (1119, .iadd, 0, 0), (1120, .iaload, 97, 0), (1121, .aload_n 0, 0, 0), (1122, .iload_n 3, 0, 0), (1123, .iconst 2, 0, 2), (1124, .iadd, 0, 0), (1125, .iaload, 97, 0), (1126, .aload_n 0, 0, 0), (1127, .iload_n 3, 0, 0), (1128, .iconst 3, 0, 3), (1129, .iadd, 0, 0), (1130, .iaload, 97, 0), (1131, .aload_n 0, 0, 0), (1132, .iload_n 3, 0, 0), (1133, .iconst 4, 0, 4), (1134, .iadd, 0, 0), (1135, .iaload, 97, 0), (1136, .aload_n 0, 0, 0), (1137, .iload_n 3, 0, 0), (1138, .iconst 5, 0, 5), (1139, .iadd, 0, 0), (1140, .iaload, 97, 0)] (by decide +kernel) (z' := (1141, [(0, (vR 97 0)), (1, (vR 9 1)), (2, (vR 10 104)), (3, (vI v3))], [(vI (sc.getD (Int.toNat (w32 (v3 + 5))) 0)), (vI (sc.getD (Int.toNat (w32 (v3 + 4))) 0)), (vI (sc.getD (Int.toNat (w32 (v3 + 3))) 0)), (vI (sc.getD (Int.toNat (w32 (v3 + 2))) 0)), (vI (sc.getD (Int.toNat (w32 (v3 + 1))) 0)), (vR 9 1)], R, M, 174)) (cs := [xand (sc.getD (Int.toNat v3) 0) 31 = (0 : Int) + ((24 : Nat) : Int), (97 : Nat) = 97, xidx (w32 (v3 + 1)) sc.length, (97 : Nat) = 97, xidx (w32 (v3 + 2)) sc.length, (97 : Nat) = 97, xidx (w32 (v3 + 3)) sc.length, (97 : Nat) = 97, xidx (w32 (v3 + 4)) sc.length, (97 : Nat) = 97, xidx (w32 (v3 + 5)) sc.length]) (by rfl) ⟨by rw [c_255]; rfl, rfl, c_256, rfl, c_257, rfl, c_258, rfl, c_259, rfl, c_260, trivial⟩ (Nat.le_refl _) ?_
                                                        obtain ⟨r_261, M_262, e_263, h⟩ := xb2_ex h
                                                        refine XR.callV 11 rfl (rest := []) m_X_knocks k_11_124 9 1 (Or.inl ⟨by decide, rfl⟩) [(vI (sc.getD (Int.toNat (w32 (v3 + 1))) 0)), (vI (sc.getD (Int.toNat (w32 (v3 + 2))) 0)), (vI (sc.getD (Int.toNat (w32 (v3 + 3))) 0)), (vI (sc.getD (Int.toNat (w32 (v3 + 4))) 0)), (vI (sc.getD (Int.toNat (w32 (v3 + 5))) 0))] rfl rfl (c_X_knocks e_263) (by decide) (Nat.le_of_ble_eq_true rfl) (dl (by decide +kernel)) (Nat.le_refl _) (Nat.le_refl _) ?_
                                                        show XR false 54 174 sc (yW nm) (1144, [(0, (vR 97 0)), (1, (vR 9 1)), (2, (vR 10 104)), (3, (vI v3))], [(vI r_261)], R, M_262, 174) _
                                                        refine s_W_law [(1144, .aload_n 2, 0, 0), (1145, .aload_n 0, 0, 0), (1146, .iload_n 3, 0, 0), (1147, .iconst 1, 0, 1), (1148, .iadd, 0, 0), (1149, .iaload, 97, 0), (1150, .aload_n 0, 0, 0), (1151, .iload_n 3, 0, 0), (1152, .iconst 2, 0, 2), (1153, .iadd, 0, 0), (1154, .iaload, 97, 0), (1155, .aload_n 0, 0, 0), (1156, .iload_n 3, 0, 0), (1157, .iconst 3, 0, 3), (1158, .iadd, 0, 0), (1159, .iaload, 97, 0), (1160, .aload_n 0, 0, 0), (1161, .iload_n 3, 0, 0), (1162, .iconst 4, 0, 4), (1163, .iadd, 0, 0), (1164, .iaload, 97, 0), (1165, .aload_n 0, 0, 0), (1166, .iload_n 3, 0, 0), (1167, .iconst 5, 0, 5), (1168, .iadd, 0, 0), (1169, .iaload, 97, 0)] (by decide +kernel) (z' := (1170, [(0, (vR 97 0)), (1, (vR 9 1)), (2, (vR 10 104)), (3, (vI v3))], [(vI (sc.getD (Int.toNat (w32 (v3 + 5))) 0)), (vI (sc.getD (Int.toNat (w32 (v3 + 4))) 0)), (vI (sc.getD (Int.toNat (w32 (v3 + 3))) 0)), (vI (sc.getD (Int.toNat (w32 (v3 + 2))) 0)), (vI (sc.getD (Int.toNat (w32 (v3 + 1))) 0)), (vR 10 104), (vI r_261)], R, M_262, 174)) (cs := [(97 : Nat) = 97, xidx (w32 (v3 + 1)) sc.length, (97 : Nat) = 97, xidx (w32 (v3 + 2)) sc.length, (97 : Nat) = 97, xidx (w32 (v3 + 3)) sc.length, (97 : Nat) = 97, xidx (w32 (v3 + 4)) sc.length, (97 : Nat) = 97, xidx (w32 (v3 + 5)) sc.length]) (by rfl) ⟨rfl, c_256, rfl, c_257, rfl, c_258, rfl, c_259, rfl, c_260, trivial⟩ (Nat.le_refl _) ?_
                                                        obtain ⟨r_264, M_265, e_266, h⟩ := xb2_ex h
                                                        refine XR.callV 11 rfl (rest := [(vI r_261)]) m_M_knocks k_11_127 10 104 (Or.inl ⟨by decide, rfl⟩) [(vI (sc.getD (Int.toNat (w32 (v3 + 1))) 0)), (vI (sc.getD (Int.toNat (w32 (v3 + 2))) 0)), (vI (sc.getD (Int.toNat (w32 (v3 + 3))) 0)), (vI (sc.getD (Int.toNat (w32 (v3 + 4))) 0)), (vI (sc.getD (Int.toNat (w32 (v3 + 5))) 0))] rfl rfl (c_M_knocks e_266) (by decide) (Nat.le_of_ble_eq_true rfl) (dl (by decide +kernel)) (Nat.le_refl _) (Nat.le_refl _) ?_
                                                        show XR false 54 174 sc (yW nm) (1173, [(0, (vR 97 0)), (1, (vR 9 1)), (2, (vR 10 104)), (3, (vI v3))], [(vI r_264), (vI r_261)], R, M_265, 174) _
                                                        rcases xif_ex h with ⟨c_267, h⟩ | ⟨c_267, h⟩
                                                        · skip
                                                          refine s_W_law [(1173, .if_icmp .eq 233, 0, 1406)] (by decide +kernel) (z' := (1406, [(0, (vR 97 0)), (1, (vR 9 1)), (2, (vR 10 104)), (3, (vI v3))], [], R, M_265, 174)) (cs := [r_261 = r_264]) (by rfl) ⟨c_267, trivial⟩ (Nat.le_refl _) ?_
                                                          exact o_W_law_J1406 ih h
                                                        · skip
                                                          refine s_W_law [(1173, .if_icmp .eq 233, 0, (-1)), (1176, .iconst 0, 0, 0)] (by decide +kernel) (z' := (1177, [(0, (vR 97 0)), (1, (vR 9 1)), (2, (vR 10 104)), (3, (vI v3))], [(vI 0)], R, M_265, 174)) (cs := [¬ (r_261 = r_264)]) (by rfl) ⟨c_267, trivial⟩ (Nat.le_refl _) ?_
                                                          obtain rfl := Option.some.inj h
                                                          exact XR.retI .boolean rfl (xnar_z (by decide)) (dl (by decide +kernel))
                                                      · skip
                                                        rcases xif_ex h with ⟨c_268, h⟩ | ⟨c_268, h⟩
                                                        · skip
                                                          refine s_W_law [(33, .tableswitch 1373 0 30 #[139, 152, 195, 268, 302, 365, 428, 451, 474, 497, 530, 553, 616, 649, 692, 745, 798, 821, 854, 907, 950, 983, 1006, 1059, 1082, 1145, 1158, 1211, 1234, 1287, 1340], 26, 1178), (1178, .aload_n 1, 0, 0)] (by decide +kernel) (z' := (1179, [(0, (vR 97 0)), (1, (vR 9 1)), (2, (vR 10 104)), (3, (vI v3))], [(vR 9 1)], R, M, 174)) (cs := [xand (sc.getD (Int.toNat v3) 0) 31 = (0 : Int) + ((25 : Nat) : Int)]) (by rfl) ⟨by rw [c_268]; rfl, trivial⟩ (Nat.le_refl _) ?_
                                                          obtain ⟨r_269, M_270, e_271, h⟩ := xb2_ex h
                                                          refine XR.callV 11 rfl (rest := []) m_X_knockSet k_11_128 9 1 (Or.inl ⟨by decide, rfl⟩) [] rfl rfl (c_X_knockSet e_271) (by decide) (Nat.le_of_ble_eq_true rfl) (dl (by decide +kernel)) (Nat.le_refl _) (Nat.le_refl _) ?_
                                                          show XR false 54 174 sc (yW nm) (1182, [(0, (vR 97 0)), (1, (vR 9 1)), (2, (vR 10 104)), (3, (vI v3))], [(vI r_269)], R, M_270, 174) _
                                                          refine s_W_law [(1182, .aload_n 2, 0, 0)] (by decide +kernel) (z' := (1183, [(0, (vR 97 0)), (1, (vR 9 1)), (2, (vR 10 104)), (3, (vI v3))], [(vR 10 104), (vI r_269)], R, M_270, 174)) (cs := []) (by rfl) trivial (Nat.le_refl _) ?_
                                                          obtain ⟨r_272, M_273, e_274, h⟩ := xb2_ex h
                                                          refine XR.callV 11 rfl (rest := [(vI r_269)]) m_M_knockSet k_11_131 10 104 (Or.inl ⟨by decide, rfl⟩) [] rfl rfl (c_M_knockSet e_274) (by decide) (Nat.le_of_ble_eq_true rfl) (dl (by decide +kernel)) (Nat.le_refl _) (Nat.le_refl _) ?_
                                                          show XR false 54 174 sc (yW nm) (1186, [(0, (vR 97 0)), (1, (vR 9 1)), (2, (vR 10 104)), (3, (vI v3))], [(vI r_272), (vI r_269)], R, M_273, 174) _
                                                          rcases xif_ex h with ⟨c_275, h⟩ | ⟨c_275, h⟩
                                                          · skip
                                                            refine s_W_law [(1186, .if_icmp .eq 220, 0, 1406)] (by decide +kernel) (z' := (1406, [(0, (vR 97 0)), (1, (vR 9 1)), (2, (vR 10 104)), (3, (vI v3))], [], R, M_273, 174)) (cs := [r_269 = r_272]) (by rfl) ⟨c_275, trivial⟩ (Nat.le_refl _) ?_
                                                            exact o_W_law_J1406 ih h
                                                          · skip
                                                            refine s_W_law [(1186, .if_icmp .eq 220, 0, (-1)), (1189, .iconst 0, 0, 0)] (by decide +kernel) (z' := (1190, [(0, (vR 97 0)), (1, (vR 9 1)), (2, (vR 10 104)), (3, (vI v3))], [(vI 0)], R, M_273, 174)) (cs := [¬ (r_269 = r_272)]) (by rfl) ⟨c_275, trivial⟩ (Nat.le_refl _) ?_
                                                            obtain rfl := Option.some.inj h
                                                            exact XR.retI .boolean rfl (xnar_z (by decide)) (dl (by decide +kernel))
                                                        · skip
                                                          rcases xif_ex h with ⟨c_276, h⟩ | ⟨c_276, h⟩
                                                          · skip
                                                            obtain ⟨c_277, h⟩ := xch_ex h
                                                            obtain ⟨c_278, h⟩ := xch_ex h
                                                            obtain ⟨c_279, h⟩ := xch_ex h
                                                            obtain ⟨c_280, h⟩ := xch_ex h
                                                            refine s_W_law [(33, .tableswitch 1373 0 30 #[139, 152, 195, 268, 302, 365, 428, 451, 474, 497, 530, 553, 616, 649, 692, 745, 798, 821, 854, 907, 950, 983, 1006, 1059, 1082, 1145, 1158, 1211, 1234, 1287, 1340], 27, 1191), (1191, .aload_n 1, 0, 0), (1192, .aload_n 0, 0, 0), (1193, .iload_n 3, 0, 0), (1194, .iconst 1, 0, 1), (1195, .iadd, 0, 0), (1196, .iaload, 97, 0), (1197, .aload_n 0, 0, 0), (1198, .iload_n 3, 0, 0), (1199, .iconst 2, 0, 2), (1200, .iadd, 0, 0), (1201, .iaload, 97, 0), (1202, .aload_n 0, 0, 0), (1203, .iload_n 3, 0, 0), (1204, .iconst 3, 0, 3), (1205, .iadd, 0, 0), (1206, .iaload, 97, 0), (1207, .aload_n 0, 0, 0), (1208, .iload_n 3, 0, 0), (1209, .iconst 4, 0, 4), (1210, .iadd, 0, 0), (1211, .iaload, 97, 0)] (by decide +kernel) (z' := (1212, [(0, (vR 97 0)), (1, (vR 9 1)), (2, (vR 10 104)), (3, (vI v3))], [(vI (sc.getD (Int.toNat (w32 (v3 + 4))) 0)), (vI (sc.getD (Int.toNat (w32 (v3 + 3))) 0)), (vI (sc.getD (Int.toNat (w32 (v3 + 2))) 0)), (vI (sc.getD (Int.toNat (w32 (v3 + 1))) 0)), (vR 9 1)], R, M, 174)) (cs := [xand (sc.getD (Int.toNat v3) 0) 31 = (0 : Int) + ((26 : Nat) : Int), (97 : Nat) = 97, xidx (w32 (v3 + 1)) sc.length, (97 : Nat) = 97, xidx (w32 (v3 + 2)) sc.length, (97 : Nat) = 97, xidx (w32 (v3 + 3)) sc.length, (97 : Nat) = 97, xidx (w32 (v3 + 4)) sc.length]) (by rfl) ⟨by rw [c_276]; rfl, rfl, c_277, rfl, c_278, rfl, c_279, rfl, c_280, trivial⟩ (Nat.le_refl _) ?_
                                                            obtain ⟨r_281, M_282, e_283, h⟩ := xb2_ex h
                                                            refine XR.callV 11 rfl (rest := []) m_X_rowOf k_11_132 9 1 (Or.inl ⟨by decide, rfl⟩) [(vI (sc.getD (Int.toNat (w32 (v3 + 1))) 0)), (vI (sc.getD (Int.toNat (w32 (v3 + 2))) 0)), (vI (sc.getD (Int.toNat (w32 (v3 + 3))) 0)), (vI (sc.getD (Int.toNat (w32 (v3 + 4))) 0))] rfl rfl (c_X_rowOf e_283) (by decide) (Nat.le_of_ble_eq_true rfl) (dl (by decide +kernel)) (Nat.le_refl _) (Nat.le_refl _) ?_
                                                            show XR false 54 174 sc (yW nm) (1215, [(0, (vR 97 0)), (1, (vR 9 1)), (2, (vR 10 104)), (3, (vI v3))], [(vI r_281)], R, M_282, 174) _
                                                            refine s_W_law [(1215, .aload_n 2, 0, 0), (1216, .aload_n 0, 0, 0), (1217, .iload_n 3, 0, 0), (1218, .iconst 1, 0, 1), (1219, .iadd, 0, 0), (1220, .iaload, 97, 0), (1221, .aload_n 0, 0, 0), (1222, .iload_n 3, 0, 0), (1223, .iconst 2, 0, 2), (1224, .iadd, 0, 0), (1225, .iaload, 97, 0), (1226, .aload_n 0, 0, 0), (1227, .iload_n 3, 0, 0), (1228, .iconst 3, 0, 3), (1229, .iadd, 0, 0), (1230, .iaload, 97, 0), (1231, .aload_n 0, 0, 0), (1232, .iload_n 3, 0, 0), (1233, .iconst 4, 0, 4), (1234, .iadd, 0, 0), (1235, .iaload, 97, 0)] (by decide +kernel) (z' := (1236, [(0, (vR 97 0)), (1, (vR 9 1)), (2, (vR 10 104)), (3, (vI v3))], [(vI (sc.getD (Int.toNat (w32 (v3 + 4))) 0)), (vI (sc.getD (Int.toNat (w32 (v3 + 3))) 0)), (vI (sc.getD (Int.toNat (w32 (v3 + 2))) 0)), (vI (sc.getD (Int.toNat (w32 (v3 + 1))) 0)), (vR 10 104), (vI r_281)], R, M_282, 174)) (cs := [(97 : Nat) = 97, xidx (w32 (v3 + 1)) sc.length, (97 : Nat) = 97, xidx (w32 (v3 + 2)) sc.length, (97 : Nat) = 97, xidx (w32 (v3 + 3)) sc.length, (97 : Nat) = 97, xidx (w32 (v3 + 4)) sc.length]) (by rfl) ⟨rfl, c_277, rfl, c_278, rfl, c_279, rfl, c_280, trivial⟩ (Nat.le_refl _) ?_
                                                            obtain ⟨r_284, M_285, e_286, h⟩ := xb2_ex h
                                                            refine XR.callV 11 rfl (rest := [(vI r_281)]) m_M_rowOf k_11_135 10 104 (Or.inl ⟨by decide, rfl⟩) [(vI (sc.getD (Int.toNat (w32 (v3 + 1))) 0)), (vI (sc.getD (Int.toNat (w32 (v3 + 2))) 0)), (vI (sc.getD (Int.toNat (w32 (v3 + 3))) 0)), (vI (sc.getD (Int.toNat (w32 (v3 + 4))) 0))] rfl rfl (c_M_rowOf e_286) (by decide) (Nat.le_of_ble_eq_true rfl) (dl (by decide +kernel)) (Nat.le_refl _) (Nat.le_refl _) ?_
                                                            show XR false 54 174 sc (yW nm) (1239, [(0, (vR 97 0)), (1, (vR 9 1)), (2, (vR 10 104)), (3, (vI v3))], [(vI r_284), (vI r_281)], R, M_285, 174) _
                                                            rcases xif_ex h with ⟨c_287, h⟩ | ⟨c_287, h⟩
                                                            · skip
                                                              refine s_W_law [(1239, .if_icmp .eq 167, 0, 1406)] (by decide +kernel) (z' := (1406, [(0, (vR 97 0)), (1, (vR 9 1)), (2, (vR 10 104)), (3, (vI v3))], [], R, M_285, 174)) (cs := [r_281 = r_284]) (by rfl) ⟨c_287, trivial⟩ (Nat.le_refl _) ?_
                                                              exact o_W_law_J1406 ih h
                                                            · skip
                                                              refine s_W_law [(1239, .if_icmp .eq 167, 0, (-1)), (1242, .iconst 0, 0, 0)] (by decide +kernel) (z' := (1243, [(0, (vR 97 0)), (1, (vR 9 1)), (2, (vR 10 104)), (3, (vI v3))], [(vI 0)], R, M_285, 174)) (cs := [¬ (r_281 = r_284)]) (by rfl) ⟨c_287, trivial⟩ (Nat.le_refl _) ?_
                                                              obtain rfl := Option.some.inj h
                                                              exact XR.retI .boolean rfl (xnar_z (by decide)) (dl (by decide +kernel))
                                                          · skip
                                                            rcases xif_ex h with ⟨c_288, h⟩ | ⟨c_288, h⟩
                                                            · skip
                                                              obtain ⟨c_289, h⟩ := xch_ex h
                                                              refine s_W_law [(33, .tableswitch 1373 0 30 #[139, 152, 195, 268, 302, 365, 428, 451, 474, 497, 530, 553, 616, 649, 692, 745, 798, 821, 854, 907, 950, 983, 1006, 1059, 1082, 1145, 1158, 1211, 1234, 1287, 1340], 28, 1244), (1244, .aload_n 1, 0, 0), (1245, .aload_n 0, 0, 0), (1246, .iload_n 3, 0, 0), (1247, .iconst 1, 0, 1), (1248, .iadd, 0, 0), (1249, .iaload, 97, 0)] (by decide +kernel) (z' := (1250, [(0, (vR 97 0)), (1, (vR 9 1)), (2, (vR 10 104)), (3, (vI v3))], [(vI (sc.getD (Int.toNat (w32 (v3 + 1))) 0)), (vR 9 1)], R, M, 174)) (cs := [xand (sc.getD (Int.toNat v3) 0) 31 = (0 : Int) + ((27 : Nat) : Int), (97 : Nat) = 97, xidx (w32 (v3 + 1)) sc.length]) (by rfl) ⟨by rw [c_288]; rfl, rfl, c_289, trivial⟩ (Nat.le_refl _) ?_
                                                              obtain ⟨r_290, M_291, e_292, h⟩ := xb2_ex h
                                                              refine XR.callV 11 rfl (rest := []) m_X_rowAt k_11_136 9 1 (Or.inl ⟨by decide, rfl⟩) [(vI (sc.getD (Int.toNat (w32 (v3 + 1))) 0))] rfl rfl (c_X_rowAt e_292) (by decide) (Nat.le_of_ble_eq_true rfl) (dl (by decide +kernel)) (Nat.le_refl _) (Nat.le_refl _) ?_
                                                              show XR false 54 174 sc (yW nm) (1253, [(0, (vR 97 0)), (1, (vR 9 1)), (2, (vR 10 104)), (3, (vI v3))], [(vI r_290)], R, M_291, 174) _
                                                              refine s_W_law [(1253, .aload_n 2, 0, 0), (1254, .aload_n 0, 0, 0), (1255, .iload_n 3, 0, 0), (1256, .iconst 1, 0, 1), (1257, .iadd, 0, 0), (1258, .iaload, 97, 0)] (by decide +kernel) (z' := (1259, [(0, (vR 97 0)), (1, (vR 9 1)), (2, (vR 10 104)), (3, (vI v3))], [(vI (sc.getD (Int.toNat (w32 (v3 + 1))) 0)), (vR 10 104), (vI r_290)], R, M_291, 174)) (cs := [(97 : Nat) = 97, xidx (w32 (v3 + 1)) sc.length]) (by rfl) ⟨rfl, c_289, trivial⟩ (Nat.le_refl _) ?_
                                                              obtain ⟨r_293, M_294, e_295, h⟩ := xb2_ex h
                                                              refine XR.callV 11 rfl (rest := [(vI r_290)]) m_M_rowAt k_11_139 10 104 (Or.inl ⟨by decide, rfl⟩) [(vI (sc.getD (Int.toNat (w32 (v3 + 1))) 0))] rfl rfl (c_M_rowAt e_295) (by decide) (Nat.le_of_ble_eq_true rfl) (dl (by decide +kernel)) (Nat.le_refl _) (Nat.le_refl _) ?_
                                                              show XR false 54 174 sc (yW nm) (1262, [(0, (vR 97 0)), (1, (vR 9 1)), (2, (vR 10 104)), (3, (vI v3))], [(vI r_293), (vI r_290)], R, M_294, 174) _
                                                              rcases xif_ex h with ⟨c_296, h⟩ | ⟨c_296, h⟩
                                                              · skip
                                                                refine s_W_law [(1262, .if_icmp .eq 144, 0, 1406)] (by decide +kernel) (z' := (1406, [(0, (vR 97 0)), (1, (vR 9 1)), (2, (vR 10 104)), (3, (vI v3))], [], R, M_294, 174)) (cs := [r_290 = r_293]) (by rfl) ⟨c_296, trivial⟩ (Nat.le_refl _) ?_
                                                                exact o_W_law_J1406 ih h
                                                              · skip
                                                                refine s_W_law [(1262, .if_icmp .eq 144, 0, (-1)), (1265, .iconst 0, 0, 0)] (by decide +kernel) (z' := (1266, [(0, (vR 97 0)), (1, (vR 9 1)), (2, (vR 10 104)), (3, (vI v3))], [(vI 0)], R, M_294, 174)) (cs := [¬ (r_290 = r_293)]) (by rfl) ⟨c_296, trivial⟩ (Nat.le_refl _) ?_
                                                                obtain rfl := Option.some.inj h
                                                                exact XR.retI .boolean rfl (xnar_z (by decide)) (dl (by decide +kernel))
                                                            · skip
                                                              rcases xif_ex h with ⟨c_297, h⟩ | ⟨c_297, h⟩
                                                              · skip
                                                                obtain ⟨c_298, h⟩ := xch_ex h
                                                                obtain ⟨c_299, h⟩ := xch_ex h
                                                                obtain ⟨c_300, h⟩ := xch_ex h
                                                                obtain ⟨c_301, h⟩ := xch_ex h
                                                                refine s_W_law [(33, .tableswitch 1373 0 30 #[139, 152, 195, 268, 302, 365, 428, 451, 474, 497, 530, 553, 616, 649, 692, 745, 798, 821, 854, 907, 950, 983, 1006, 1059, 1082, 1145, 1158, 1211, 1234, 1287, 1340], 29, 1267), (1267, .aload_n 1, 0, 0), (1268, .aload_n 0, 0, 0), (1269, .iload_n 3, 0, 0), (1270, .iconst 1, 0, 1), (1271, .iadd, 0, 0), (1272, .iaload, 97, 0), (1273, .aload_n 0, 0, 0), (1274, .iload_n 3, 0, 0), (1275, .iconst 2, 0, 2), (1276, .iadd, 0, 0), (1277, .iaload, 97, 0), (1278, .aload_n 0, 0, 0), (1279, .iload_n 3, 0, 0), (1280, .iconst 3, 0, 3), (1281, .iadd, 0, 0), (1282, .iaload, 97, 0), (1283, .aload_n 0, 0, 0), (1284, .iload_n 3, 0, 0), (1285, .iconst 4, 0, 4), (1286, .iadd, 0, 0), (1287, .iaload, 97, 0)] (by decide +kernel) (z' := (1288, [(0, (vR 97 0)), (1, (vR 9 1)), (2, (vR 10 104)), (3, (vI v3))], [(vI (sc.getD (Int.toNat (w32 (v3 + 4))) 0)), (vI (sc.getD (Int.toNat (w32 (v3 + 3))) 0)), (vI (sc.getD (Int.toNat (w32 (v3 + 2))) 0)), (vI (sc.getD (Int.toNat (w32 (v3 + 1))) 0)), (vR 9 1)], R, M, 174)) (cs := [xand (sc.getD (Int.toNat v3) 0) 31 = (0 : Int) + ((28 : Nat) : Int), (97 : Nat) = 97, xidx (w32 (v3 + 1)) sc.length, (97 : Nat) = 97, xidx (w32 (v3 + 2)) sc.length, (97 : Nat) = 97, xidx (w32 (v3 + 3)) sc.length, (97 : Nat) = 97, xidx (w32 (v3 + 4)) sc.length]) (by rfl) ⟨by rw [c_297]; rfl, rfl, c_298, rfl, c_299, rfl, c_300, rfl, c_301, trivial⟩ (Nat.le_refl _) ?_
                                                                obtain ⟨r_302, M_303, e_304, h⟩ := xb2_ex h
                                                                refine XR.callV 11 rfl (rest := []) m_X_air k_11_140 9 1 (Or.inl ⟨by decide, rfl⟩) [(vI (sc.getD (Int.toNat (w32 (v3 + 1))) 0)), (vI (sc.getD (Int.toNat (w32 (v3 + 2))) 0)), (vI (sc.getD (Int.toNat (w32 (v3 + 3))) 0)), (vI (sc.getD (Int.toNat (w32 (v3 + 4))) 0))] rfl rfl (c_X_air e_304) (by decide) (Nat.le_of_ble_eq_true rfl) (dl (by decide +kernel)) (Nat.le_refl _) (Nat.le_refl _) ?_
                                                                show XR false 54 174 sc (yW nm) (1291, [(0, (vR 97 0)), (1, (vR 9 1)), (2, (vR 10 104)), (3, (vI v3))], [(vI r_302)], R, M_303, 174) _
                                                                refine s_W_law [(1291, .aload_n 2, 0, 0), (1292, .aload_n 0, 0, 0), (1293, .iload_n 3, 0, 0), (1294, .iconst 1, 0, 1), (1295, .iadd, 0, 0), (1296, .iaload, 97, 0), (1297, .aload_n 0, 0, 0), (1298, .iload_n 3, 0, 0), (1299, .iconst 2, 0, 2), (1300, .iadd, 0, 0), (1301, .iaload, 97, 0), (1302, .aload_n 0, 0, 0), (1303, .iload_n 3, 0, 0), (1304, .iconst 3, 0, 3), (1305, .iadd, 0, 0), (1306, .iaload, 97, 0), (1307, .aload_n 0, 0, 0), (1308, .iload_n 3, 0, 0), (1309, .iconst 4, 0, 4), (1310, .iadd, 0, 0), (1311, .iaload, 97, 0)] (by decide +kernel) (z' := (1312, [(0, (vR 97 0)), (1, (vR 9 1)), (2, (vR 10 104)), (3, (vI v3))], [(vI (sc.getD (Int.toNat (w32 (v3 + 4))) 0)), (vI (sc.getD (Int.toNat (w32 (v3 + 3))) 0)), (vI (sc.getD (Int.toNat (w32 (v3 + 2))) 0)), (vI (sc.getD (Int.toNat (w32 (v3 + 1))) 0)), (vR 10 104), (vI r_302)], R, M_303, 174)) (cs := [(97 : Nat) = 97, xidx (w32 (v3 + 1)) sc.length, (97 : Nat) = 97, xidx (w32 (v3 + 2)) sc.length, (97 : Nat) = 97, xidx (w32 (v3 + 3)) sc.length, (97 : Nat) = 97, xidx (w32 (v3 + 4)) sc.length]) (by rfl) ⟨rfl, c_298, rfl, c_299, rfl, c_300, rfl, c_301, trivial⟩ (Nat.le_refl _) ?_
                                                                obtain ⟨r_305, M_306, e_307, h⟩ := xb2_ex h
                                                                refine XR.callV 11 rfl (rest := [(vI r_302)]) m_M_air k_11_143 10 104 (Or.inl ⟨by decide, rfl⟩) [(vI (sc.getD (Int.toNat (w32 (v3 + 1))) 0)), (vI (sc.getD (Int.toNat (w32 (v3 + 2))) 0)), (vI (sc.getD (Int.toNat (w32 (v3 + 3))) 0)), (vI (sc.getD (Int.toNat (w32 (v3 + 4))) 0))] rfl rfl (c_M_air e_307) (by decide) (Nat.le_of_ble_eq_true rfl) (dl (by decide +kernel)) (Nat.le_refl _) (Nat.le_refl _) ?_
                                                                show XR false 54 174 sc (yW nm) (1315, [(0, (vR 97 0)), (1, (vR 9 1)), (2, (vR 10 104)), (3, (vI v3))], [(vI r_305), (vI r_302)], R, M_306, 174) _
                                                                rcases xif_ex h with ⟨c_308, h⟩ | ⟨c_308, h⟩
                                                                · skip
                                                                  refine s_W_law [(1315, .if_icmp .eq 91, 0, 1406)] (by decide +kernel) (z' := (1406, [(0, (vR 97 0)), (1, (vR 9 1)), (2, (vR 10 104)), (3, (vI v3))], [], R, M_306, 174)) (cs := [r_302 = r_305]) (by rfl) ⟨c_308, trivial⟩ (Nat.le_refl _) ?_
                                                                  exact o_W_law_J1406 ih h
                                                                · skip
                                                                  refine s_W_law [(1315, .if_icmp .eq 91, 0, (-1)), (1318, .iconst 0, 0, 0)] (by decide +kernel) (z' := (1319, [(0, (vR 97 0)), (1, (vR 9 1)), (2, (vR 10 104)), (3, (vI v3))], [(vI 0)], R, M_306, 174)) (cs := [¬ (r_302 = r_305)]) (by rfl) ⟨c_308, trivial⟩ (Nat.le_refl _) ?_
                                                                  obtain rfl := Option.some.inj h
                                                                  exact XR.retI .boolean rfl (xnar_z (by decide)) (dl (by decide +kernel))
                                                              · skip
                                                                rcases xif_ex h with ⟨c_309, h⟩ | ⟨c_309, h⟩
                                                                · skip
                                                                  obtain ⟨c_310, h⟩ := xch_ex h
                                                                  obtain ⟨c_311, h⟩ := xch_ex h
                                                                  obtain ⟨c_312, h⟩ := xch_ex h
                                                                  obtain ⟨c_313, h⟩ := xch_ex h
                                                                  refine s_W_law [(33, .tableswitch 1373 0 30 #[139, 152, 195, 268, 302, 365, 428, 451, 474, 497, 530, 553, 616, 649, 692, 745, 798, 821, 854, 907, 950, 983, 1006, 1059, 1082, 1145, 1158, 1211, 1234, 1287, 1340], 30, 1320), (1320, .aload_n 1, 0, 0), (1321, .aload_n 0, 0, 0), (1322, .iload_n 3, 0, 0), (1323, .iconst 1, 0, 1), (1324, .iadd, 0, 0), (1325, .iaload, 97, 0), (1326, .aload_n 0, 0, 0), (1327, .iload_n 3, 0, 0), (1328, .iconst 2, 0, 2), (1329, .iadd, 0, 0), (1330, .iaload, 97, 0), (1331, .aload_n 0, 0, 0), (1332, .iload_n 3, 0, 0), (1333, .iconst 3, 0, 3), (1334, .iadd, 0, 0), (1335, .iaload, 97, 0), (1336, .aload_n 0, 0, 0), (1337, .iload_n 3, 0, 0), (1338, .iconst 4, 0, 4), (1339, .iadd, 0, 0), (1340, .iaload, 97, 0)] (by decide +kernel) (z' := (1341, [(0, (vR 97 0)), (1, (vR 9 1)), (2, (vR 10 104)), (3, (vI v3))], [(vI (sc.getD (Int.toNat (w32 (v3 + 4))) 0)), (vI (sc.getD (Int.toNat (w32 (v3 + 3))) 0)), (vI (sc.getD (Int.toNat (w32 (v3 + 2))) 0)), (vI (sc.getD (Int.toNat (w32 (v3 + 1))) 0)), (vR 9 1)], R, M, 174)) (cs := [xand (sc.getD (Int.toNat v3) 0) 31 = (0 : Int) + ((29 : Nat) : Int), (97 : Nat) = 97, xidx (w32 (v3 + 1)) sc.length, (97 : Nat) = 97, xidx (w32 (v3 + 2)) sc.length, (97 : Nat) = 97, xidx (w32 (v3 + 3)) sc.length, (97 : Nat) = 97, xidx (w32 (v3 + 4)) sc.length]) (by rfl) ⟨by rw [c_309]; rfl, rfl, c_310, rfl, c_311, rfl, c_312, rfl, c_313, trivial⟩ (Nat.le_refl _) ?_
                                                                  obtain ⟨r_314, M_315, e_316, h⟩ := xb2_ex h
                                                                  refine XR.callV 11 rfl (rest := []) m_X_gauge k_11_144 9 1 (Or.inl ⟨by decide, rfl⟩) [(vI (sc.getD (Int.toNat (w32 (v3 + 1))) 0)), (vI (sc.getD (Int.toNat (w32 (v3 + 2))) 0)), (vI (sc.getD (Int.toNat (w32 (v3 + 3))) 0)), (vI (sc.getD (Int.toNat (w32 (v3 + 4))) 0))] rfl rfl (c_X_gauge e_316) (by decide) (Nat.le_of_ble_eq_true rfl) (dl (by decide +kernel)) (Nat.le_refl _) (Nat.le_refl _) ?_
                                                                  show XR false 54 174 sc (yW nm) (1344, [(0, (vR 97 0)), (1, (vR 9 1)), (2, (vR 10 104)), (3, (vI v3))], [(vI r_314)], R, M_315, 174) _
                                                                  refine s_W_law [(1344, .aload_n 2, 0, 0), (1345, .aload_n 0, 0, 0), (1346, .iload_n 3, 0, 0), (1347, .iconst 1, 0, 1), (1348, .iadd, 0, 0), (1349, .iaload, 97, 0), (1350, .aload_n 0, 0, 0), (1351, .iload_n 3, 0, 0), (1352, .iconst 2, 0, 2), (1353, .iadd, 0, 0), (1354, .iaload, 97, 0), (1355, .aload_n 0, 0, 0), (1356, .iload_n 3, 0, 0), (1357, .iconst 3, 0, 3), (1358, .iadd, 0, 0), (1359, .iaload, 97, 0), (1360, .aload_n 0, 0, 0), (1361, .iload_n 3, 0, 0), (1362, .iconst 4, 0, 4), (1363, .iadd, 0, 0), (1364, .iaload, 97, 0)] (by decide +kernel) (z' := (1365, [(0, (vR 97 0)), (1, (vR 9 1)), (2, (vR 10 104)), (3, (vI v3))], [(vI (sc.getD (Int.toNat (w32 (v3 + 4))) 0)), (vI (sc.getD (Int.toNat (w32 (v3 + 3))) 0)), (vI (sc.getD (Int.toNat (w32 (v3 + 2))) 0)), (vI (sc.getD (Int.toNat (w32 (v3 + 1))) 0)), (vR 10 104), (vI r_314)], R, M_315, 174)) (cs := [(97 : Nat) = 97, xidx (w32 (v3 + 1)) sc.length, (97 : Nat) = 97, xidx (w32 (v3 + 2)) sc.length, (97 : Nat) = 97, xidx (w32 (v3 + 3)) sc.length, (97 : Nat) = 97, xidx (w32 (v3 + 4)) sc.length]) (by rfl) ⟨rfl, c_310, rfl, c_311, rfl, c_312, rfl, c_313, trivial⟩ (Nat.le_refl _) ?_
                                                                  obtain ⟨r_317, M_318, e_319, h⟩ := xb2_ex h
                                                                  refine XR.callV 11 rfl (rest := [(vI r_314)]) m_M_gauge k_11_147 10 104 (Or.inl ⟨by decide, rfl⟩) [(vI (sc.getD (Int.toNat (w32 (v3 + 1))) 0)), (vI (sc.getD (Int.toNat (w32 (v3 + 2))) 0)), (vI (sc.getD (Int.toNat (w32 (v3 + 3))) 0)), (vI (sc.getD (Int.toNat (w32 (v3 + 4))) 0))] rfl rfl (c_M_gauge e_319) (by decide) (Nat.le_of_ble_eq_true rfl) (dl (by decide +kernel)) (Nat.le_refl _) (Nat.le_refl _) ?_
                                                                  show XR false 54 174 sc (yW nm) (1368, [(0, (vR 97 0)), (1, (vR 9 1)), (2, (vR 10 104)), (3, (vI v3))], [(vI r_317), (vI r_314)], R, M_318, 174) _
                                                                  rcases xif_ex h with ⟨c_320, h⟩ | ⟨c_320, h⟩
                                                                  · skip
                                                                    refine s_W_law [(1368, .if_icmp .eq 38, 0, 1406)] (by decide +kernel) (z' := (1406, [(0, (vR 97 0)), (1, (vR 9 1)), (2, (vR 10 104)), (3, (vI v3))], [], R, M_318, 174)) (cs := [r_314 = r_317]) (by rfl) ⟨c_320, trivial⟩ (Nat.le_refl _) ?_
                                                                    exact o_W_law_J1406 ih h
                                                                  · skip
                                                                    refine s_W_law [(1368, .if_icmp .eq 38, 0, (-1)), (1371, .iconst 0, 0, 0)] (by decide +kernel) (z' := (1372, [(0, (vR 97 0)), (1, (vR 9 1)), (2, (vR 10 104)), (3, (vI v3))], [(vI 0)], R, M_318, 174)) (cs := [¬ (r_314 = r_317)]) (by rfl) ⟨c_320, trivial⟩ (Nat.le_refl _) ?_
                                                                    obtain rfl := Option.some.inj h
                                                                    exact XR.retI .boolean rfl (xnar_z (by decide)) (dl (by decide +kernel))
                                                                · skip
                                                                  rcases xif_ex h with ⟨c_321, h⟩ | ⟨c_321, h⟩
                                                                  · skip
                                                                    obtain ⟨c_322, h⟩ := xch_ex h
                                                                    obtain ⟨c_323, h⟩ := xch_ex h
                                                                    refine s_W_law [(33, .tableswitch 1373 0 30 #[139, 152, 195, 268, 302, 365, 428, 451, 474, 497, 530, 553, 616, 649, 692, 745, 798, 821, 854, 907, 950, 983, 1006, 1059, 1082, 1145, 1158, 1211, 1234, 1287, 1340], 31, 1373), (1373, .aload_n 1, 0, 0), (1374, .aload_n 0, 0, 0), (1375, .iload_n 3, 0, 0), (1376, .iconst 1, 0, 1), (1377, .iadd, 0, 0), (1378, .iaload, 97, 0), (1379, .aload_n 0, 0, 0), (1380, .iload_n 3, 0, 0), (1381, .iconst 2, 0, 2), (1382, .iadd, 0, 0), (1383, .iaload, 97, 0)] (by decide +kernel) (z' := (1384, [(0, (vR 97 0)), (1, (vR 9 1)), (2, (vR 10 104)), (3, (vI v3))], [(vI (sc.getD (Int.toNat (w32 (v3 + 2))) 0)), (vI (sc.getD (Int.toNat (w32 (v3 + 1))) 0)), (vR 9 1)], R, M, 174)) (cs := [xand (sc.getD (Int.toNat v3) 0) 31 = (0 : Int) + ((30 : Nat) : Int), (97 : Nat) = 97, xidx (w32 (v3 + 1)) sc.length, (97 : Nat) = 97, xidx (w32 (v3 + 2)) sc.length]) (by rfl) ⟨by rw [c_321]; rfl, rfl, c_322, rfl, c_323, trivial⟩ (Nat.le_refl _) ?_
                                                                    obtain ⟨r_324, M_325, e_326, h⟩ := xb2_ex h
                                                                    refine XR.callV 11 rfl (rest := []) m_X_gaugeTold k_11_148 9 1 (Or.inl ⟨by decide, rfl⟩) [(vI (sc.getD (Int.toNat (w32 (v3 + 1))) 0)), (vI (sc.getD (Int.toNat (w32 (v3 + 2))) 0))] rfl rfl (c_X_gaugeTold e_326) (by decide) (Nat.le_of_ble_eq_true rfl) (dl (by decide +kernel)) (Nat.le_refl _) (Nat.le_refl _) ?_
                                                                    show XR false 54 174 sc (yW nm) (1387, [(0, (vR 97 0)), (1, (vR 9 1)), (2, (vR 10 104)), (3, (vI v3))], [(vI r_324)], R, M_325, 174) _
                                                                    refine s_W_law [(1387, .aload_n 2, 0, 0), (1388, .aload_n 0, 0, 0), (1389, .iload_n 3, 0, 0), (1390, .iconst 1, 0, 1), (1391, .iadd, 0, 0), (1392, .iaload, 97, 0), (1393, .aload_n 0, 0, 0), (1394, .iload_n 3, 0, 0), (1395, .iconst 2, 0, 2), (1396, .iadd, 0, 0), (1397, .iaload, 97, 0)] (by decide +kernel) (z' := (1398, [(0, (vR 97 0)), (1, (vR 9 1)), (2, (vR 10 104)), (3, (vI v3))], [(vI (sc.getD (Int.toNat (w32 (v3 + 2))) 0)), (vI (sc.getD (Int.toNat (w32 (v3 + 1))) 0)), (vR 10 104), (vI r_324)], R, M_325, 174)) (cs := [(97 : Nat) = 97, xidx (w32 (v3 + 1)) sc.length, (97 : Nat) = 97, xidx (w32 (v3 + 2)) sc.length]) (by rfl) ⟨rfl, c_322, rfl, c_323, trivial⟩ (Nat.le_refl _) ?_
                                                                    obtain ⟨r_327, M_328, e_329, h⟩ := xb2_ex h
                                                                    refine XR.callV 11 rfl (rest := [(vI r_324)]) m_M_gaugeTold k_11_151 10 104 (Or.inl ⟨by decide, rfl⟩) [(vI (sc.getD (Int.toNat (w32 (v3 + 1))) 0)), (vI (sc.getD (Int.toNat (w32 (v3 + 2))) 0))] rfl rfl (c_M_gaugeTold e_329) (by decide) (Nat.le_of_ble_eq_true rfl) (dl (by decide +kernel)) (Nat.le_refl _) (Nat.le_refl _) ?_
                                                                    show XR false 54 174 sc (yW nm) (1401, [(0, (vR 97 0)), (1, (vR 9 1)), (2, (vR 10 104)), (3, (vI v3))], [(vI r_327), (vI r_324)], R, M_328, 174) _
                                                                    rcases xif_ex h with ⟨c_330, h⟩ | ⟨c_330, h⟩
                                                                    · skip
                                                                      refine s_W_law [(1401, .if_icmp .eq 5, 0, 1406)] (by decide +kernel) (z' := (1406, [(0, (vR 97 0)), (1, (vR 9 1)), (2, (vR 10 104)), (3, (vI v3))], [], R, M_328, 174)) (cs := [r_324 = r_327]) (by rfl) ⟨c_330, trivial⟩ (Nat.le_refl _) ?_
                                                                      exact o_W_law_J1406 ih h
                                                                    · skip
                                                                      refine s_W_law [(1401, .if_icmp .eq 5, 0, (-1)), (1404, .iconst 0, 0, 0)] (by decide +kernel) (z' := (1405, [(0, (vR 97 0)), (1, (vR 9 1)), (2, (vR 10 104)), (3, (vI v3))], [(vI 0)], R, M_328, 174)) (cs := [¬ (r_324 = r_327)]) (by rfl) ⟨c_330, trivial⟩ (Nat.le_refl _) ?_
                                                                      obtain rfl := Option.some.inj h
                                                                      exact XR.retI .boolean rfl (xnar_z (by decide)) (dl (by decide +kernel))
                                                                  · skip
                                                                    refine s_W_law [(33, .tableswitch 1373 0 30 #[139, 152, 195, 268, 302, 365, 428, 451, 474, 497, 530, 553, 616, 649, 692, 745, 798, 821, 854, 907, 950, 983, 1006, 1059, 1082, 1145, 1158, 1211, 1234, 1287, 1340], 0, 1406)] (by decide +kernel) (z' := (1406, [(0, (vR 97 0)), (1, (vR 9 1)), (2, (vR 10 104)), (3, (vI v3))], [], R, M, 174)) (cs := [xand (sc.getD (Int.toNat v3) 0) 31 < 0 ∨ 30 < xand (sc.getD (Int.toNat v3) 0) 31]) (by rfl) ⟨by omega, trivial⟩ (Nat.le_refl _) ?_
                                                                    exact o_W_law_J1406 ih h
set_option maxRecDepth 100000 in
set_option maxHeartbeats 8000000 in
theorem o_law {nm : String} {sc : List Int} {R : xR} {M : xM} {out : Int × xR × xM} (h : f_law sc R M = some out) : XR false 54 174 sc (yW nm) (16, [(0, (vR 97 0)), (1, (vR 9 1)), (2, (vR 10 104))], [], R, M, 174) ((some (vI out.1)), out.2.1, out.2.2) := by
  unfold f_law at h
  refine s_W_law [(16, .iconst 0, 0, 0), (17, .istore_n 3, 0, 0)] (by decide +kernel) (z' := (18, [(3, (vI 0)), (0, (vR 97 0)), (1, (vR 9 1)), (2, (vR 10 104))], [], R, M, 174)) (cs := []) (by rfl) trivial (Nat.le_refl _) ?_
  refine XR.pick [1, 2, 3, 0] (ls' := [(0, (vR 97 0)), (1, (vR 9 1)), (2, (vR 10 104)), (3, (vI 0))]) rfl ?_
  refine o_W_law_F18  xfu 0 R M _ h
