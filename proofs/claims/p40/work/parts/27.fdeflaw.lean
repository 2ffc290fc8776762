theorem lk_L_137 : wq_LkW "WharfQueryLaw" 137 yL_at cL_at 5 ((Option.some Jvm.ClassFile.FieldType.int)) [(0, 61, 62, 14)] 4 := ⟨aw_766, aw_767, aw_20, aw_768, by decide +kernel⟩
theorem lk_L_143 : wq_LkW "WharfQueryLaw" 143 yL_value cL_value 5 ((Option.some Jvm.ClassFile.FieldType.int)) [(0, 7, 8, 14)] 4 := ⟨aw_794, aw_795, aw_20, aw_796, by decide +kernel⟩
theorem lk_L_145 : wq_LkW "WharfQueryLaw" 145 yL_of cL_of 4 ((Option.some Jvm.ClassFile.FieldType.int)) [(0, 182, 183, 14)] 3 := ⟨aw_801, aw_802, aw_20, aw_803, by decide +kernel⟩
theorem lk_L_154 : wq_LkW "WharfQueryLaw" 154 yL_add cL_add 4 ((Option.some Jvm.ClassFile.FieldType.int)) [(0, 56, 57, 14), (0, 56, 61, 16), (0, 56, 65, 18)] 3 := ⟨aw_502, aw_503, aw_20, aw_504, by decide +kernel⟩
theorem lk_L_157 : wq_LkW "WharfQueryLaw" 157 yL_insert cL_insert 6 ((Option.some Jvm.ClassFile.FieldType.int)) [(0, 9, 10, 14), (0, 9, 15, 16), (0, 9, 20, 18)] 5 := ⟨aw_380, aw_381, aw_20, aw_382, by decide +kernel⟩
theorem lk_L_160 : wq_LkW "WharfQueryLaw" 160 yL_does cL_does 5 ((Option.some Jvm.ClassFile.FieldType.int)) [(0, 91, 92, 14), (0, 91, 97, 16), (0, 91, 102, 18)] 4 := ⟨aw_672, aw_673, aw_20, aw_674, by decide +kernel⟩
theorem lk_L_163 : wq_LkW "WharfQueryLaw" 163 yL_ask cL_ask 8 ((Option.some Jvm.ClassFile.FieldType.int)) [(0, 31, 32, 14), (0, 31, 37, 16), (0, 31, 42, 18)] 7 := ⟨aw_709, aw_710, aw_20, aw_711, by decide +kernel⟩
theorem lk_L_167 : wq_LkW "WharfQueryLaw" 167 yL_sums cL_sums 5 ((Option.some Jvm.ClassFile.FieldType.boolean)) [(0, 7, 10, 14)] 4 := ⟨aw_740, aw_741, aw_20, aw_742, by decide +kernel⟩
def f_L_drawn (X : Nat → Int) (LL : Nat) (x1 : Int) (S : wq_St) : Option (Int × wq_St) :=
  if wq_w (LL : Int) ≤ wq_w x1 then
    some (wq_and ((12421 * x1) + 9019) 1073741823, S)
  else
    wq_ix x1 LL fun t1 =>
    some (wq_and (X t1) 1073741823, S)
def f_L_insert (x1 : Int) (x2 : Int) (x3 : Int) (x4 : Int) (S : wq_St) : Option (Int × wq_St) :=
  wq_bh (f_X8_insert x1 x2 x3 x4 S) (fun r1 S2 =>
    some (r1, S2)) (fun n4 S2 =>
    if n4 = 1 then
      some ((-8), S2)
    else
      if n4 = 2 then
        some ((-8), S2)
      else
        if n4 = 3 then
          some ((-8), S2)
        else
          none)
def f_L_add (x1 : Int) (x2 : Int) (S : wq_St) : Option (Int × wq_St) :=
  if wq_w x1 = 0 then
    wq_bh (f_X8_addTable x2 S) (fun r17 S18 =>
      some (r17, S18)) (fun n20 S18 =>
      if n20 = 1 then
        some ((-8), S18)
      else
        if n20 = 2 then
          some ((-8), S18)
        else
          if n20 = 3 then
            some ((-8), S18)
          else
            none)
  else
    if wq_w x1 = wq_w 1 then
      wq_bh (f_X8_addReport x2 S) (fun r13 S14 =>
        some (r13, S14)) (fun n16 S14 =>
        if n16 = 1 then
          some ((-8), S14)
        else
          if n16 = 2 then
            some ((-8), S14)
          else
            if n16 = 3 then
              some ((-8), S14)
            else
              none)
    else
      if wq_w x1 = wq_w 2 then
        wq_bh (f_X8_setStep x2 S) (fun r9 S10 =>
          some (r9, S10)) (fun n12 S10 =>
          if n12 = 1 then
            some ((-8), S10)
          else
            if n12 = 2 then
              some ((-8), S10)
            else
              if n12 = 3 then
                some ((-8), S10)
              else
                none)
      else
        if wq_w x1 = wq_w 3 then
          wq_bh (f_X8_night x2 S) (fun r5 S6 =>
            some (r5, S6)) (fun n8 S6 =>
            if n8 = 1 then
              some ((-8), S6)
            else
              if n8 = 2 then
                some ((-8), S6)
              else
                if n8 = 3 then
                  some ((-8), S6)
                else
                  none)
        else
          wq_bh (f_X8_dropCondition x2 S) (fun r1 S2 =>
            some (r1, S2)) (fun n4 S2 =>
            if n4 = 1 then
              some ((-8), S2)
            else
              if n4 = 2 then
                some ((-8), S2)
              else
                if n4 = 3 then
                  some ((-8), S2)
                else
                  none)
def f_L_does (x1 : Int) (x2 : Int) (x3 : Int) (S : wq_St) : Option (Int × wq_St) :=
  if wq_w x1 = 0 then
    wq_bh (f_X8_delete x2 x3 S) (fun r25 S26 =>
      some (r25, S26)) (fun n28 S26 =>
      if n28 = 1 then
        some ((-8), S26)
      else
        if n28 = 2 then
          some ((-8), S26)
        else
          if n28 = 3 then
            some ((-8), S26)
          else
            none)
  else
    if wq_w x1 = wq_w 1 then
      wq_bh (f_X8_renew x2 x3 S) (fun r21 S22 =>
        some (r21, S22)) (fun n24 S22 =>
        if n24 = 1 then
          some ((-8), S22)
        else
          if n24 = 2 then
            some ((-8), S22)
          else
            if n24 = 3 then
              some ((-8), S22)
            else
              none)
    else
      if wq_w x1 = wq_w 2 then
        wq_bh (f_X8_addSource x2 x3 S) (fun r17 S18 =>
          some (r17, S18)) (fun n20 S18 =>
          if n20 = 1 then
            some ((-8), S18)
          else
            if n20 = 2 then
              some ((-8), S18)
            else
              if n20 = 3 then
                some ((-8), S18)
              else
                none)
      else
        if wq_w 5 ≤ wq_w x1 then
          if wq_w x1 = wq_w 5 then
            wq_bh (f_X8_setIndex x2 x3 1 S) (fun r5 S6 =>
              if wq_w r5 = 0 then
                some (0, S6)
              else
                some (1, S6)) (fun n8 S6 =>
              if n8 = 1 then
                some ((-8), S6)
              else
                if n8 = 2 then
                  some ((-8), S6)
                else
                  if n8 = 3 then
                    some ((-8), S6)
                  else
                    none)
          else
            wq_bh (f_X8_setIndex x2 x3 0 S) (fun r1 S2 =>
              if wq_w r1 = 0 then
                some (0, S2)
              else
                some (1, S2)) (fun n4 S2 =>
              if n4 = 1 then
                some ((-8), S2)
              else
                if n4 = 2 then
                  some ((-8), S2)
                else
                  if n4 = 3 then
                    some ((-8), S2)
                  else
                    none)
        else
          if wq_w x1 = wq_w 3 then
            wq_bh (f_X8_setDue x2 1 S) (fun r13 S14 =>
              if wq_w r13 = 0 then
                some (0, S14)
              else
                some (1, S14)) (fun n16 S14 =>
              if n16 = 1 then
                some ((-8), S14)
              else
                if n16 = 2 then
                  some ((-8), S14)
                else
                  if n16 = 3 then
                    some ((-8), S14)
                  else
                    none)
          else
            wq_bh (f_X8_setDue x2 0 S) (fun r9 S10 =>
              if wq_w r9 = 0 then
                some (0, S10)
              else
                some (1, S10)) (fun n12 S10 =>
              if n12 = 1 then
                some ((-8), S10)
              else
                if n12 = 2 then
                  some ((-8), S10)
                else
                  if n12 = 3 then
                    some ((-8), S10)
                  else
                    none)
def f_L_ask (x1 : Int) (x2 : Int) (x3 : Int) (x4 : Int) (x5 : Int) (x6 : Int) (S : wq_St) : Option (Int × wq_St) :=
  if wq_w x4 = wq_w 3 then
    wq_bh (f_X8_addJoin x1 x2 x3 x5 x6 S) (fun r5 S6 =>
      some (r5, S6)) (fun n8 S6 =>
      if n8 = 1 then
        some ((-8), S6)
      else
        if n8 = 2 then
          some ((-8), S6)
        else
          if n8 = 3 then
            some ((-8), S6)
          else
            none)
  else
    wq_bh (f_X8_addCondition x1 x2 x3 x4 x5 S) (fun r1 S2 =>
      some (r1, S2)) (fun n4 S2 =>
      if n4 = 1 then
        some ((-8), S2)
      else
        if n4 = 2 then
          some ((-8), S2)
        else
          if n4 = 3 then
            some ((-8), S2)
          else
            none)
def f_L_sums (x1 : Int) (x2 : Int) (x3 : Int) (S : wq_St) : Option (Int × wq_St) :=
  wq_bh (f_X8_setSum x1 x2 x3 S) (fun r1 S2 =>
    some (1, S2)) (fun n4 S2 =>
    if n4 = 1 then
      some (0, S2)
    else
      none)
def f_L_of (x1 : Int) (x2 : Int) (S : wq_St) : Option (Int × wq_St) :=
  if wq_w x1 = 0 then
    wq_bh (f_X8_rows x2 S) (fun r49 S50 =>
      some (r49, S50)) (fun n52 S50 =>
      if n52 = 1 then
        some ((-8), S50)
      else
        none)
  else
    if wq_w x1 = wq_w 1 then
      wq_bh (f_X8_toldRows x2 S) (fun r45 S46 =>
        some (r45, S46)) (fun n48 S46 =>
        if n48 = 1 then
          some ((-8), S46)
        else
          none)
    else
      if wq_w x1 = wq_w 2 then
        wq_bh (f_X8_isMarked x2 S) (fun r41 S42 =>
          if wq_w r41 = 0 then
            some (0, S42)
          else
            some (1, S42)) (fun n44 S42 =>
          if n44 = 1 then
            some ((-8), S42)
          else
            none)
      else
        if wq_w x1 = wq_w 3 then
          wq_bh (f_X8_isDue x2 S) (fun r37 S38 =>
            if wq_w r37 = 0 then
              some (0, S38)
            else
              some (1, S38)) (fun n40 S38 =>
            if n40 = 1 then
              some ((-8), S38)
            else
              none)
        else
          if wq_w x1 = wq_w 4 then
            wq_bh (f_X8_foretold x2 S) (fun r33 S34 =>
              some (r33, S34)) (fun n36 S34 =>
              if n36 = 1 then
                some ((-8), S34)
              else
                none)
          else
            if wq_w x1 = wq_w 5 then
              wq_bh (f_X8_minutes x2 S) (fun r29 S30 =>
                some (r29, S30)) (fun n32 S30 =>
                if n32 = 1 then
                  some ((-8), S30)
                else
                  none)
            else
              if wq_w x1 = wq_w 6 then
                wq_bh (f_X8_answer x2 S) (fun r25 S26 =>
                  some (r25, S26)) (fun n28 S26 =>
                  if n28 = 1 then
                    some ((-8), S26)
                  else
                    none)
              else
                if wq_w x1 = wq_w 7 then
                  wq_bh (f_X8_sum x2 S) (fun r21 S22 =>
                    some (r21, S22)) (fun n24 S22 =>
                    if n24 = 1 then
                      some ((-8), S22)
                    else
                      none)
                else
                  if wq_w x1 = wq_w 8 then
                    wq_bh (f_X8_plainAnswer x2 S) (fun r17 S18 =>
                      some (r17, S18)) (fun n20 S18 =>
                      if n20 = 1 then
                        some ((-8), S18)
                      else
                        none)
                  else
                    if wq_w x1 = wq_w 9 then
                      wq_bh (f_X8_plainSum x2 S) (fun r13 S14 =>
                        some (r13, S14)) (fun n16 S14 =>
                        if n16 = 1 then
                          some ((-8), S14)
                        else
                          none)
                    else
                      if wq_w x1 = wq_w 10 then
                        wq_bh (f_X8_kept x2 S) (fun r9 S10 =>
                          some (r9, S10)) (fun n12 S10 =>
                          if n12 = 1 then
                            some ((-8), S10)
                          else
                            none)
                      else
                        if wq_w x1 = wq_w 11 then
                          wq_bh (f_X8_keptSum x2 S) (fun r5 S6 =>
                            some (r5, S6)) (fun n8 S6 =>
                            if n8 = 1 then
                              some ((-8), S6)
                            else
                              none)
                        else
                          wq_bh (f_X8_keptIn x2 S) (fun r1 S2 =>
                            some (r1, S2)) (fun n4 S2 =>
                            if n4 = 1 then
                              some ((-8), S2)
                            else
                              none)
def f_L_at (x1 : Int) (x2 : Int) (x3 : Int) (S : wq_St) : Option (Int × wq_St) :=
  if wq_w x1 = 0 then
    wq_bh (f_X8_unlike x2 x3 S) (fun r17 S18 =>
      some (r17, S18)) (fun n20 S18 =>
      if n20 = 1 then
        some ((-8), S18)
      else
        none)
  else
    if wq_w x1 = wq_w 1 then
      wq_bh (f_X8_least x2 x3 S) (fun r13 S14 =>
        some (r13, S14)) (fun n16 S14 =>
        if n16 = 1 then
          some ((-8), S14)
        else
          none)
    else
      if wq_w x1 = wq_w 2 then
        wq_bh (f_X8_greatest x2 x3 S) (fun r9 S10 =>
          some (r9, S10)) (fun n12 S10 =>
          if n12 = 1 then
            some ((-8), S10)
          else
            none)
      else
        if wq_w x1 = wq_w 3 then
          wq_bh (f_X8_planSource x2 x3 S) (fun r5 S6 =>
            some (r5, S6)) (fun n8 S6 =>
            if n8 = 1 then
              some ((-8), S6)
            else
              none)
        else
          wq_bh (f_X8_planWay x2 x3 S) (fun r1 S2 =>
            some (r1, S2)) (fun n4 S2 =>
            if n4 = 1 then
              some ((-8), S2)
            else
              none)
def f_L_value (x1 : Int) (x2 : Int) (x3 : Int) (S : wq_St) : Option (Int × wq_St) :=
  wq_bh (f_X8_value x1 x2 x3 S) (fun r1 S2 =>
    some (r1, S2)) (fun n4 S2 =>
    if n4 = 1 then
      some ((-8), S2)
    else
      none)
def j_L_same_348 (kx : Int → wq_St → Option (Int × wq_St)) (rec : Int → Int → wq_St → Option (Int × wq_St)) (j4 : Int) (j5 : Int) (j6 : Int) (j12 : Int) (j13 : Int) (z0 : Int) (S : wq_St) : Option (Int × wq_St) :=
  rec z0 (j13 + 1) S
def j_L_same_343 (kx : Int → wq_St → Option (Int × wq_St)) (rec : Int → Int → wq_St → Option (Int × wq_St)) (j4 : Int) (j5 : Int) (j6 : Int) (j12 : Int) (j13 : Int) (S : wq_St) : Option (Int × wq_St) :=
  j_L_same_348 kx rec j4 j5 j6 j12 j13 1 S
def j_L_same_337 (kx : Int → wq_St → Option (Int × wq_St)) (rec : Int → Int → wq_St → Option (Int × wq_St)) (j4 : Int) (j5 : Int) (j6 : Int) (j12 : Int) (j13 : Int) (z0 : Int) (z1 : Int) (z3 : Int) (S : wq_St) : Option (Int × wq_St) :=
  wq_bd (f_L_of z1 z0 (wq_clt S)) fun r20 S21 =>
  wq_lt (wq_emb 284 284 S S21) fun S22 =>
  if wq_w z3 = wq_w r20 then
    j_L_same_343 kx rec j4 j5 j6 j12 j13 S22
  else
    j_L_same_348 kx rec j4 j5 j6 j12 j13 0 S22
def j_L_same_318 (kx : Int → wq_St → Option (Int × wq_St)) (rec : Int → Int → wq_St → Option (Int × wq_St)) (j4 : Int) (j5 : Int) (j6 : Int) (j12 : Int) (j13 : Int) (z0 : Int) (z1 : Int) (S : wq_St) : Option (Int × wq_St) :=
  wq_bd (f_L_of z1 z0 (wq_cls S)) fun r17 S18 =>
  wq_lt (wq_emb 0 284 S S18) fun S19 =>
  if wq_w 3 ≤ wq_w j13 then
    j_L_same_337 kx rec j4 j5 j6 j12 j13 j12 j13 r17 S19
  else
    j_L_same_337 kx rec j4 j5 j6 j12 j13 j6 j13 r17 S19
def j_L_same_295 (kx : Int → wq_St → Option (Int × wq_St)) (rec : Int → Int → wq_St → Option (Int × wq_St)) (j4 : Int) (j5 : Int) (j6 : Int) (j12 : Int) (j13 : Int) (z0 : Int) (S : wq_St) : Option (Int × wq_St) :=
  if wq_w z0 = 0 then
    if wq_w 3 ≤ wq_w j13 then
      j_L_same_318 kx rec j4 j5 j6 j12 j13 j12 j13 S
    else
      j_L_same_318 kx rec j4 j5 j6 j12 j13 j6 j13 S
  else
    j_L_same_343 kx rec j4 j5 j6 j12 j13 S
def j_L_same_290 (kx : Int → wq_St → Option (Int × wq_St)) (rec : Int → Int → wq_St → Option (Int × wq_St)) (j4 : Int) (j5 : Int) (j6 : Int) (j12 : Int) (j13 : Int) (S : wq_St) : Option (Int × wq_St) :=
  j_L_same_295 kx rec j4 j5 j6 j12 j13 1 S
def b_L_same_257 (c4 : Int) (c5 : Int) (c6 : Int) (c12 : Int) (kx : Int → wq_St → Option (Int × wq_St)) (rec : Int → Int → wq_St → Option (Int × wq_St)) (y9 : Int) (y13 : Int) (S : wq_St) : Option (Int × wq_St) :=
  if wq_w 13 ≤ wq_w y13 then
    kx y9 S
  else
    if wq_w y9 = 0 then
      kx y9 S
    else
      if wq_w y13 = wq_w 7 then
        j_L_same_290 kx rec c4 c5 c6 c12 y13 S
      else
        if wq_w y13 = wq_w 9 then
          j_L_same_290 kx rec c4 c5 c6 c12 y13 S
        else
          if wq_w y13 = wq_w 11 then
            j_L_same_290 kx rec c4 c5 c6 c12 y13 S
          else
            j_L_same_295 kx rec c4 c5 c6 c12 y13 0 S
def l_L_same_257 (c4 : Int) (c5 : Int) (c6 : Int) (c12 : Int) (kx : Int → wq_St → Option (Int × wq_St)) (n : Nat) (y9 : Int) (y13 : Int) (S : wq_St) : Option (Int × wq_St) :=
  wq_loop (fun (g : Int × Int × wq_St → Option (Int × wq_St)) (x : Int × Int × wq_St) => b_L_same_257 c4 c5 c6 c12 kx (fun y9 y13 S => g (y9, y13, S)) x.1 x.2.1 x.2.2) n (y9, y13, S)
theorem l_L_same_257_s (c4 : Int) (c5 : Int) (c6 : Int) (c12 : Int) (kx : Int → wq_St → Option (Int × wq_St)) (n : Nat) (y9 : Int) (y13 : Int) (S : wq_St) : l_L_same_257 c4 c5 c6 c12 kx (n + 1) y9 y13 S = b_L_same_257 c4 c5 c6 c12 kx (l_L_same_257 c4 c5 c6 c12 kx n) y9 y13 S := rfl
theorem l_L_same_257_0 (c4 : Int) (c5 : Int) (c6 : Int) (c12 : Int) (kx : Int → wq_St → Option (Int × wq_St)) (y9 : Int) (y13 : Int) (S : wq_St) : l_L_same_257 c4 c5 c6 c12 kx 0 y9 y13 S = none := rfl
def j_L_same_445 (j4 : Int) (j12 : Int) (z0 : Int) (S : wq_St) : Option (Int × wq_St) :=
  if wq_w z0 = 0 then
    some (0, S)
  else
    wq_gd (¬ wq_w 3 = 0) <|
    wq_bd (f_L_at 3 j12 (wq_rem j4 3) (wq_cls S)) fun r26 S27 =>
    wq_lt (wq_emb 0 284 S S27) fun S28 =>
    wq_gd (¬ wq_w 3 = 0) <|
    wq_bd (f_L_at 3 j12 (wq_rem j4 3) (wq_clt S28)) fun r29 S30 =>
    wq_lt (wq_emb 284 284 S28 S30) fun S31 =>
    if wq_w r26 = wq_w r29 then
      wq_gd (¬ wq_w 3 = 0) <|
      wq_bd (f_L_at 4 j12 (wq_rem j4 3) (wq_cls S31)) fun r32 S33 =>
      wq_lt (wq_emb 0 284 S31 S33) fun S34 =>
      wq_gd (¬ wq_w 3 = 0) <|
      wq_bd (f_L_at 4 j12 (wq_rem j4 3) (wq_clt S34)) fun r35 S36 =>
      wq_lt (wq_emb 284 284 S34 S36) fun S37 =>
      if wq_w r32 = wq_w r35 then
        some (1, S37)
      else
        some (0, S37)
    else
      some (0, S31)
def j_L_same_444 (j4 : Int) (j12 : Int) (S : wq_St) : Option (Int × wq_St) :=
  j_L_same_445 j4 j12 0 S
def j_L_same_440 (j4 : Int) (j12 : Int) (S : wq_St) : Option (Int × wq_St) :=
  j_L_same_445 j4 j12 1 S
def j_L_same_383 (j4 : Int) (j9 : Int) (j12 : Int) (z0 : Int) (S : wq_St) : Option (Int × wq_St) :=
  if wq_w j9 = 0 then
    j_L_same_444 j4 j12 S
  else
    wq_ix 0 2 fun t38 =>
    if wq_w (S 569 t38) = 0 then
      j_L_same_440 j4 j12 S
    else
      wq_bd (f_L_of 7 j12 (wq_clt S)) fun r39 S40 =>
      wq_lt (wq_emb 284 284 S S40) fun S41 =>
      wq_bd (f_L_of 7 j12 (wq_cls S41)) fun r42 S43 =>
      wq_lt (wq_emb 0 284 S41 S43) fun S44 =>
      if wq_w r39 = wq_w (r42 + z0) then
        wq_bd (f_L_of 9 j12 (wq_clt S44)) fun r45 S46 =>
        wq_lt (wq_emb 284 284 S44 S46) fun S47 =>
        wq_bd (f_L_of 9 j12 (wq_cls S47)) fun r48 S49 =>
        wq_lt (wq_emb 0 284 S47 S49) fun S50 =>
        if wq_w r45 = wq_w (r48 + z0) then
          j_L_same_440 j4 j12 S50
        else
          j_L_same_444 j4 j12 S50
      else
        j_L_same_444 j4 j12 S44
def j_L_same_356 (j4 : Int) (j5 : Int) (j9 : Int) (j12 : Int) (S : wq_St) : Option (Int × wq_St) :=
  wq_ix 1 2 fun t25 =>
  if wq_w (wq_and (wq_shr (S 569 t25) j12) 1) = wq_w 1 then
    wq_bd (f_L_of 6 j12 (wq_cls S)) fun r51 S52 =>
    wq_lt (wq_emb 0 284 S S52) fun S53 =>
    j_L_same_383 j4 j9 j12 (j5 * r51) S53
  else
    j_L_same_383 j4 j9 j12 0 S
def j_L_same_252 (j4 : Int) (j5 : Int) (j6 : Int) (j9 : Int) (z0 : Int) (S : wq_St) : Option (Int × wq_St) :=
  l_L_same_257 j4 j5 j6 z0 (fun u23 S24 =>
    j_L_same_356 j4 j5 u23 z0 S24) 14 j9 0 S
def j_L_same_232 (j4 : Int) (j5 : Int) (j6 : Int) (z0 : Int) (S : wq_St) : Option (Int × wq_St) :=
  wq_ix 0 2 fun t15 =>
  if wq_w (S 569 t15) = 0 then
    j_L_same_252 j4 j5 j6 z0 0 S
  else
    wq_gd (¬ wq_w 5 = 0) <|
    wq_ix 0 2 fun t16 =>
    wq_gd (¬ wq_w (S 569 t16) = 0) <|
    j_L_same_252 j4 j5 j6 z0 (wq_rem (wq_div j4 5) (S 569 t16)) S
def j_L_same_231 (j4 : Int) (j5 : Int) (j6 : Int) (S : wq_St) : Option (Int × wq_St) :=
  j_L_same_232 j4 j5 j6 0 S
def j_L_same_224 (j4 : Int) (j5 : Int) (j6 : Int) (z0 : Int) (z1 : Int) (S : wq_St) : Option (Int × wq_St) :=
  if wq_w z1 = wq_w z0 then
    j_L_same_232 j4 j5 j6 1 S
  else
    j_L_same_231 j4 j5 j6 S
def j_L_same_191 (j4 : Int) (j5 : Int) (j6 : Int) (j7 : Int) (j11 : Int) (z0 : Int) (z1 : Int) (S : wq_St) : Option (Int × wq_St) :=
  if wq_w z1 = wq_w z0 then
    wq_bd (f_L_at 2 j6 j7 (wq_clt S)) fun r63 S64 =>
    wq_lt (wq_emb 284 284 S S64) fun S65 =>
    if wq_w j11 = 0 then
      wq_bd (f_L_at 2 j6 j7 (wq_cls S65)) fun r66 S67 =>
      wq_lt (wq_emb 0 284 S65 S67) fun S68 =>
      j_L_same_224 j4 j5 j6 (r66 + j5) r63 S68
    else
      j_L_same_224 j4 j5 j6 0 r63 S65
  else
    j_L_same_231 j4 j5 j6 S
def j_L_same_158 (j4 : Int) (j5 : Int) (j6 : Int) (j7 : Int) (j11 : Int) (z0 : Int) (z1 : Int) (S : wq_St) : Option (Int × wq_St) :=
  if wq_w z1 = wq_w z0 then
    wq_bd (f_L_at 1 j6 j7 (wq_clt S)) fun r57 S58 =>
    wq_lt (wq_emb 284 284 S S58) fun S59 =>
    if wq_w j11 = 0 then
      wq_bd (f_L_at 1 j6 j7 (wq_cls S59)) fun r60 S61 =>
      wq_lt (wq_emb 0 284 S59 S61) fun S62 =>
      j_L_same_191 j4 j5 j6 j7 j11 (r60 + j5) r57 S62
    else
      j_L_same_191 j4 j5 j6 j7 j11 0 r57 S59
  else
    j_L_same_231 j4 j5 j6 S
def j_L_same_126 (j4 : Int) (j5 : Int) (j6 : Int) (j7 : Int) (j8 : Int) (j9 : Int) (j10 : Int) (z0 : Int) (S : wq_St) : Option (Int × wq_St) :=
  if wq_w j9 = 0 then
    j_L_same_231 j4 j5 j6 S
  else
    wq_bd (f_L_value j6 j8 j7 (wq_clt S)) fun r54 S55 =>
    wq_lt (wq_emb 284 284 S S55) fun S56 =>
    if 0 ≤ wq_w j10 then
      j_L_same_158 j4 j5 j6 j7 z0 (j10 + j5) r54 S56
    else
      j_L_same_158 j4 j5 j6 j7 z0 j10 r54 S56
def j_L_same_97 (j4 : Int) (j5 : Int) (j6 : Int) (j7 : Int) (j8 : Int) (z0 : Int) (S : wq_St) : Option (Int × wq_St) :=
  wq_bd (f_L_value j6 j8 j7 (wq_cls S)) fun r9 S10 =>
  wq_lt (wq_emb 0 284 S S10) fun S11 =>
  wq_bd (f_L_of 1 j6 (wq_cls S11)) fun r12 S13 =>
  wq_lt (wq_emb 0 284 S11 S13) fun S14 =>
  if wq_w r12 = 0 then
    j_L_same_126 j4 j5 j6 j7 j8 z0 r9 1 S14
  else
    j_L_same_126 j4 j5 j6 j7 j8 z0 r9 0 S14
def j_L_same_96 (j4 : Int) (j5 : Int) (j6 : Int) (j7 : Int) (j8 : Int) (S : wq_St) : Option (Int × wq_St) :=
  j_L_same_97 j4 j5 j6 j7 j8 0 S
def j_L_same_0 (j4 : Int) (j5 : Int) (S : wq_St) : Option (Int × wq_St) :=
  wq_gd (¬ wq_w 3 = 0) <|
  wq_gd (¬ wq_w 3 = 0) <|
  wq_ix (wq_rem j4 3) 3 fun t1 =>
  wq_gd (¬ wq_w (S 568 t1) = 0) <|
  wq_lt (wq_rem (wq_div j4 3) (S 568 t1)) fun a2 =>
  wq_gd (¬ wq_w 9 = 0) <|
  wq_gd (¬ wq_w 40 = 0) <|
  wq_bd (f_X8_nights (wq_cls S)) fun r3 S4 =>
  wq_lt (wq_emb 0 284 S S4) fun S5 =>
  wq_bd (f_X8_nights (wq_clt S5)) fun r6 S7 =>
  wq_lt (wq_emb 284 284 S5 S7) fun S8 =>
  if wq_w r3 = wq_w r6 then
    wq_bd (f_X8_paid (wq_cls S8)) fun r69 S70 =>
    wq_lt (wq_emb 0 284 S8 S70) fun S71 =>
    wq_bd (f_X8_paid (wq_clt S71)) fun r72 S73 =>
    wq_lt (wq_emb 284 284 S71 S73) fun S74 =>
    if wq_w r69 = wq_w r72 then
      wq_bd (f_X8_left (wq_cls S74)) fun r75 S76 =>
      wq_lt (wq_emb 0 284 S74 S76) fun S77 =>
      wq_bd (f_X8_left (wq_clt S77)) fun r78 S79 =>
      wq_lt (wq_emb 284 284 S77 S79) fun S80 =>
      if wq_w r75 = wq_w r78 then
        wq_bd (f_X8_owed (wq_cls S80)) fun r81 S82 =>
        wq_lt (wq_emb 0 284 S80 S82) fun S83 =>
        wq_bd (f_X8_owed (wq_clt S83)) fun r84 S85 =>
        wq_lt (wq_emb 284 284 S83 S85) fun S86 =>
        if wq_w r81 = wq_w r84 then
          wq_bd (f_L_at 0 (wq_rem j4 3) a2 (wq_cls S86)) fun r87 S88 =>
          wq_lt (wq_emb 0 284 S86 S88) fun S89 =>
          wq_bd (f_L_at 0 (wq_rem j4 3) a2 (wq_clt S89)) fun r90 S91 =>
          wq_lt (wq_emb 284 284 S89 S91) fun S92 =>
          if wq_w r87 = wq_w r90 then
            j_L_same_97 j4 j5 (wq_rem j4 3) a2 (wq_rem (wq_div j4 9) 40) 1 S92
          else
            j_L_same_96 j4 j5 (wq_rem j4 3) a2 (wq_rem (wq_div j4 9) 40) S92
        else
          j_L_same_96 j4 j5 (wq_rem j4 3) a2 (wq_rem (wq_div j4 9) 40) S86
      else
        j_L_same_96 j4 j5 (wq_rem j4 3) a2 (wq_rem (wq_div j4 9) 40) S80
    else
      j_L_same_96 j4 j5 (wq_rem j4 3) a2 (wq_rem (wq_div j4 9) 40) S74
  else
    j_L_same_96 j4 j5 (wq_rem j4 3) a2 (wq_rem (wq_div j4 9) 40) S8
def f_L_same (x4 : Int) (x5 : Int) (S : wq_St) : Option (Int × wq_St) :=
  j_L_same_0 x4 x5 S
def j_L_law_108 (X : Nat → Int) (LL : Nat) (kx : Int → wq_St → Option (Int × wq_St)) (rec : Int → Int → wq_St → Option (Int × wq_St)) (j3 : Int) (j7 : Int) (z0 : Int) (S : wq_St) : Option (Int × wq_St) :=
  rec z0 (j7 + 1) S
def j_L_law_107 (X : Nat → Int) (LL : Nat) (kx : Int → wq_St → Option (Int × wq_St)) (rec : Int → Int → wq_St → Option (Int × wq_St)) (j3 : Int) (j7 : Int) (S : wq_St) : Option (Int × wq_St) :=
  j_L_law_108 X LL kx rec j3 j7 0 S
def b_L_law_44 (X : Nat → Int) (LL : Nat) (c3 : Int) (kx : Int → wq_St → Option (Int × wq_St)) (rec : Int → Int → wq_St → Option (Int × wq_St)) (y6 : Int) (y7 : Int) (S : wq_St) : Option (Int × wq_St) :=
  if wq_w 3 ≤ wq_w y7 then
    kx y6 S
  else
    wq_bd (f_L_drawn X LL (61 + y7) S) fun r1 _ =>
    wq_gd (¬ wq_w 3 = 0) <|
    wq_ix y7 3 fun t4 =>
    wq_lt (wq_set S 568 t4 (1 + (wq_rem r1 3))) fun S5 =>
    if wq_w y6 = 0 then
      j_L_law_107 X LL kx rec c3 y7 S5
    else
      wq_ix y7 3 fun t6 =>
      wq_bd (f_L_add 0 (S5 568 t6) (wq_cls S5)) fun r7 S8 =>
      wq_lt (wq_emb 0 284 S5 S8) fun S9 =>
      if wq_w r7 = wq_w y7 then
        wq_ix y7 3 fun t10 =>
        wq_bd (f_L_add 0 (S9 568 t10) (wq_clt S9)) fun r11 S12 =>
        wq_lt (wq_emb 284 284 S9 S12) fun S13 =>
        if wq_w r11 = wq_w y7 then
          j_L_law_108 X LL kx rec c3 y7 1 S13
        else
          j_L_law_107 X LL kx rec c3 y7 S13
      else
        j_L_law_107 X LL kx rec c3 y7 S9
def l_L_law_44 (X : Nat → Int) (LL : Nat) (c3 : Int) (kx : Int → wq_St → Option (Int × wq_St)) (n : Nat) (y6 : Int) (y7 : Int) (S : wq_St) : Option (Int × wq_St) :=
  wq_loop (fun (g : Int × Int × wq_St → Option (Int × wq_St)) (x : Int × Int × wq_St) => b_L_law_44 X LL c3 kx (fun y6 y7 S => g (y6, y7, S)) x.1 x.2.1 x.2.2) n (y6, y7, S)
theorem l_L_law_44_s (X : Nat → Int) (LL : Nat) (c3 : Int) (kx : Int → wq_St → Option (Int × wq_St)) (n : Nat) (y6 : Int) (y7 : Int) (S : wq_St) : l_L_law_44 X LL c3 kx (n + 1) y6 y7 S = b_L_law_44 X LL c3 kx (l_L_law_44 X LL c3 kx n) y6 y7 S := rfl
theorem l_L_law_44_0 (X : Nat → Int) (LL : Nat) (c3 : Int) (kx : Int → wq_St → Option (Int × wq_St)) (y6 : Int) (y7 : Int) (S : wq_St) : l_L_law_44 X LL c3 kx 0 y6 y7 S = none := rfl
def j_L_law_963 (X : Nat → Int) (LL : Nat) (kx : Int → wq_St → Option (Int × wq_St)) (rec : Int → Int → wq_St → Option (Int × wq_St)) (j3 : Int) (j7 : Int) (z0 : Int) (S : wq_St) : Option (Int × wq_St) :=
  rec z0 (j7 + 1) S
def j_L_law_962 (X : Nat → Int) (LL : Nat) (kx : Int → wq_St → Option (Int × wq_St)) (rec : Int → Int → wq_St → Option (Int × wq_St)) (j3 : Int) (j7 : Int) (S : wq_St) : Option (Int × wq_St) :=
  j_L_law_963 X LL kx rec j3 j7 0 S
def j_L_law_958 (X : Nat → Int) (LL : Nat) (kx : Int → wq_St → Option (Int × wq_St)) (rec : Int → Int → wq_St → Option (Int × wq_St)) (j3 : Int) (j7 : Int) (S : wq_St) : Option (Int × wq_St) :=
  j_L_law_963 X LL kx rec j3 j7 1 S
def j_L_law_928 (X : Nat → Int) (LL : Nat) (kx : Int → wq_St → Option (Int × wq_St)) (rec : Int → Int → wq_St → Option (Int × wq_St)) (j3 : Int) (j6 : Int) (j7 : Int) (j8 : Int) (S : wq_St) : Option (Int × wq_St) :=
  if wq_w j6 = 0 then
    j_L_law_962 X LL kx rec j3 j7 S
  else
    wq_gd (¬ wq_w 3 = 0) <|
    if wq_w (wq_rem j7 3) < wq_w 2 then
      j_L_law_958 X LL kx rec j3 j7 S
    else
      wq_gd (¬ wq_w 3 = 0) <|
      wq_bd (f_L_same (wq_div j8 3) j3 S) fun r29 S30 =>
      if wq_w r29 = 0 then
        j_L_law_962 X LL kx rec j3 j7 S30
      else
        j_L_law_958 X LL kx rec j3 j7 S30
def j_L_law_926 (X : Nat → Int) (LL : Nat) (kx : Int → wq_St → Option (Int × wq_St)) (rec : Int → Int → wq_St → Option (Int × wq_St)) (j3 : Int) (j7 : Int) (j8 : Int) (z0 : Int) (S : wq_St) : Option (Int × wq_St) :=
  j_L_law_928 X LL kx rec j3 z0 j7 j8 S
def j_L_law_881 (X : Nat → Int) (LL : Nat) (kx : Int → wq_St → Option (Int × wq_St)) (rec : Int → Int → wq_St → Option (Int × wq_St)) (j3 : Int) (j7 : Int) (j8 : Int) (z0 : Int) (S : wq_St) : Option (Int × wq_St) :=
  j_L_law_928 X LL kx rec j3 z0 j7 j8 S
def j_L_law_859 (X : Nat → Int) (LL : Nat) (kx : Int → wq_St → Option (Int × wq_St)) (rec : Int → Int → wq_St → Option (Int × wq_St)) (j3 : Int) (j7 : Int) (j8 : Int) (j11 : Int) (j12 : Int) (j13 : Int) (j14 : Int) (z0 : Int) (z1 : Int) (z2 : Int) (S : wq_St) : Option (Int × wq_St) :=
  wq_ix z2 2 fun t36 =>
  wq_lt (wq_set S 569 t36 (wq_or z1 z0)) fun S37 =>
  wq_bd (f_L_sums j13 j11 j12 (wq_clt S37)) fun r38 S39 =>
  wq_lt (wq_emb 284 284 S37 S39) fun S40 =>
  if wq_w r38 = wq_w j14 then
    j_L_law_881 X LL kx rec j3 j7 j8 1 S40
  else
    j_L_law_881 X LL kx rec j3 j7 j8 0 S40
def j_L_law_817 (X : Nat → Int) (LL : Nat) (kx : Int → wq_St → Option (Int × wq_St)) (rec : Int → Int → wq_St → Option (Int × wq_St)) (j3 : Int) (j7 : Int) (j8 : Int) (z0 : Int) (S : wq_St) : Option (Int × wq_St) :=
  j_L_law_928 X LL kx rec j3 z0 j7 j8 S
def j_L_law_783 (X : Nat → Int) (LL : Nat) (kx : Int → wq_St → Option (Int × wq_St)) (rec : Int → Int → wq_St → Option (Int × wq_St)) (j3 : Int) (j7 : Int) (j8 : Int) (z0 : Int) (S : wq_St) : Option (Int × wq_St) :=
  j_L_law_928 X LL kx rec j3 z0 j7 j8 S
def j_L_law_764 (X : Nat → Int) (LL : Nat) (kx : Int → wq_St → Option (Int × wq_St)) (rec : Int → Int → wq_St → Option (Int × wq_St)) (j3 : Int) (j7 : Int) (j8 : Int) (j10 : Int) (z0 : Int) (z1 : Int) (z2 : Int) (z3 : Int) (z4 : Int) (z6 : Int) (S : wq_St) : Option (Int × wq_St) :=
  wq_gd (¬ wq_w 972 = 0) <|
  wq_gd (¬ wq_w 3 = 0) <|
  wq_bd (f_L_ask z4 z3 z2 z1 z0 (wq_rem (wq_div j10 972) 3) (wq_clt S)) fun r50 S51 =>
  wq_lt (wq_emb 284 284 S S51) fun S52 =>
  if wq_w z6 = wq_w r50 then
    j_L_law_783 X LL kx rec j3 j7 j8 1 S52
  else
    j_L_law_783 X LL kx rec j3 j7 j8 0 S52
def j_L_law_716 (X : Nat → Int) (LL : Nat) (kx : Int → wq_St → Option (Int × wq_St)) (rec : Int → Int → wq_St → Option (Int × wq_St)) (j3 : Int) (j7 : Int) (j8 : Int) (j10 : Int) (j11 : Int) (j12 : Int) (j13 : Int) (j14 : Int) (z0 : Int) (S : wq_St) : Option (Int × wq_St) :=
  wq_gd (¬ wq_w 972 = 0) <|
  wq_gd (¬ wq_w 3 = 0) <|
  wq_bd (f_L_ask j13 j11 j12 j14 z0 (wq_rem (wq_div j10 972) 3) (wq_cls S)) fun r47 S48 =>
  wq_lt (wq_emb 0 284 S S48) fun S49 =>
  if wq_w j14 = wq_w 3 then
    j_L_law_764 X LL kx rec j3 j7 j8 j10 z0 j14 j12 j11 j13 r47 S49
  else
    j_L_law_764 X LL kx rec j3 j7 j8 j10 (z0 + j3) j14 j12 j11 j13 r47 S49
def j_L_law_668 (X : Nat → Int) (LL : Nat) (kx : Int → wq_St → Option (Int × wq_St)) (rec : Int → Int → wq_St → Option (Int × wq_St)) (j3 : Int) (j7 : Int) (j8 : Int) (z0 : Int) (S : wq_St) : Option (Int × wq_St) :=
  j_L_law_928 X LL kx rec j3 z0 j7 j8 S
def j_L_law_630 (X : Nat → Int) (LL : Nat) (kx : Int → wq_St → Option (Int × wq_St)) (rec : Int → Int → wq_St → Option (Int × wq_St)) (j3 : Int) (j7 : Int) (j8 : Int) (z0 : Int) (S : wq_St) : Option (Int × wq_St) :=
  j_L_law_928 X LL kx rec j3 z0 j7 j8 S
def j_L_law_609 (X : Nat → Int) (LL : Nat) (kx : Int → wq_St → Option (Int × wq_St)) (rec : Int → Int → wq_St → Option (Int × wq_St)) (j3 : Int) (j7 : Int) (j8 : Int) (j10 : Int) (j14 : Int) (z0 : Int) (z1 : Int) (z2 : Int) (S : wq_St) : Option (Int × wq_St) :=
  wq_ix z2 2 fun t63 =>
  wq_lt (wq_set S 569 t63 (z1 + z0)) fun S64 =>
  wq_gd (¬ wq_w 5 = 0) <|
  wq_bd (f_L_add 1 (wq_rem j10 5) (wq_clt S64)) fun r65 S66 =>
  wq_lt (wq_emb 284 284 S64 S66) fun S67 =>
  if wq_w r65 = wq_w j14 then
    j_L_law_630 X LL kx rec j3 j7 j8 1 S67
  else
    j_L_law_630 X LL kx rec j3 j7 j8 0 S67
def j_L_law_571 (X : Nat → Int) (LL : Nat) (kx : Int → wq_St → Option (Int × wq_St)) (rec : Int → Int → wq_St → Option (Int × wq_St)) (j3 : Int) (j7 : Int) (j8 : Int) (z0 : Int) (S : wq_St) : Option (Int × wq_St) :=
  j_L_law_928 X LL kx rec j3 z0 j7 j8 S
def j_L_law_531 (X : Nat → Int) (LL : Nat) (kx : Int → wq_St → Option (Int × wq_St)) (rec : Int → Int → wq_St → Option (Int × wq_St)) (j3 : Int) (j7 : Int) (j8 : Int) (z0 : Int) (S : wq_St) : Option (Int × wq_St) :=
  j_L_law_928 X LL kx rec j3 z0 j7 j8 S
def j_L_law_489 (X : Nat → Int) (LL : Nat) (kx : Int → wq_St → Option (Int × wq_St)) (rec : Int → Int → wq_St → Option (Int × wq_St)) (j3 : Int) (j7 : Int) (j8 : Int) (z0 : Int) (S : wq_St) : Option (Int × wq_St) :=
  j_L_law_928 X LL kx rec j3 z0 j7 j8 S
def j_L_law_439 (X : Nat → Int) (LL : Nat) (kx : Int → wq_St → Option (Int × wq_St)) (rec : Int → Int → wq_St → Option (Int × wq_St)) (j3 : Int) (j7 : Int) (j8 : Int) (z0 : Int) (S : wq_St) : Option (Int × wq_St) :=
  j_L_law_928 X LL kx rec j3 z0 j7 j8 S
def j_L_law_385 (X : Nat → Int) (LL : Nat) (kx : Int → wq_St → Option (Int × wq_St)) (rec : Int → Int → wq_St → Option (Int × wq_St)) (j3 : Int) (j7 : Int) (j8 : Int) (z0 : Int) (S : wq_St) : Option (Int × wq_St) :=
  j_L_law_928 X LL kx rec j3 z0 j7 j8 S
def j_L_law_337 (X : Nat → Int) (LL : Nat) (kx : Int → wq_St → Option (Int × wq_St)) (rec : Int → Int → wq_St → Option (Int × wq_St)) (j3 : Int) (j7 : Int) (j8 : Int) (z0 : Int) (S : wq_St) : Option (Int × wq_St) :=
  j_L_law_928 X LL kx rec j3 z0 j7 j8 S
def j_L_law_314 (X : Nat → Int) (LL : Nat) (kx : Int → wq_St → Option (Int × wq_St)) (rec : Int → Int → wq_St → Option (Int × wq_St)) (j3 : Int) (j7 : Int) (j8 : Int) (j11 : Int) (j14 : Int) (j15 : Int) (j16 : Int) (z0 : Int) (z1 : Int) (z2 : Int) (z3 : Int) (S : wq_St) : Option (Int × wq_St) :=
  wq_bd (f_L_insert z3 z2 z1 z0 (wq_clt S)) fun r103 S104 =>
  wq_lt (wq_emb 284 284 S S104) fun S105 =>
  wq_bd (f_L_insert j11 j14 j15 j16 (wq_cls S105)) fun r106 S107 =>
  wq_lt (wq_emb 0 284 S105 S107) fun S108 =>
  if wq_w r103 = wq_w r106 then
    j_L_law_337 X LL kx rec j3 j7 j8 1 S108
  else
    j_L_law_337 X LL kx rec j3 j7 j8 0 S108
def j_L_law_297 (X : Nat → Int) (LL : Nat) (kx : Int → wq_St → Option (Int × wq_St)) (rec : Int → Int → wq_St → Option (Int × wq_St)) (j3 : Int) (j7 : Int) (j8 : Int) (j11 : Int) (j14 : Int) (j15 : Int) (j16 : Int) (z0 : Int) (z1 : Int) (z2 : Int) (S : wq_St) : Option (Int × wq_St) :=
  wq_ix j11 3 fun t102 =>
  if wq_w (S 568 t102) ≤ wq_w 2 then
    j_L_law_314 X LL kx rec j3 j7 j8 j11 j14 j15 j16 0 z0 z1 z2 S
  else
    j_L_law_314 X LL kx rec j3 j7 j8 j11 j14 j15 j16 (j16 + j3) z0 z1 z2 S
def j_L_law_271 (X : Nat → Int) (LL : Nat) (kx : Int → wq_St → Option (Int × wq_St)) (rec : Int → Int → wq_St → Option (Int × wq_St)) (j3 : Int) (j7 : Int) (j8 : Int) (j11 : Int) (j14 : Int) (j15 : Int) (z0 : Int) (S : wq_St) : Option (Int × wq_St) :=
  wq_ix j11 3 fun t101 =>
  if wq_w (S 568 t101) ≤ wq_w 1 then
    j_L_law_297 X LL kx rec j3 j7 j8 j11 j14 j15 z0 0 (j14 + j3) j11 S
  else
    j_L_law_297 X LL kx rec j3 j7 j8 j11 j14 j15 z0 (j15 + j3) (j14 + j3) j11 S
def j_L_law_248 (X : Nat → Int) (LL : Nat) (kx : Int → wq_St → Option (Int × wq_St)) (rec : Int → Int → wq_St → Option (Int × wq_St)) (j3 : Int) (j7 : Int) (j8 : Int) (j10 : Int) (j11 : Int) (j14 : Int) (z0 : Int) (S : wq_St) : Option (Int × wq_St) :=
  wq_ix j11 3 fun t100 =>
  if wq_w (S 568 t100) ≤ wq_w 2 then
    j_L_law_271 X LL kx rec j3 j7 j8 j11 j14 z0 0 S
  else
    wq_gd (¬ wq_w 11 = 0) <|
    wq_gd (¬ wq_w 6 = 0) <|
    j_L_law_271 X LL kx rec j3 j7 j8 j11 j14 z0 (wq_rem (wq_div j10 11) 6) S
def j_L_law_208 (X : Nat → Int) (LL : Nat) (kx : Int → wq_St → Option (Int × wq_St)) (rec : Int → Int → wq_St → Option (Int × wq_St)) (j3 : Int) (j7 : Int) (j8 : Int) (j9 : Int) (j10 : Int) (j11 : Int) (j12 : Int) (z0 : Int) (S : wq_St) : Option (Int × wq_St) :=
  if wq_w 10 ≤ wq_w j9 then
    if wq_w j9 = wq_w 10 then
      wq_gd (¬ wq_w 3 = 0) <|
      wq_gd (¬ wq_w 12 = 0) <|
      wq_bd (f_L_does 0 j11 (wq_rem (wq_div j10 3) 12) (wq_cls S)) fun r92 S93 =>
      wq_lt (wq_emb 0 284 S S93) fun S94 =>
      wq_gd (¬ wq_w 3 = 0) <|
      wq_gd (¬ wq_w 12 = 0) <|
      wq_bd (f_L_does 0 j11 (wq_rem (wq_div j10 3) 12) (wq_clt S94)) fun r95 S96 =>
      wq_lt (wq_emb 284 284 S94 S96) fun S97 =>
      if wq_w r92 = wq_w r95 then
        j_L_law_385 X LL kx rec j3 j7 j8 1 S97
      else
        j_L_law_385 X LL kx rec j3 j7 j8 0 S97
    else
      if wq_w 13 ≤ wq_w j9 then
        if wq_w 16 ≤ wq_w j9 then
          if wq_w j9 = wq_w 16 then
            wq_gd (¬ wq_w 4 = 0) <|
            wq_bd (f_L_add 2 (1 + (wq_rem j10 4)) (wq_cls S)) fun r74 S75 =>
            wq_lt (wq_emb 0 284 S S75) fun S76 =>
            wq_gd (¬ wq_w 4 = 0) <|
            wq_bd (f_L_add 2 (1 + (wq_rem j10 4)) (wq_clt S76)) fun r77 S78 =>
            wq_lt (wq_emb 284 284 S76 S78) fun S79 =>
            if wq_w r74 = wq_w r77 then
              j_L_law_531 X LL kx rec j3 j7 j8 1 S79
            else
              j_L_law_531 X LL kx rec j3 j7 j8 0 S79
          else
            if wq_w 21 ≤ wq_w j9 then
              if wq_w 23 ≤ wq_w j9 then
                if wq_w 27 ≤ wq_w j9 then
                  if wq_w 34 ≤ wq_w j9 then
                    if wq_w j9 = wq_w 34 then
                      wq_bd (f_L_add 4 z0 (wq_cls S)) fun r41 S42 =>
                      wq_lt (wq_emb 0 284 S S42) fun S43 =>
                      wq_bd (f_L_add 4 z0 (wq_clt S43)) fun r44 S45 =>
                      wq_lt (wq_emb 284 284 S43 S45) fun S46 =>
                      if wq_w r41 = wq_w r44 then
                        j_L_law_817 X LL kx rec j3 j7 j8 1 S46
                      else
                        j_L_law_817 X LL kx rec j3 j7 j8 0 S46
                    else
                      if wq_w 37 ≤ wq_w j9 then
                        wq_gd (¬ wq_w 81 = 0) <|
                        wq_gd (¬ wq_w 2 = 0) <|
                        wq_bd (f_L_does (3 + (wq_rem (wq_div j10 81) 2)) z0 0 (wq_cls S)) fun r23 S24 =>
                        wq_lt (wq_emb 0 284 S S24) fun S25 =>
                        wq_gd (¬ wq_w 81 = 0) <|
                        wq_gd (¬ wq_w 2 = 0) <|
                        wq_bd (f_L_does (3 + (wq_rem (wq_div j10 81) 2)) z0 0 (wq_clt S25)) fun r26 S27 =>
                        wq_lt (wq_emb 284 284 S25 S27) fun S28 =>
                        if wq_w r23 = wq_w r26 then
                          j_L_law_926 X LL kx rec j3 j7 j8 1 S28
                        else
                          j_L_law_926 X LL kx rec j3 j7 j8 0 S28
                      else
                        wq_bd (f_L_sums z0 j11 j12 (wq_cls S)) fun r32 S33 =>
                        wq_lt (wq_emb 0 284 S S33) fun S34 =>
                        wq_ix 1 2 fun t35 =>
                        if wq_w r32 = 0 then
                          j_L_law_859 X LL kx rec j3 j7 j8 j11 j12 z0 r32 0 (S34 569 t35) 1 S34
                        else
                          j_L_law_859 X LL kx rec j3 j7 j8 j11 j12 z0 r32 (wq_shl 1 z0) (S34 569 t35) 1 S34
                  else
                    wq_gd (¬ wq_w 81 = 0) <|
                    wq_gd (¬ wq_w 4 = 0) <|
                    if wq_w (wq_rem (wq_div j10 81) 4) = wq_w 3 then
                      wq_gd (¬ wq_w 324 = 0) <|
                      wq_gd (¬ wq_w 3 = 0) <|
                      j_L_law_716 X LL kx rec j3 j7 j8 j10 j11 j12 z0 (wq_rem (wq_div j10 81) 4) (wq_rem (wq_div j10 324) 3) S
                    else
                      wq_gd (¬ wq_w 324 = 0) <|
                      wq_gd (¬ wq_w 500 = 0) <|
                      j_L_law_716 X LL kx rec j3 j7 j8 j10 j11 j12 z0 (wq_rem (wq_div j10 81) 4) (wq_rem (wq_div j10 324) 500) S
                else
                  wq_bd (f_L_does 2 z0 j11 (wq_cls S)) fun r53 S54 =>
                  wq_lt (wq_emb 0 284 S S54) fun S55 =>
                  wq_bd (f_L_does 2 z0 j11 (wq_clt S55)) fun r56 S57 =>
                  wq_lt (wq_emb 284 284 S55 S57) fun S58 =>
                  if wq_w r53 = wq_w r56 then
                    j_L_law_668 X LL kx rec j3 j7 j8 1 S58
                  else
                    j_L_law_668 X LL kx rec j3 j7 j8 0 S58
              else
                wq_gd (¬ wq_w 5 = 0) <|
                wq_bd (f_L_add 1 (wq_rem j10 5) (wq_cls S)) fun r59 S60 =>
                wq_lt (wq_emb 0 284 S S60) fun S61 =>
                wq_ix 0 2 fun t62 =>
                if wq_w r59 < 0 then
                  j_L_law_609 X LL kx rec j3 j7 j8 j10 r59 0 (S61 569 t62) 0 S61
                else
                  j_L_law_609 X LL kx rec j3 j7 j8 j10 r59 1 (S61 569 t62) 0 S61
            else
              wq_gd (¬ wq_w 40 = 0) <|
              wq_bd (f_L_add 3 (wq_rem j10 40) (wq_cls S)) fun r68 S69 =>
              wq_lt (wq_emb 0 284 S S69) fun S70 =>
              wq_gd (¬ wq_w 40 = 0) <|
              wq_bd (f_L_add 3 (wq_rem j10 40) (wq_clt S70)) fun r71 S72 =>
              wq_lt (wq_emb 284 284 S70 S72) fun S73 =>
              if wq_w r68 = wq_w r71 then
                j_L_law_571 X LL kx rec j3 j7 j8 1 S73
              else
                j_L_law_571 X LL kx rec j3 j7 j8 0 S73
        else
          wq_gd (¬ wq_w 3 = 0) <|
          wq_gd (¬ wq_w 4 = 0) <|
          wq_bd (f_L_does 1 j11 (1 + (wq_rem (wq_div j10 3) 4)) (wq_cls S)) fun r80 S81 =>
          wq_lt (wq_emb 0 284 S S81) fun S82 =>
          wq_gd (¬ wq_w 3 = 0) <|
          wq_gd (¬ wq_w 4 = 0) <|
          wq_bd (f_L_does 1 j11 (1 + (wq_rem (wq_div j10 3) 4)) (wq_clt S82)) fun r83 S84 =>
          wq_lt (wq_emb 284 284 S82 S84) fun S85 =>
          if wq_w r80 = wq_w r83 then
            j_L_law_489 X LL kx rec j3 j7 j8 1 S85
          else
            j_L_law_489 X LL kx rec j3 j7 j8 0 S85
      else
        wq_gd (¬ wq_w 9 = 0) <|
        wq_gd (¬ wq_w 2 = 0) <|
        wq_bd (f_L_does (5 + (wq_rem (wq_div j10 9) 2)) j11 j12 (wq_cls S)) fun r86 S87 =>
        wq_lt (wq_emb 0 284 S S87) fun S88 =>
        wq_gd (¬ wq_w 9 = 0) <|
        wq_gd (¬ wq_w 2 = 0) <|
        wq_bd (f_L_does (5 + (wq_rem (wq_div j10 9) 2)) j11 j12 (wq_clt S88)) fun r89 S90 =>
        wq_lt (wq_emb 284 284 S88 S90) fun S91 =>
        if wq_w r86 = wq_w r89 then
          j_L_law_439 X LL kx rec j3 j7 j8 1 S91
        else
          j_L_law_439 X LL kx rec j3 j7 j8 0 S91
  else
    wq_gd (¬ wq_w 3 = 0) <|
    wq_gd (¬ wq_w 500 = 0) <|
    wq_lt (wq_rem (wq_div j10 3) 500) fun a98 =>
    wq_ix j11 3 fun t99 =>
    if wq_w (S 568 t99) ≤ wq_w 1 then
      j_L_law_248 X LL kx rec j3 j7 j8 j10 j11 a98 0 S
    else
      wq_gd (¬ wq_w 7 = 0) <|
      wq_gd (¬ wq_w 6 = 0) <|
      j_L_law_248 X LL kx rec j3 j7 j8 j10 j11 a98 (wq_rem (wq_div j10 7) 6) S
def b_L_law_119 (X : Nat → Int) (LL : Nat) (c3 : Int) (kx : Int → wq_St → Option (Int × wq_St)) (rec : Int → Int → wq_St → Option (Int × wq_St)) (y6 : Int) (y7 : Int) (S : wq_St) : Option (Int × wq_St) :=
  if wq_w 120 ≤ wq_w y7 then
    kx y6 S
  else
    if wq_w y6 = 0 then
      kx y6 S
    else
      wq_gd (¬ wq_w 60 = 0) <|
      wq_bd (f_L_drawn X LL (wq_rem y7 60) S) fun r16 _ =>
      wq_gd (¬ wq_w 60 = 0) <|
      wq_gd (¬ wq_w (1 + (wq_div y7 60)) = 0) <|
      wq_gd (¬ wq_w 60 = 0) <|
      wq_lt ((wq_div r16 (1 + (wq_div y7 60))) + (7 * (wq_div y7 60))) fun a19 =>
      wq_gd (¬ wq_w 40 = 0) <|
      wq_gd (¬ wq_w 40 = 0) <|
      wq_gd (¬ wq_w 3 = 0) <|
      wq_gd (¬ wq_w 3 = 0) <|
      wq_gd (¬ wq_w 3 = 0) <|
      wq_lt (wq_rem (wq_div (wq_div a19 40) 3) 3) fun a20 =>
      wq_ix 0 2 fun t21 =>
      if wq_w (S 569 t21) = 0 then
        j_L_law_208 X LL kx rec c3 y7 a19 (wq_rem a19 40) (wq_div a19 40) (wq_rem (wq_div a19 40) 3) a20 0 S
      else
        wq_gd (¬ wq_w 9 = 0) <|
        wq_ix 0 2 fun t22 =>
        wq_gd (¬ wq_w (S 569 t22) = 0) <|
        j_L_law_208 X LL kx rec c3 y7 a19 (wq_rem a19 40) (wq_div a19 40) (wq_rem (wq_div a19 40) 3) a20 (wq_rem (wq_div (wq_div a19 40) 9) (S 569 t22)) S
def l_L_law_119 (X : Nat → Int) (LL : Nat) (c3 : Int) (kx : Int → wq_St → Option (Int × wq_St)) (n : Nat) (y6 : Int) (y7 : Int) (S : wq_St) : Option (Int × wq_St) :=
  wq_loop (fun (g : Int × Int × wq_St → Option (Int × wq_St)) (x : Int × Int × wq_St) => b_L_law_119 X LL c3 kx (fun y6 y7 S => g (y6, y7, S)) x.1 x.2.1 x.2.2) n (y6, y7, S)
theorem l_L_law_119_s (X : Nat → Int) (LL : Nat) (c3 : Int) (kx : Int → wq_St → Option (Int × wq_St)) (n : Nat) (y6 : Int) (y7 : Int) (S : wq_St) : l_L_law_119 X LL c3 kx (n + 1) y6 y7 S = b_L_law_119 X LL c3 kx (l_L_law_119 X LL c3 kx n) y6 y7 S := rfl
theorem l_L_law_119_0 (X : Nat → Int) (LL : Nat) (c3 : Int) (kx : Int → wq_St → Option (Int × wq_St)) (y6 : Int) (y7 : Int) (S : wq_St) : l_L_law_119 X LL c3 kx 0 y6 y7 S = none := rfl
def f_L_law (X : Nat → Int) (LL : Nat) (kx : Int → wq_St → Option (Int × wq_St)) (c3 y6 y7 : Int) (S : wq_St) : Option (Int × wq_St) :=
  l_L_law_44 X LL c3 (fun u14 S15 =>
    l_L_law_119 X LL c3 (fun u109 S110 =>
      kx u109 S110) 121 u14 1 S15) 4 y6 y7 S
