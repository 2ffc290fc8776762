theorem lk_L_127 : wq_LkW "WharfQueryLaw" 127 yL_addTable cL_addTable 4 ((Option.some Jvm.ClassFile.FieldType.int)) [(0, 9, 12, 13), (0, 9, 15, 15)] 3 := ⟨aw_428, aw_429, aw_55, aw_430, by decide +kernel⟩
theorem lk_L_137 : wq_LkW "WharfQueryLaw" 137 yL_insert cL_insert 7 ((Option.some Jvm.ClassFile.FieldType.int)) [(0, 14, 17, 21), (0, 14, 21, 13), (0, 14, 25, 15)] 6 := ⟨aw_521, aw_522, aw_55, aw_523, by decide +kernel⟩
theorem lk_L_141 : wq_LkW "WharfQueryLaw" 141 yL_delete cL_delete 5 ((Option.some Jvm.ClassFile.FieldType.int)) [(0, 10, 13, 21)] 4 := ⟨aw_559, aw_560, aw_55, aw_561, by decide +kernel⟩
theorem lk_L_145 : wq_LkW "WharfQueryLaw" 145 yL_setIndex cL_setIndex 6 ((Option.some Jvm.ClassFile.FieldType.int)) [(0, 19, 22, 21)] 5 := ⟨aw_570, aw_571, aw_55, aw_572, by decide +kernel⟩
theorem lk_L_149 : wq_LkW "WharfQueryLaw" 149 yL_rows cL_rows 4 ((Option.some Jvm.ClassFile.FieldType.int)) [(0, 9, 12, 21)] 3 := ⟨aw_585, aw_586, aw_55, aw_587, by decide +kernel⟩
theorem lk_L_152 : wq_LkW "WharfQueryLaw" 152 yL_value cL_value 6 ((Option.some Jvm.ClassFile.FieldType.int)) [(0, 12, 15, 21)] 5 := ⟨aw_592, aw_593, aw_55, aw_594, by decide +kernel⟩
theorem lk_L_156 : wq_LkW "WharfQueryLaw" 156 yL_renew cL_renew 5 ((Option.some Jvm.ClassFile.FieldType.int)) [(0, 10, 13, 21), (0, 10, 17, 13)] 4 := ⟨aw_599, aw_600, aw_55, aw_601, by decide +kernel⟩
theorem lk_L_159 : wq_LkW "WharfQueryLaw" 159 yL_setStep cL_setStep 4 ((Option.some Jvm.ClassFile.FieldType.int)) [(0, 9, 12, 13)] 3 := ⟨aw_629, aw_630, aw_55, aw_631, by decide +kernel⟩
theorem lk_L_162 : wq_LkW "WharfQueryLaw" 162 yL_toldRows cL_toldRows 4 ((Option.some Jvm.ClassFile.FieldType.int)) [(0, 9, 12, 21)] 3 := ⟨aw_636, aw_637, aw_55, aw_638, by decide +kernel⟩
theorem lk_L_165 : wq_LkW "WharfQueryLaw" 165 yL_unlike cL_unlike 5 ((Option.some Jvm.ClassFile.FieldType.int)) [(0, 10, 13, 21)] 4 := ⟨aw_643, aw_644, aw_55, aw_645, by decide +kernel⟩
theorem lk_L_168 : wq_LkW "WharfQueryLaw" 168 yL_least cL_least 5 ((Option.some Jvm.ClassFile.FieldType.int)) [(0, 10, 13, 21)] 4 := ⟨aw_650, aw_651, aw_55, aw_652, by decide +kernel⟩
theorem lk_L_171 : wq_LkW "WharfQueryLaw" 171 yL_greatest cL_greatest 5 ((Option.some Jvm.ClassFile.FieldType.int)) [(0, 10, 13, 21)] 4 := ⟨aw_657, aw_658, aw_55, aw_659, by decide +kernel⟩
theorem lk_L_174 : wq_LkW "WharfQueryLaw" 174 yL_isMarked cL_isMarked 4 ((Option.some Jvm.ClassFile.FieldType.int)) [(0, 16, 19, 21)] 3 := ⟨aw_664, aw_665, aw_55, aw_666, by decide +kernel⟩
theorem lk_L_177 : wq_LkW "WharfQueryLaw" 177 yL_addReport cL_addReport 4 ((Option.some Jvm.ClassFile.FieldType.int)) [(0, 9, 12, 13), (0, 9, 15, 15)] 3 := ⟨aw_671, aw_672, aw_55, aw_673, by decide +kernel⟩
theorem lk_L_180 : wq_LkW "WharfQueryLaw" 180 yL_addSource cL_addSource 5 ((Option.some Jvm.ClassFile.FieldType.int)) [(0, 10, 13, 21), (0, 10, 17, 15)] 4 := ⟨aw_680, aw_681, aw_55, aw_682, by decide +kernel⟩
theorem lk_L_183 : wq_LkW "WharfQueryLaw" 183 yL_addCondition cL_addCondition 8 ((Option.some Jvm.ClassFile.FieldType.int)) [(0, 16, 19, 21), (0, 16, 23, 13), (0, 16, 27, 15)] 7 := ⟨aw_693, aw_694, aw_55, aw_695, by decide +kernel⟩
theorem lk_L_187 : wq_LkW "WharfQueryLaw" 187 yL_addJoin cL_addJoin 8 ((Option.some Jvm.ClassFile.FieldType.int)) [(0, 16, 19, 21), (0, 16, 23, 13), (0, 16, 27, 15)] 7 := ⟨aw_715, aw_716, aw_55, aw_717, by decide +kernel⟩
theorem lk_L_190 : wq_LkW "WharfQueryLaw" 190 yL_dropCondition cL_dropCondition 4 ((Option.some Jvm.ClassFile.FieldType.int)) [(0, 9, 12, 21), (0, 9, 15, 15)] 3 := ⟨aw_727, aw_728, aw_55, aw_729, by decide +kernel⟩
theorem lk_L_193 : wq_LkW "WharfQueryLaw" 193 yL_setSum cL_setSum 5 ((Option.some Jvm.ClassFile.FieldType.int)) [(0, 7, 10, 21)] 4 := ⟨aw_735, aw_736, aw_55, aw_737, by decide +kernel⟩
theorem lk_L_197 : wq_LkW "WharfQueryLaw" 197 yL_setDue cL_setDue 5 ((Option.some Jvm.ClassFile.FieldType.int)) [(0, 17, 20, 21)] 4 := ⟨aw_742, aw_743, aw_55, aw_744, by decide +kernel⟩
theorem lk_L_201 : wq_LkW "WharfQueryLaw" 201 yL_isDue cL_isDue 4 ((Option.some Jvm.ClassFile.FieldType.int)) [(0, 16, 19, 21)] 3 := ⟨aw_749, aw_750, aw_55, aw_751, by decide +kernel⟩
theorem lk_L_204 : wq_LkW "WharfQueryLaw" 204 yL_planSource cL_planSource 5 ((Option.some Jvm.ClassFile.FieldType.int)) [(0, 10, 13, 21)] 4 := ⟨aw_756, aw_757, aw_55, aw_758, by decide +kernel⟩
theorem lk_L_207 : wq_LkW "WharfQueryLaw" 207 yL_planWay cL_planWay 5 ((Option.some Jvm.ClassFile.FieldType.int)) [(0, 10, 13, 21)] 4 := ⟨aw_820, aw_821, aw_55, aw_822, by decide +kernel⟩
theorem lk_L_210 : wq_LkW "WharfQueryLaw" 210 yL_foretold cL_foretold 4 ((Option.some Jvm.ClassFile.FieldType.int)) [(0, 9, 12, 21)] 3 := ⟨aw_827, aw_828, aw_55, aw_829, by decide +kernel⟩
theorem lk_L_213 : wq_LkW "WharfQueryLaw" 213 yL_minutes cL_minutes 4 ((Option.some Jvm.ClassFile.FieldType.int)) [(0, 9, 12, 21)] 3 := ⟨aw_839, aw_840, aw_55, aw_841, by decide +kernel⟩
theorem lk_L_216 : wq_LkW "WharfQueryLaw" 216 yL_answer cL_answer 4 ((Option.some Jvm.ClassFile.FieldType.int)) [(0, 9, 12, 21)] 3 := ⟨aw_879, aw_880, aw_55, aw_881, by decide +kernel⟩
theorem lk_L_219 : wq_LkW "WharfQueryLaw" 219 yL_sum cL_sum 4 ((Option.some Jvm.ClassFile.FieldType.int)) [(0, 9, 12, 21)] 3 := ⟨aw_886, aw_887, aw_55, aw_888, by decide +kernel⟩
theorem lk_L_222 : wq_LkW "WharfQueryLaw" 222 yL_plainAnswer cL_plainAnswer 4 ((Option.some Jvm.ClassFile.FieldType.int)) [(0, 9, 12, 21)] 3 := ⟨aw_893, aw_894, aw_55, aw_895, by decide +kernel⟩
theorem lk_L_225 : wq_LkW "WharfQueryLaw" 225 yL_plainSum cL_plainSum 4 ((Option.some Jvm.ClassFile.FieldType.int)) [(0, 9, 12, 21)] 3 := ⟨aw_909, aw_910, aw_55, aw_911, by decide +kernel⟩
theorem lk_L_228 : wq_LkW "WharfQueryLaw" 228 yL_night cL_night 4 ((Option.some Jvm.ClassFile.FieldType.int)) [(0, 9, 12, 13), (0, 9, 15, 15)] 3 := ⟨aw_916, aw_917, aw_55, aw_918, by decide +kernel⟩
theorem lk_L_247 : wq_LkW "WharfQueryLaw" 247 yL_kept cL_kept 4 ((Option.some Jvm.ClassFile.FieldType.int)) [(0, 9, 12, 21)] 3 := ⟨aw_954, aw_955, aw_55, aw_956, by decide +kernel⟩
theorem lk_L_250 : wq_LkW "WharfQueryLaw" 250 yL_keptSum cL_keptSum 4 ((Option.some Jvm.ClassFile.FieldType.int)) [(0, 9, 12, 21)] 3 := ⟨aw_961, aw_962, aw_55, aw_963, by decide +kernel⟩
theorem lk_L_253 : wq_LkW "WharfQueryLaw" 253 yL_keptIn cL_keptIn 4 ((Option.some Jvm.ClassFile.FieldType.int)) [(0, 9, 12, 21)] 3 := ⟨aw_968, aw_969, aw_55, aw_970, by decide +kernel⟩
def f_L_addTable (x1 : Int) (S : wq_St) : Option (Int × wq_St) :=
  wq_bh (f_X8_addTable x1 (wq_cls S)) (fun r1 S2 =>
  wq_lt (wq_emb 0 284 S S2) fun S3 =>
    wq_ix 0 1 fun t4 =>
    some (0, wq_set S3 316 t4 (wq_w r1))) (fun n6 S2 =>
    if n6 = 2 then
      wq_lt (wq_emb 0 284 S S2) fun S5 =>
      some (1, S5)
    else
      if n6 = 3 then
        wq_lt (wq_emb 0 284 S S2) fun S5 =>
        some (2, S5)
      else
        none)
def f_L_insert (x1 : Int) (x2 : Int) (x3 : Int) (x4 : Int) (S : wq_St) : Option (Int × wq_St) :=
  wq_bh (f_X8_insert x1 x2 x3 x4 (wq_cls S)) (fun r1 S2 =>
  wq_lt (wq_emb 0 284 S S2) fun S3 =>
    wq_ix 0 1 fun t4 =>
    some (0, wq_set S3 316 t4 (wq_w r1))) (fun n6 S2 =>
    if n6 = 1 then
      wq_lt (wq_emb 0 284 S S2) fun S5 =>
      some (1, S5)
    else
      if n6 = 2 then
        wq_lt (wq_emb 0 284 S S2) fun S5 =>
        some (2, S5)
      else
        if n6 = 3 then
          wq_lt (wq_emb 0 284 S S2) fun S5 =>
          some (3, S5)
        else
          none)
def f_L_delete (x1 : Int) (x2 : Int) (S : wq_St) : Option (Int × wq_St) :=
  wq_bh (f_X8_delete x1 x2 (wq_cls S)) (fun r1 S2 =>
  wq_lt (wq_emb 0 284 S S2) fun S3 =>
    wq_ix 0 1 fun t4 =>
    some (0, wq_set S3 316 t4 (wq_w r1))) (fun n6 S2 =>
    if n6 = 1 then
      wq_lt (wq_emb 0 284 S S2) fun S5 =>
      some (1, S5)
    else
      none)
def f_L_setIndex (x1 : Int) (x2 : Int) (x3 : Int) (S : wq_St) : Option (Int × wq_St) :=
  wq_bh (f_X8_setIndex x1 x2 x3 (wq_cls S)) (fun r1 S2 =>
  wq_lt (wq_emb 0 284 S S2) fun S3 =>
    if wq_w r1 = 0 then
      wq_ix 0 1 fun t4 =>
      some (0, wq_set S3 316 t4 0)
    else
      wq_ix 0 1 fun t5 =>
      some (0, wq_set S3 316 t5 1)) (fun n7 S2 =>
    if n7 = 1 then
      wq_lt (wq_emb 0 284 S S2) fun S6 =>
      some (1, S6)
    else
      none)
def f_L_rows (x1 : Int) (S : wq_St) : Option (Int × wq_St) :=
  wq_bh (f_X8_rows x1 (wq_cls S)) (fun r1 S2 =>
  wq_lt (wq_emb 0 284 S S2) fun S3 =>
    wq_ix 0 1 fun t4 =>
    some (0, wq_set S3 316 t4 (wq_w r1))) (fun n6 S2 =>
    if n6 = 1 then
      wq_lt (wq_emb 0 284 S S2) fun S5 =>
      some (1, S5)
    else
      none)
def f_L_value (x1 : Int) (x2 : Int) (x3 : Int) (S : wq_St) : Option (Int × wq_St) :=
  wq_bh (f_X8_value x1 x2 x3 (wq_cls S)) (fun r1 S2 =>
  wq_lt (wq_emb 0 284 S S2) fun S3 =>
    wq_ix 0 1 fun t4 =>
    some (0, wq_set S3 316 t4 (wq_w r1))) (fun n6 S2 =>
    if n6 = 1 then
      wq_lt (wq_emb 0 284 S S2) fun S5 =>
      some (1, S5)
    else
      none)
def f_L_renew (x1 : Int) (x2 : Int) (S : wq_St) : Option (Int × wq_St) :=
  wq_bh (f_X8_renew x1 x2 (wq_cls S)) (fun r1 S2 =>
  wq_lt (wq_emb 0 284 S S2) fun S3 =>
    wq_ix 0 1 fun t4 =>
    some (0, wq_set S3 316 t4 (wq_w r1))) (fun n6 S2 =>
    if n6 = 1 then
      wq_lt (wq_emb 0 284 S S2) fun S5 =>
      some (1, S5)
    else
      if n6 = 2 then
        wq_lt (wq_emb 0 284 S S2) fun S5 =>
        some (2, S5)
      else
        none)
def f_L_setStep (x1 : Int) (S : wq_St) : Option (Int × wq_St) :=
  wq_bh (f_X8_setStep x1 (wq_cls S)) (fun r1 S2 =>
  wq_lt (wq_emb 0 284 S S2) fun S3 =>
    wq_ix 0 1 fun t4 =>
    some (0, wq_set S3 316 t4 (wq_w r1))) (fun n6 S2 =>
    if n6 = 2 then
      wq_lt (wq_emb 0 284 S S2) fun S5 =>
      some (1, S5)
    else
      none)
def f_L_toldRows (x1 : Int) (S : wq_St) : Option (Int × wq_St) :=
  wq_bh (f_X8_toldRows x1 (wq_cls S)) (fun r1 S2 =>
  wq_lt (wq_emb 0 284 S S2) fun S3 =>
    wq_ix 0 1 fun t4 =>
    some (0, wq_set S3 316 t4 (wq_w r1))) (fun n6 S2 =>
    if n6 = 1 then
      wq_lt (wq_emb 0 284 S S2) fun S5 =>
      some (1, S5)
    else
      none)
def f_L_unlike (x1 : Int) (x2 : Int) (S : wq_St) : Option (Int × wq_St) :=
  wq_bh (f_X8_unlike x1 x2 (wq_cls S)) (fun r1 S2 =>
  wq_lt (wq_emb 0 284 S S2) fun S3 =>
    wq_ix 0 1 fun t4 =>
    some (0, wq_set S3 316 t4 (wq_w r1))) (fun n6 S2 =>
    if n6 = 1 then
      wq_lt (wq_emb 0 284 S S2) fun S5 =>
      some (1, S5)
    else
      none)
def f_L_least (x1 : Int) (x2 : Int) (S : wq_St) : Option (Int × wq_St) :=
  wq_bh (f_X8_least x1 x2 (wq_cls S)) (fun r1 S2 =>
  wq_lt (wq_emb 0 284 S S2) fun S3 =>
    wq_ix 0 1 fun t4 =>
    some (0, wq_set S3 316 t4 (wq_w r1))) (fun n6 S2 =>
    if n6 = 1 then
      wq_lt (wq_emb 0 284 S S2) fun S5 =>
      some (1, S5)
    else
      none)
def f_L_greatest (x1 : Int) (x2 : Int) (S : wq_St) : Option (Int × wq_St) :=
  wq_bh (f_X8_greatest x1 x2 (wq_cls S)) (fun r1 S2 =>
  wq_lt (wq_emb 0 284 S S2) fun S3 =>
    wq_ix 0 1 fun t4 =>
    some (0, wq_set S3 316 t4 (wq_w r1))) (fun n6 S2 =>
    if n6 = 1 then
      wq_lt (wq_emb 0 284 S S2) fun S5 =>
      some (1, S5)
    else
      none)
def f_L_isMarked (x1 : Int) (S : wq_St) : Option (Int × wq_St) :=
  wq_bh (f_X8_isMarked x1 (wq_cls S)) (fun r1 S2 =>
  wq_lt (wq_emb 0 284 S S2) fun S3 =>
    if wq_w r1 = 0 then
      wq_ix 0 1 fun t4 =>
      some (0, wq_set S3 316 t4 0)
    else
      wq_ix 0 1 fun t5 =>
      some (0, wq_set S3 316 t5 1)) (fun n7 S2 =>
    if n7 = 1 then
      wq_lt (wq_emb 0 284 S S2) fun S6 =>
      some (1, S6)
    else
      none)
def f_L_addReport (x1 : Int) (S : wq_St) : Option (Int × wq_St) :=
  wq_bh (f_X8_addReport x1 (wq_cls S)) (fun r1 S2 =>
  wq_lt (wq_emb 0 284 S S2) fun S3 =>
    wq_ix 0 1 fun t4 =>
    some (0, wq_set S3 316 t4 (wq_w r1))) (fun n6 S2 =>
    if n6 = 2 then
      wq_lt (wq_emb 0 284 S S2) fun S5 =>
      some (1, S5)
    else
      if n6 = 3 then
        wq_lt (wq_emb 0 284 S S2) fun S5 =>
        some (2, S5)
      else
        none)
def f_L_addSource (x1 : Int) (x2 : Int) (S : wq_St) : Option (Int × wq_St) :=
  wq_bh (f_X8_addSource x1 x2 (wq_cls S)) (fun r1 S2 =>
  wq_lt (wq_emb 0 284 S S2) fun S3 =>
    wq_ix 0 1 fun t4 =>
    some (0, wq_set S3 316 t4 (wq_w r1))) (fun n6 S2 =>
    if n6 = 1 then
      wq_lt (wq_emb 0 284 S S2) fun S5 =>
      some (1, S5)
    else
      if n6 = 3 then
        wq_lt (wq_emb 0 284 S S2) fun S5 =>
        some (2, S5)
      else
        none)
def f_L_addCondition (x1 : Int) (x2 : Int) (x3 : Int) (x4 : Int) (x5 : Int) (S : wq_St) : Option (Int × wq_St) :=
  wq_bh (f_X8_addCondition x1 x2 x3 x4 x5 (wq_cls S)) (fun r1 S2 =>
  wq_lt (wq_emb 0 284 S S2) fun S3 =>
    wq_ix 0 1 fun t4 =>
    some (0, wq_set S3 316 t4 (wq_w r1))) (fun n6 S2 =>
    if n6 = 1 then
      wq_lt (wq_emb 0 284 S S2) fun S5 =>
      some (1, S5)
    else
      if n6 = 2 then
        wq_lt (wq_emb 0 284 S S2) fun S5 =>
        some (2, S5)
      else
        if n6 = 3 then
          wq_lt (wq_emb 0 284 S S2) fun S5 =>
          some (3, S5)
        else
          none)
def f_L_addJoin (x1 : Int) (x2 : Int) (x3 : Int) (x4 : Int) (x5 : Int) (S : wq_St) : Option (Int × wq_St) :=
  wq_bh (f_X8_addJoin x1 x2 x3 x4 x5 (wq_cls S)) (fun r1 S2 =>
  wq_lt (wq_emb 0 284 S S2) fun S3 =>
    wq_ix 0 1 fun t4 =>
    some (0, wq_set S3 316 t4 (wq_w r1))) (fun n6 S2 =>
    if n6 = 1 then
      wq_lt (wq_emb 0 284 S S2) fun S5 =>
      some (1, S5)
    else
      if n6 = 2 then
        wq_lt (wq_emb 0 284 S S2) fun S5 =>
        some (2, S5)
      else
        if n6 = 3 then
          wq_lt (wq_emb 0 284 S S2) fun S5 =>
          some (3, S5)
        else
          none)
def f_L_dropCondition (x1 : Int) (S : wq_St) : Option (Int × wq_St) :=
  wq_bh (f_X8_dropCondition x1 (wq_cls S)) (fun r1 S2 =>
  wq_lt (wq_emb 0 284 S S2) fun S3 =>
    wq_ix 0 1 fun t4 =>
    some (0, wq_set S3 316 t4 (wq_w r1))) (fun n6 S2 =>
    if n6 = 1 then
      wq_lt (wq_emb 0 284 S S2) fun S5 =>
      some (1, S5)
    else
      if n6 = 3 then
        wq_lt (wq_emb 0 284 S S2) fun S5 =>
        some (2, S5)
      else
        none)
def f_L_setSum (x1 : Int) (x2 : Int) (x3 : Int) (S : wq_St) : Option (Int × wq_St) :=
  wq_bh (f_X8_setSum x1 x2 x3 (wq_cls S)) (fun r1 S2 =>
  wq_lt (wq_emb 0 284 S S2) fun S3 =>
    some (0, S3)) (fun n5 S2 =>
    if n5 = 1 then
      wq_lt (wq_emb 0 284 S S2) fun S4 =>
      some (1, S4)
    else
      none)
def f_L_setDue (x1 : Int) (x2 : Int) (S : wq_St) : Option (Int × wq_St) :=
  wq_bh (f_X8_setDue x1 x2 (wq_cls S)) (fun r1 S2 =>
  wq_lt (wq_emb 0 284 S S2) fun S3 =>
    if wq_w r1 = 0 then
      wq_ix 0 1 fun t4 =>
      some (0, wq_set S3 316 t4 0)
    else
      wq_ix 0 1 fun t5 =>
      some (0, wq_set S3 316 t5 1)) (fun n7 S2 =>
    if n7 = 1 then
      wq_lt (wq_emb 0 284 S S2) fun S6 =>
      some (1, S6)
    else
      none)
def f_L_isDue (x1 : Int) (S : wq_St) : Option (Int × wq_St) :=
  wq_bh (f_X8_isDue x1 (wq_cls S)) (fun r1 S2 =>
  wq_lt (wq_emb 0 284 S S2) fun S3 =>
    if wq_w r1 = 0 then
      wq_ix 0 1 fun t4 =>
      some (0, wq_set S3 316 t4 0)
    else
      wq_ix 0 1 fun t5 =>
      some (0, wq_set S3 316 t5 1)) (fun n7 S2 =>
    if n7 = 1 then
      wq_lt (wq_emb 0 284 S S2) fun S6 =>
      some (1, S6)
    else
      none)
def f_L_planSource (x1 : Int) (x2 : Int) (S : wq_St) : Option (Int × wq_St) :=
  wq_bh (f_X8_planSource x1 x2 (wq_cls S)) (fun r1 S2 =>
  wq_lt (wq_emb 0 284 S S2) fun S3 =>
    wq_ix 0 1 fun t4 =>
    some (0, wq_set S3 316 t4 (wq_w r1))) (fun n6 S2 =>
    if n6 = 1 then
      wq_lt (wq_emb 0 284 S S2) fun S5 =>
      some (1, S5)
    else
      none)
def f_L_planWay (x1 : Int) (x2 : Int) (S : wq_St) : Option (Int × wq_St) :=
  wq_bh (f_X8_planWay x1 x2 (wq_cls S)) (fun r1 S2 =>
  wq_lt (wq_emb 0 284 S S2) fun S3 =>
    wq_ix 0 1 fun t4 =>
    some (0, wq_set S3 316 t4 (wq_w r1))) (fun n6 S2 =>
    if n6 = 1 then
      wq_lt (wq_emb 0 284 S S2) fun S5 =>
      some (1, S5)
    else
      none)
def f_L_foretold (x1 : Int) (S : wq_St) : Option (Int × wq_St) :=
  wq_bh (f_X8_foretold x1 (wq_cls S)) (fun r1 S2 =>
  wq_lt (wq_emb 0 284 S S2) fun S3 =>
    wq_ix 0 1 fun t4 =>
    some (0, wq_set S3 316 t4 (wq_w r1))) (fun n6 S2 =>
    if n6 = 1 then
      wq_lt (wq_emb 0 284 S S2) fun S5 =>
      some (1, S5)
    else
      none)
def f_L_minutes (x1 : Int) (S : wq_St) : Option (Int × wq_St) :=
  wq_bh (f_X8_minutes x1 (wq_cls S)) (fun r1 S2 =>
  wq_lt (wq_emb 0 284 S S2) fun S3 =>
    wq_ix 0 1 fun t4 =>
    some (0, wq_set S3 316 t4 (wq_w r1))) (fun n6 S2 =>
    if n6 = 1 then
      wq_lt (wq_emb 0 284 S S2) fun S5 =>
      some (1, S5)
    else
      none)
def f_L_answer (x1 : Int) (S : wq_St) : Option (Int × wq_St) :=
  wq_bh (f_X8_answer x1 (wq_cls S)) (fun r1 S2 =>
  wq_lt (wq_emb 0 284 S S2) fun S3 =>
    wq_ix 0 1 fun t4 =>
    some (0, wq_set S3 316 t4 (wq_w r1))) (fun n6 S2 =>
    if n6 = 1 then
      wq_lt (wq_emb 0 284 S S2) fun S5 =>
      some (1, S5)
    else
      none)
def f_L_sum (x1 : Int) (S : wq_St) : Option (Int × wq_St) :=
  wq_bh (f_X8_sum x1 (wq_cls S)) (fun r1 S2 =>
  wq_lt (wq_emb 0 284 S S2) fun S3 =>
    wq_ix 0 1 fun t4 =>
    some (0, wq_set S3 316 t4 (wq_w r1))) (fun n6 S2 =>
    if n6 = 1 then
      wq_lt (wq_emb 0 284 S S2) fun S5 =>
      some (1, S5)
    else
      none)
def f_L_plainAnswer (x1 : Int) (S : wq_St) : Option (Int × wq_St) :=
  wq_bh (f_X8_plainAnswer x1 (wq_cls S)) (fun r1 S2 =>
  wq_lt (wq_emb 0 284 S S2) fun S3 =>
    wq_ix 0 1 fun t4 =>
    some (0, wq_set S3 316 t4 (wq_w r1))) (fun n6 S2 =>
    if n6 = 1 then
      wq_lt (wq_emb 0 284 S S2) fun S5 =>
      some (1, S5)
    else
      none)
def f_L_plainSum (x1 : Int) (S : wq_St) : Option (Int × wq_St) :=
  wq_bh (f_X8_plainSum x1 (wq_cls S)) (fun r1 S2 =>
  wq_lt (wq_emb 0 284 S S2) fun S3 =>
    wq_ix 0 1 fun t4 =>
    some (0, wq_set S3 316 t4 (wq_w r1))) (fun n6 S2 =>
    if n6 = 1 then
      wq_lt (wq_emb 0 284 S S2) fun S5 =>
      some (1, S5)
    else
      none)
def f_L_night (x1 : Int) (S : wq_St) : Option (Int × wq_St) :=
  wq_bh (f_X8_night x1 (wq_cls S)) (fun r1 S2 =>
  wq_lt (wq_emb 0 284 S S2) fun S3 =>
    wq_ix 0 1 fun t4 =>
    some (0, wq_set S3 316 t4 (wq_w r1))) (fun n6 S2 =>
    if n6 = 2 then
      wq_lt (wq_emb 0 284 S S2) fun S5 =>
      some (1, S5)
    else
      if n6 = 3 then
        wq_lt (wq_emb 0 284 S S2) fun S5 =>
        some (2, S5)
      else
        none)
def f_L_kept (x1 : Int) (S : wq_St) : Option (Int × wq_St) :=
  wq_bh (f_X8_kept x1 (wq_cls S)) (fun r1 S2 =>
  wq_lt (wq_emb 0 284 S S2) fun S3 =>
    wq_ix 0 1 fun t4 =>
    some (0, wq_set S3 316 t4 (wq_w r1))) (fun n6 S2 =>
    if n6 = 1 then
      wq_lt (wq_emb 0 284 S S2) fun S5 =>
      some (1, S5)
    else
      none)
def f_L_keptSum (x1 : Int) (S : wq_St) : Option (Int × wq_St) :=
  wq_bh (f_X8_keptSum x1 (wq_cls S)) (fun r1 S2 =>
  wq_lt (wq_emb 0 284 S S2) fun S3 =>
    wq_ix 0 1 fun t4 =>
    some (0, wq_set S3 316 t4 (wq_w r1))) (fun n6 S2 =>
    if n6 = 1 then
      wq_lt (wq_emb 0 284 S S2) fun S5 =>
      some (1, S5)
    else
      none)
def f_L_keptIn (x1 : Int) (S : wq_St) : Option (Int × wq_St) :=
  wq_bh (f_X8_keptIn x1 (wq_cls S)) (fun r1 S2 =>
  wq_lt (wq_emb 0 284 S S2) fun S3 =>
    wq_ix 0 1 fun t4 =>
    some (0, wq_set S3 316 t4 (wq_w r1))) (fun n6 S2 =>
    if n6 = 1 then
      wq_lt (wq_emb 0 284 S S2) fun S5 =>
      some (1, S5)
    else
      none)
def b_L_law (X : Nat → Int) (LL : Nat) (kx : wq_St → Option (Int × wq_St)) (rec : Int → wq_St → Option (Int × wq_St)) (y4 : Int) (S : wq_St) : Option (Int × wq_St) :=
  if wq_w ((LL : Int) - 6) < wq_w y4 then
    kx S
  else
    wq_ix y4 LL fun t1 =>
    if wq_w (wq_and (X t1) 63) = 0 then
      wq_ix (y4 + 1) LL fun t2 =>
      wq_bd (f_L_addTable (X t2) S) fun r3 S4 =>
      wq_ix (y4 + 1) LL fun t6 =>
      wq_bd (f_X9_addTable (X t6) (wq_mdl S4)) fun r7 S8 =>
      wq_lt (wq_emb 284 32 S4 S8) fun S9 =>
      wq_bd (f_X9_thrown (wq_mdl S9)) fun r10 S11 =>
      wq_lt (wq_emb 284 32 S9 S11) fun S12 =>
      if wq_w r10 = wq_w r3 then
        if wq_w r3 = 0 then
          wq_ix 0 1 fun t13 =>
          if wq_w (wq_cmp (S12 316 t13) (wq_w r7)) = 0 then
            rec (y4 + 6) S12
          else
            some (0, S12)
        else
          rec (y4 + 6) S12
      else
        some (0, S12)
    else
      if wq_w (wq_and (X t1) 63) = 1 then
        wq_ix (y4 + 1) LL fun t14 =>
        wq_ix (y4 + 2) LL fun t15 =>
        wq_ix (y4 + 3) LL fun t16 =>
        wq_ix (y4 + 4) LL fun t17 =>
        wq_bd (f_L_insert (X t14) (X t15) (X t16) (X t17) S) fun r18 S19 =>
        wq_ix (y4 + 1) LL fun t21 =>
        wq_ix (y4 + 2) LL fun t22 =>
        wq_ix (y4 + 3) LL fun t23 =>
        wq_ix (y4 + 4) LL fun t24 =>
        wq_bd (f_X9_insert (X t21) (X t22) (X t23) (X t24) (wq_mdl S19)) fun r25 S26 =>
        wq_lt (wq_emb 284 32 S19 S26) fun S27 =>
        wq_bd (f_X9_thrown (wq_mdl S27)) fun r28 S29 =>
        wq_lt (wq_emb 284 32 S27 S29) fun S30 =>
        if wq_w r28 = wq_w r18 then
          if wq_w r18 = 0 then
            wq_ix 0 1 fun t31 =>
            if wq_w (wq_cmp (S30 316 t31) (wq_w r25)) = 0 then
              rec (y4 + 6) S30
            else
              some (0, S30)
          else
            rec (y4 + 6) S30
        else
          some (0, S30)
      else
        if wq_w (wq_and (X t1) 63) = 2 then
          wq_ix (y4 + 1) LL fun t32 =>
          wq_ix (y4 + 2) LL fun t33 =>
          wq_bd (f_L_delete (X t32) (X t33) S) fun r34 S35 =>
          wq_ix (y4 + 1) LL fun t37 =>
          wq_ix (y4 + 2) LL fun t38 =>
          wq_bd (f_X9_delete (X t37) (X t38) (wq_mdl S35)) fun r39 S40 =>
          wq_lt (wq_emb 284 32 S35 S40) fun S41 =>
          wq_bd (f_X9_thrown (wq_mdl S41)) fun r42 S43 =>
          wq_lt (wq_emb 284 32 S41 S43) fun S44 =>
          if wq_w r42 = wq_w r34 then
            if wq_w r34 = 0 then
              wq_ix 0 1 fun t45 =>
              if wq_w (wq_cmp (S44 316 t45) (wq_w r39)) = 0 then
                rec (y4 + 6) S44
              else
                some (0, S44)
            else
              rec (y4 + 6) S44
          else
            some (0, S44)
        else
          if wq_w (wq_and (X t1) 63) = 3 then
            wq_ix (y4 + 1) LL fun t46 =>
            wq_ix (y4 + 2) LL fun t47 =>
            wq_ix (y4 + 3) LL fun t48 =>
            if wq_w (X t48) = 0 then
              wq_bd (f_L_setIndex (X t46) (X t47) 0 S) fun r49 S50 =>
              wq_ix (y4 + 1) LL fun t52 =>
              wq_ix (y4 + 2) LL fun t53 =>
              wq_ix (y4 + 3) LL fun t54 =>
              if wq_w (X t54) = 0 then
                wq_bd (f_X9_setIndex (X t52) (X t53) 0 (wq_mdl S50)) fun r55 S56 =>
                wq_lt (wq_emb 284 32 S50 S56) fun S57 =>
                wq_bd (f_X9_thrown (wq_mdl S57)) fun r58 S59 =>
                wq_lt (wq_emb 284 32 S57 S59) fun S60 =>
                if wq_w r58 = wq_w r49 then
                  if wq_w r49 = 0 then
                    wq_ix 0 1 fun t61 =>
                    if wq_w r55 = 0 then
                      if wq_w (wq_cmp (S60 316 t61) 0) = 0 then
                        rec (y4 + 6) S60
                      else
                        some (0, S60)
                    else
                      if wq_w (wq_cmp (S60 316 t61) 1) = 0 then
                        rec (y4 + 6) S60
                      else
                        some (0, S60)
                  else
                    rec (y4 + 6) S60
                else
                  some (0, S60)
              else
                wq_bd (f_X9_setIndex (X t52) (X t53) 1 (wq_mdl S50)) fun r62 S63 =>
                wq_lt (wq_emb 284 32 S50 S63) fun S64 =>
                wq_bd (f_X9_thrown (wq_mdl S64)) fun r65 S66 =>
                wq_lt (wq_emb 284 32 S64 S66) fun S67 =>
                if wq_w r65 = wq_w r49 then
                  if wq_w r49 = 0 then
                    wq_ix 0 1 fun t68 =>
                    if wq_w r62 = 0 then
                      if wq_w (wq_cmp (S67 316 t68) 0) = 0 then
                        rec (y4 + 6) S67
                      else
                        some (0, S67)
                    else
                      if wq_w (wq_cmp (S67 316 t68) 1) = 0 then
                        rec (y4 + 6) S67
                      else
                        some (0, S67)
                  else
                    rec (y4 + 6) S67
                else
                  some (0, S67)
            else
              wq_bd (f_L_setIndex (X t46) (X t47) 1 S) fun r69 S70 =>
              wq_ix (y4 + 1) LL fun t72 =>
              wq_ix (y4 + 2) LL fun t73 =>
              wq_ix (y4 + 3) LL fun t74 =>
              if wq_w (X t74) = 0 then
                wq_bd (f_X9_setIndex (X t72) (X t73) 0 (wq_mdl S70)) fun r75 S76 =>
                wq_lt (wq_emb 284 32 S70 S76) fun S77 =>
                wq_bd (f_X9_thrown (wq_mdl S77)) fun r78 S79 =>
                wq_lt (wq_emb 284 32 S77 S79) fun S80 =>
                if wq_w r78 = wq_w r69 then
                  if wq_w r69 = 0 then
                    wq_ix 0 1 fun t81 =>
                    if wq_w r75 = 0 then
                      if wq_w (wq_cmp (S80 316 t81) 0) = 0 then
                        rec (y4 + 6) S80
                      else
                        some (0, S80)
                    else
                      if wq_w (wq_cmp (S80 316 t81) 1) = 0 then
                        rec (y4 + 6) S80
                      else
                        some (0, S80)
                  else
                    rec (y4 + 6) S80
                else
                  some (0, S80)
              else
                wq_bd (f_X9_setIndex (X t72) (X t73) 1 (wq_mdl S70)) fun r82 S83 =>
                wq_lt (wq_emb 284 32 S70 S83) fun S84 =>
                wq_bd (f_X9_thrown (wq_mdl S84)) fun r85 S86 =>
                wq_lt (wq_emb 284 32 S84 S86) fun S87 =>
                if wq_w r85 = wq_w r69 then
                  if wq_w r69 = 0 then
                    wq_ix 0 1 fun t88 =>
                    if wq_w r82 = 0 then
                      if wq_w (wq_cmp (S87 316 t88) 0) = 0 then
                        rec (y4 + 6) S87
                      else
                        some (0, S87)
                    else
                      if wq_w (wq_cmp (S87 316 t88) 1) = 0 then
                        rec (y4 + 6) S87
                      else
                        some (0, S87)
                  else
                    rec (y4 + 6) S87
                else
                  some (0, S87)
          else
            if wq_w (wq_and (X t1) 63) = 4 then
              wq_ix (y4 + 1) LL fun t89 =>
              wq_bd (f_L_rows (X t89) S) fun r90 S91 =>
              wq_ix (y4 + 1) LL fun t93 =>
              wq_bd (f_X9_rows (X t93) (wq_mdl S91)) fun r94 S95 =>
              wq_lt (wq_emb 284 32 S91 S95) fun S96 =>
              wq_bd (f_X9_thrown (wq_mdl S96)) fun r97 S98 =>
              wq_lt (wq_emb 284 32 S96 S98) fun S99 =>
              if wq_w r97 = wq_w r90 then
                if wq_w r90 = 0 then
                  wq_ix 0 1 fun t100 =>
                  if wq_w (wq_cmp (S99 316 t100) (wq_w r94)) = 0 then
                    rec (y4 + 6) S99
                  else
                    some (0, S99)
                else
                  rec (y4 + 6) S99
              else
                some (0, S99)
            else
              if wq_w (wq_and (X t1) 63) = 5 then
                wq_ix (y4 + 1) LL fun t101 =>
                wq_ix (y4 + 2) LL fun t102 =>
                wq_ix (y4 + 3) LL fun t103 =>
                wq_bd (f_L_value (X t101) (X t102) (X t103) S) fun r104 S105 =>
                wq_ix (y4 + 1) LL fun t107 =>
                wq_ix (y4 + 2) LL fun t108 =>
                wq_ix (y4 + 3) LL fun t109 =>
                wq_bd (f_X9_value (X t107) (X t108) (X t109) (wq_mdl S105)) fun r110 S111 =>
                wq_lt (wq_emb 284 32 S105 S111) fun S112 =>
                wq_bd (f_X9_thrown (wq_mdl S112)) fun r113 S114 =>
                wq_lt (wq_emb 284 32 S112 S114) fun S115 =>
                if wq_w r113 = wq_w r104 then
                  if wq_w r104 = 0 then
                    wq_ix 0 1 fun t116 =>
                    if wq_w (wq_cmp (S115 316 t116) (wq_w r110)) = 0 then
                      rec (y4 + 6) S115
                    else
                      some (0, S115)
                  else
                    rec (y4 + 6) S115
                else
                  some (0, S115)
              else
                if wq_w (wq_and (X t1) 63) = 6 then
                  wq_ix (y4 + 1) LL fun t117 =>
                  wq_ix (y4 + 2) LL fun t118 =>
                  wq_bd (f_L_renew (X t117) (X t118) S) fun r119 S120 =>
                  wq_ix (y4 + 1) LL fun t122 =>
                  wq_ix (y4 + 2) LL fun t123 =>
                  wq_bd (f_X9_renew (X t122) (X t123) (wq_mdl S120)) fun r124 S125 =>
                  wq_lt (wq_emb 284 32 S120 S125) fun S126 =>
                  wq_bd (f_X9_thrown (wq_mdl S126)) fun r127 S128 =>
                  wq_lt (wq_emb 284 32 S126 S128) fun S129 =>
                  if wq_w r127 = wq_w r119 then
                    if wq_w r119 = 0 then
                      wq_ix 0 1 fun t130 =>
                      if wq_w (wq_cmp (S129 316 t130) (wq_w r124)) = 0 then
                        rec (y4 + 6) S129
                      else
                        some (0, S129)
                    else
                      rec (y4 + 6) S129
                  else
                    some (0, S129)
                else
                  if wq_w (wq_and (X t1) 63) = 7 then
                    wq_ix (y4 + 1) LL fun t131 =>
                    wq_bd (f_L_setStep (X t131) S) fun r132 S133 =>
                    wq_ix (y4 + 1) LL fun t135 =>
                    wq_bd (f_X9_setStep (X t135) (wq_mdl S133)) fun r136 S137 =>
                    wq_lt (wq_emb 284 32 S133 S137) fun S138 =>
                    wq_bd (f_X9_thrown (wq_mdl S138)) fun r139 S140 =>
                    wq_lt (wq_emb 284 32 S138 S140) fun S141 =>
                    if wq_w r139 = wq_w r132 then
                      if wq_w r132 = 0 then
                        wq_ix 0 1 fun t142 =>
                        if wq_w (wq_cmp (S141 316 t142) (wq_w r136)) = 0 then
                          rec (y4 + 6) S141
                        else
                          some (0, S141)
                      else
                        rec (y4 + 6) S141
                    else
                      some (0, S141)
                  else
                    if wq_w (wq_and (X t1) 63) = 8 then
                      wq_ix (y4 + 1) LL fun t143 =>
                      wq_bd (f_L_toldRows (X t143) S) fun r144 S145 =>
                      wq_ix (y4 + 1) LL fun t147 =>
                      wq_bd (f_X9_toldRows (X t147) (wq_mdl S145)) fun r148 S149 =>
                      wq_lt (wq_emb 284 32 S145 S149) fun S150 =>
                      wq_bd (f_X9_thrown (wq_mdl S150)) fun r151 S152 =>
                      wq_lt (wq_emb 284 32 S150 S152) fun S153 =>
                      if wq_w r151 = wq_w r144 then
                        if wq_w r144 = 0 then
                          wq_ix 0 1 fun t154 =>
                          if wq_w (wq_cmp (S153 316 t154) (wq_w r148)) = 0 then
                            rec (y4 + 6) S153
                          else
                            some (0, S153)
                        else
                          rec (y4 + 6) S153
                      else
                        some (0, S153)
                    else
                      if wq_w (wq_and (X t1) 63) = 9 then
                        wq_ix (y4 + 1) LL fun t155 =>
                        wq_ix (y4 + 2) LL fun t156 =>
                        wq_bd (f_L_unlike (X t155) (X t156) S) fun r157 S158 =>
                        wq_ix (y4 + 1) LL fun t160 =>
                        wq_ix (y4 + 2) LL fun t161 =>
                        wq_bd (f_X9_unlike (X t160) (X t161) (wq_mdl S158)) fun r162 S163 =>
                        wq_lt (wq_emb 284 32 S158 S163) fun S164 =>
                        wq_bd (f_X9_thrown (wq_mdl S164)) fun r165 S166 =>
                        wq_lt (wq_emb 284 32 S164 S166) fun S167 =>
                        if wq_w r165 = wq_w r157 then
                          if wq_w r157 = 0 then
                            wq_ix 0 1 fun t168 =>
                            if wq_w (wq_cmp (S167 316 t168) (wq_w r162)) = 0 then
                              rec (y4 + 6) S167
                            else
                              some (0, S167)
                          else
                            rec (y4 + 6) S167
                        else
                          some (0, S167)
                      else
                        if wq_w (wq_and (X t1) 63) = 10 then
                          wq_ix (y4 + 1) LL fun t169 =>
                          wq_ix (y4 + 2) LL fun t170 =>
                          wq_bd (f_L_least (X t169) (X t170) S) fun r171 S172 =>
                          wq_ix (y4 + 1) LL fun t174 =>
                          wq_ix (y4 + 2) LL fun t175 =>
                          wq_bd (f_X9_least (X t174) (X t175) (wq_mdl S172)) fun r176 S177 =>
                          wq_lt (wq_emb 284 32 S172 S177) fun S178 =>
                          wq_bd (f_X9_thrown (wq_mdl S178)) fun r179 S180 =>
                          wq_lt (wq_emb 284 32 S178 S180) fun S181 =>
                          if wq_w r179 = wq_w r171 then
                            if wq_w r171 = 0 then
                              wq_ix 0 1 fun t182 =>
                              if wq_w (wq_cmp (S181 316 t182) (wq_w r176)) = 0 then
                                rec (y4 + 6) S181
                              else
                                some (0, S181)
                            else
                              rec (y4 + 6) S181
                          else
                            some (0, S181)
                        else
                          if wq_w (wq_and (X t1) 63) = 11 then
                            wq_ix (y4 + 1) LL fun t183 =>
                            wq_ix (y4 + 2) LL fun t184 =>
                            wq_bd (f_L_greatest (X t183) (X t184) S) fun r185 S186 =>
                            wq_ix (y4 + 1) LL fun t188 =>
                            wq_ix (y4 + 2) LL fun t189 =>
                            wq_bd (f_X9_greatest (X t188) (X t189) (wq_mdl S186)) fun r190 S191 =>
                            wq_lt (wq_emb 284 32 S186 S191) fun S192 =>
                            wq_bd (f_X9_thrown (wq_mdl S192)) fun r193 S194 =>
                            wq_lt (wq_emb 284 32 S192 S194) fun S195 =>
                            if wq_w r193 = wq_w r185 then
                              if wq_w r185 = 0 then
                                wq_ix 0 1 fun t196 =>
                                if wq_w (wq_cmp (S195 316 t196) (wq_w r190)) = 0 then
                                  rec (y4 + 6) S195
                                else
                                  some (0, S195)
                              else
                                rec (y4 + 6) S195
                            else
                              some (0, S195)
                          else
                            if wq_w (wq_and (X t1) 63) = 12 then
                              wq_ix (y4 + 1) LL fun t197 =>
                              wq_bd (f_L_isMarked (X t197) S) fun r198 S199 =>
                              wq_ix (y4 + 1) LL fun t201 =>
                              wq_bd (f_X9_isMarked (X t201) (wq_mdl S199)) fun r202 S203 =>
                              wq_lt (wq_emb 284 32 S199 S203) fun S204 =>
                              wq_bd (f_X9_thrown (wq_mdl S204)) fun r205 S206 =>
                              wq_lt (wq_emb 284 32 S204 S206) fun S207 =>
                              if wq_w r205 = wq_w r198 then
                                if wq_w r198 = 0 then
                                  wq_ix 0 1 fun t208 =>
                                  if wq_w r202 = 0 then
                                    if wq_w (wq_cmp (S207 316 t208) 0) = 0 then
                                      rec (y4 + 6) S207
                                    else
                                      some (0, S207)
                                  else
                                    if wq_w (wq_cmp (S207 316 t208) 1) = 0 then
                                      rec (y4 + 6) S207
                                    else
                                      some (0, S207)
                                else
                                  rec (y4 + 6) S207
                              else
                                some (0, S207)
                            else
                              if wq_w (wq_and (X t1) 63) = 13 then
                                wq_ix (y4 + 1) LL fun t209 =>
                                wq_bd (f_L_addReport (X t209) S) fun r210 S211 =>
                                wq_ix (y4 + 1) LL fun t213 =>
                                wq_bd (f_X9_addReport (X t213) (wq_mdl S211)) fun r214 S215 =>
                                wq_lt (wq_emb 284 32 S211 S215) fun S216 =>
                                wq_bd (f_X9_thrown (wq_mdl S216)) fun r217 S218 =>
                                wq_lt (wq_emb 284 32 S216 S218) fun S219 =>
                                if wq_w r217 = wq_w r210 then
                                  if wq_w r210 = 0 then
                                    wq_ix 0 1 fun t220 =>
                                    if wq_w (wq_cmp (S219 316 t220) (wq_w r214)) = 0 then
                                      rec (y4 + 6) S219
                                    else
                                      some (0, S219)
                                  else
                                    rec (y4 + 6) S219
                                else
                                  some (0, S219)
                              else
                                if wq_w (wq_and (X t1) 63) = 14 then
                                  wq_ix (y4 + 1) LL fun t221 =>
                                  wq_ix (y4 + 2) LL fun t222 =>
                                  wq_bd (f_L_addSource (X t221) (X t222) S) fun r223 S224 =>
                                  wq_ix (y4 + 1) LL fun t226 =>
                                  wq_ix (y4 + 2) LL fun t227 =>
                                  wq_bd (f_X9_addSource (X t226) (X t227) (wq_mdl S224)) fun r228 S229 =>
                                  wq_lt (wq_emb 284 32 S224 S229) fun S230 =>
                                  wq_bd (f_X9_thrown (wq_mdl S230)) fun r231 S232 =>
                                  wq_lt (wq_emb 284 32 S230 S232) fun S233 =>
                                  if wq_w r231 = wq_w r223 then
                                    if wq_w r223 = 0 then
                                      wq_ix 0 1 fun t234 =>
                                      if wq_w (wq_cmp (S233 316 t234) (wq_w r228)) = 0 then
                                        rec (y4 + 6) S233
                                      else
                                        some (0, S233)
                                    else
                                      rec (y4 + 6) S233
                                  else
                                    some (0, S233)
                                else
                                  if wq_w (wq_and (X t1) 63) = 15 then
                                    wq_ix (y4 + 1) LL fun t235 =>
                                    wq_ix (y4 + 2) LL fun t236 =>
                                    wq_ix (y4 + 3) LL fun t237 =>
                                    wq_ix (y4 + 4) LL fun t238 =>
                                    wq_ix (y4 + 5) LL fun t239 =>
                                    wq_bd (f_L_addCondition (X t235) (X t236) (X t237) (X t238) (X t239) S) fun r240 S241 =>
                                    wq_ix (y4 + 1) LL fun t243 =>
                                    wq_ix (y4 + 2) LL fun t244 =>
                                    wq_ix (y4 + 3) LL fun t245 =>
                                    wq_ix (y4 + 4) LL fun t246 =>
                                    wq_ix (y4 + 5) LL fun t247 =>
                                    wq_bd (f_X9_addCondition (X t243) (X t244) (X t245) (X t246) (X t247) (wq_mdl S241)) fun r248 S249 =>
                                    wq_lt (wq_emb 284 32 S241 S249) fun S250 =>
                                    wq_bd (f_X9_thrown (wq_mdl S250)) fun r251 S252 =>
                                    wq_lt (wq_emb 284 32 S250 S252) fun S253 =>
                                    if wq_w r251 = wq_w r240 then
                                      if wq_w r240 = 0 then
                                        wq_ix 0 1 fun t254 =>
                                        if wq_w (wq_cmp (S253 316 t254) (wq_w r248)) = 0 then
                                          rec (y4 + 6) S253
                                        else
                                          some (0, S253)
                                      else
                                        rec (y4 + 6) S253
                                    else
                                      some (0, S253)
                                  else
                                    if wq_w (wq_and (X t1) 63) = 16 then
                                      wq_ix (y4 + 1) LL fun t255 =>
                                      wq_ix (y4 + 2) LL fun t256 =>
                                      wq_ix (y4 + 3) LL fun t257 =>
                                      wq_ix (y4 + 4) LL fun t258 =>
                                      wq_ix (y4 + 5) LL fun t259 =>
                                      wq_bd (f_L_addJoin (X t255) (X t256) (X t257) (X t258) (X t259) S) fun r260 S261 =>
                                      wq_ix (y4 + 1) LL fun t263 =>
                                      wq_ix (y4 + 2) LL fun t264 =>
                                      wq_ix (y4 + 3) LL fun t265 =>
                                      wq_ix (y4 + 4) LL fun t266 =>
                                      wq_ix (y4 + 5) LL fun t267 =>
                                      wq_bd (f_X9_addJoin (X t263) (X t264) (X t265) (X t266) (X t267) (wq_mdl S261)) fun r268 S269 =>
                                      wq_lt (wq_emb 284 32 S261 S269) fun S270 =>
                                      wq_bd (f_X9_thrown (wq_mdl S270)) fun r271 S272 =>
                                      wq_lt (wq_emb 284 32 S270 S272) fun S273 =>
                                      if wq_w r271 = wq_w r260 then
                                        if wq_w r260 = 0 then
                                          wq_ix 0 1 fun t274 =>
                                          if wq_w (wq_cmp (S273 316 t274) (wq_w r268)) = 0 then
                                            rec (y4 + 6) S273
                                          else
                                            some (0, S273)
                                        else
                                          rec (y4 + 6) S273
                                      else
                                        some (0, S273)
                                    else
                                      if wq_w (wq_and (X t1) 63) = 17 then
                                        wq_ix (y4 + 1) LL fun t275 =>
                                        wq_bd (f_L_dropCondition (X t275) S) fun r276 S277 =>
                                        wq_ix (y4 + 1) LL fun t279 =>
                                        wq_bd (f_X9_dropCondition (X t279) (wq_mdl S277)) fun r280 S281 =>
                                        wq_lt (wq_emb 284 32 S277 S281) fun S282 =>
                                        wq_bd (f_X9_thrown (wq_mdl S282)) fun r283 S284 =>
                                        wq_lt (wq_emb 284 32 S282 S284) fun S285 =>
                                        if wq_w r283 = wq_w r276 then
                                          if wq_w r276 = 0 then
                                            wq_ix 0 1 fun t286 =>
                                            if wq_w (wq_cmp (S285 316 t286) (wq_w r280)) = 0 then
                                              rec (y4 + 6) S285
                                            else
                                              some (0, S285)
                                          else
                                            rec (y4 + 6) S285
                                        else
                                          some (0, S285)
                                      else
                                        if wq_w (wq_and (X t1) 63) = 18 then
                                          wq_ix (y4 + 1) LL fun t287 =>
                                          wq_ix (y4 + 2) LL fun t288 =>
                                          wq_ix (y4 + 3) LL fun t289 =>
                                          wq_bd (f_L_setSum (X t287) (X t288) (X t289) S) fun r290 S291 =>
                                          wq_ix (y4 + 1) LL fun t293 =>
                                          wq_ix (y4 + 2) LL fun t294 =>
                                          wq_ix (y4 + 3) LL fun t295 =>
                                          wq_bd (f_X9_setSum (X t293) (X t294) (X t295) (wq_mdl S291)) fun r296 S297 =>
                                          wq_lt (wq_emb 284 32 S291 S297) fun S298 =>
                                          wq_bd (f_X9_thrown (wq_mdl S298)) fun r299 S300 =>
                                          wq_lt (wq_emb 284 32 S298 S300) fun S301 =>
                                          if wq_w r299 = wq_w r290 then
                                            rec (y4 + 6) S301
                                          else
                                            some (0, S301)
                                        else
                                          if wq_w (wq_and (X t1) 63) = 19 then
                                            wq_ix (y4 + 1) LL fun t302 =>
                                            wq_ix (y4 + 2) LL fun t303 =>
                                            if wq_w (X t303) = 0 then
                                              wq_bd (f_L_setDue (X t302) 0 S) fun r304 S305 =>
                                              wq_ix (y4 + 1) LL fun t307 =>
                                              wq_ix (y4 + 2) LL fun t308 =>
                                              if wq_w (X t308) = 0 then
                                                wq_bd (f_X9_setDue (X t307) 0 (wq_mdl S305)) fun r309 S310 =>
                                                wq_lt (wq_emb 284 32 S305 S310) fun S311 =>
                                                wq_bd (f_X9_thrown (wq_mdl S311)) fun r312 S313 =>
                                                wq_lt (wq_emb 284 32 S311 S313) fun S314 =>
                                                if wq_w r312 = wq_w r304 then
                                                  if wq_w r304 = 0 then
                                                    wq_ix 0 1 fun t315 =>
                                                    if wq_w r309 = 0 then
                                                      if wq_w (wq_cmp (S314 316 t315) 0) = 0 then
                                                        rec (y4 + 6) S314
                                                      else
                                                        some (0, S314)
                                                    else
                                                      if wq_w (wq_cmp (S314 316 t315) 1) = 0 then
                                                        rec (y4 + 6) S314
                                                      else
                                                        some (0, S314)
                                                  else
                                                    rec (y4 + 6) S314
                                                else
                                                  some (0, S314)
                                              else
                                                wq_bd (f_X9_setDue (X t307) 1 (wq_mdl S305)) fun r316 S317 =>
                                                wq_lt (wq_emb 284 32 S305 S317) fun S318 =>
                                                wq_bd (f_X9_thrown (wq_mdl S318)) fun r319 S320 =>
                                                wq_lt (wq_emb 284 32 S318 S320) fun S321 =>
                                                if wq_w r319 = wq_w r304 then
                                                  if wq_w r304 = 0 then
                                                    wq_ix 0 1 fun t322 =>
                                                    if wq_w r316 = 0 then
                                                      if wq_w (wq_cmp (S321 316 t322) 0) = 0 then
                                                        rec (y4 + 6) S321
                                                      else
                                                        some (0, S321)
                                                    else
                                                      if wq_w (wq_cmp (S321 316 t322) 1) = 0 then
                                                        rec (y4 + 6) S321
                                                      else
                                                        some (0, S321)
                                                  else
                                                    rec (y4 + 6) S321
                                                else
                                                  some (0, S321)
                                            else
                                              wq_bd (f_L_setDue (X t302) 1 S) fun r323 S324 =>
                                              wq_ix (y4 + 1) LL fun t326 =>
                                              wq_ix (y4 + 2) LL fun t327 =>
                                              if wq_w (X t327) = 0 then
                                                wq_bd (f_X9_setDue (X t326) 0 (wq_mdl S324)) fun r328 S329 =>
                                                wq_lt (wq_emb 284 32 S324 S329) fun S330 =>
                                                wq_bd (f_X9_thrown (wq_mdl S330)) fun r331 S332 =>
                                                wq_lt (wq_emb 284 32 S330 S332) fun S333 =>
                                                if wq_w r331 = wq_w r323 then
                                                  if wq_w r323 = 0 then
                                                    wq_ix 0 1 fun t334 =>
                                                    if wq_w r328 = 0 then
                                                      if wq_w (wq_cmp (S333 316 t334) 0) = 0 then
                                                        rec (y4 + 6) S333
                                                      else
                                                        some (0, S333)
                                                    else
                                                      if wq_w (wq_cmp (S333 316 t334) 1) = 0 then
                                                        rec (y4 + 6) S333
                                                      else
                                                        some (0, S333)
                                                  else
                                                    rec (y4 + 6) S333
                                                else
                                                  some (0, S333)
                                              else
                                                wq_bd (f_X9_setDue (X t326) 1 (wq_mdl S324)) fun r335 S336 =>
                                                wq_lt (wq_emb 284 32 S324 S336) fun S337 =>
                                                wq_bd (f_X9_thrown (wq_mdl S337)) fun r338 S339 =>
                                                wq_lt (wq_emb 284 32 S337 S339) fun S340 =>
                                                if wq_w r338 = wq_w r323 then
                                                  if wq_w r323 = 0 then
                                                    wq_ix 0 1 fun t341 =>
                                                    if wq_w r335 = 0 then
                                                      if wq_w (wq_cmp (S340 316 t341) 0) = 0 then
                                                        rec (y4 + 6) S340
                                                      else
                                                        some (0, S340)
                                                    else
                                                      if wq_w (wq_cmp (S340 316 t341) 1) = 0 then
                                                        rec (y4 + 6) S340
                                                      else
                                                        some (0, S340)
                                                  else
                                                    rec (y4 + 6) S340
                                                else
                                                  some (0, S340)
                                          else
                                            if wq_w (wq_and (X t1) 63) = 20 then
                                              wq_ix (y4 + 1) LL fun t342 =>
                                              wq_bd (f_L_isDue (X t342) S) fun r343 S344 =>
                                              wq_ix (y4 + 1) LL fun t346 =>
                                              wq_bd (f_X9_isDue (X t346) (wq_mdl S344)) fun r347 S348 =>
                                              wq_lt (wq_emb 284 32 S344 S348) fun S349 =>
                                              wq_bd (f_X9_thrown (wq_mdl S349)) fun r350 S351 =>
                                              wq_lt (wq_emb 284 32 S349 S351) fun S352 =>
                                              if wq_w r350 = wq_w r343 then
                                                if wq_w r343 = 0 then
                                                  wq_ix 0 1 fun t353 =>
                                                  if wq_w r347 = 0 then
                                                    if wq_w (wq_cmp (S352 316 t353) 0) = 0 then
                                                      rec (y4 + 6) S352
                                                    else
                                                      some (0, S352)
                                                  else
                                                    if wq_w (wq_cmp (S352 316 t353) 1) = 0 then
                                                      rec (y4 + 6) S352
                                                    else
                                                      some (0, S352)
                                                else
                                                  rec (y4 + 6) S352
                                              else
                                                some (0, S352)
                                            else
                                              if wq_w (wq_and (X t1) 63) = 21 then
                                                wq_ix (y4 + 1) LL fun t354 =>
                                                wq_ix (y4 + 2) LL fun t355 =>
                                                wq_bd (f_L_planSource (X t354) (X t355) S) fun r356 S357 =>
                                                wq_ix (y4 + 1) LL fun t359 =>
                                                wq_ix (y4 + 2) LL fun t360 =>
                                                wq_bd (f_X9_planSource (X t359) (X t360) (wq_mdl S357)) fun r361 S362 =>
                                                wq_lt (wq_emb 284 32 S357 S362) fun S363 =>
                                                wq_bd (f_X9_thrown (wq_mdl S363)) fun r364 S365 =>
                                                wq_lt (wq_emb 284 32 S363 S365) fun S366 =>
                                                if wq_w r364 = wq_w r356 then
                                                  if wq_w r356 = 0 then
                                                    wq_ix 0 1 fun t367 =>
                                                    if wq_w (wq_cmp (S366 316 t367) (wq_w r361)) = 0 then
                                                      rec (y4 + 6) S366
                                                    else
                                                      some (0, S366)
                                                  else
                                                    rec (y4 + 6) S366
                                                else
                                                  some (0, S366)
                                              else
                                                if wq_w (wq_and (X t1) 63) = 22 then
                                                  wq_ix (y4 + 1) LL fun t368 =>
                                                  wq_ix (y4 + 2) LL fun t369 =>
                                                  wq_bd (f_L_planWay (X t368) (X t369) S) fun r370 S371 =>
                                                  wq_ix (y4 + 1) LL fun t373 =>
                                                  wq_ix (y4 + 2) LL fun t374 =>
                                                  wq_bd (f_X9_planWay (X t373) (X t374) (wq_mdl S371)) fun r375 S376 =>
                                                  wq_lt (wq_emb 284 32 S371 S376) fun S377 =>
                                                  wq_bd (f_X9_thrown (wq_mdl S377)) fun r378 S379 =>
                                                  wq_lt (wq_emb 284 32 S377 S379) fun S380 =>
                                                  if wq_w r378 = wq_w r370 then
                                                    if wq_w r370 = 0 then
                                                      wq_ix 0 1 fun t381 =>
                                                      if wq_w (wq_cmp (S380 316 t381) (wq_w r375)) = 0 then
                                                        rec (y4 + 6) S380
                                                      else
                                                        some (0, S380)
                                                    else
                                                      rec (y4 + 6) S380
                                                  else
                                                    some (0, S380)
                                                else
                                                  if wq_w (wq_and (X t1) 63) = 23 then
                                                    wq_ix (y4 + 1) LL fun t382 =>
                                                    wq_bd (f_L_foretold (X t382) S) fun r383 S384 =>
                                                    wq_ix (y4 + 1) LL fun t386 =>
                                                    wq_bd (f_X9_foretold (X t386) (wq_mdl S384)) fun r387 S388 =>
                                                    wq_lt (wq_emb 284 32 S384 S388) fun S389 =>
                                                    wq_bd (f_X9_thrown (wq_mdl S389)) fun r390 S391 =>
                                                    wq_lt (wq_emb 284 32 S389 S391) fun S392 =>
                                                    if wq_w r390 = wq_w r383 then
                                                      if wq_w r383 = 0 then
                                                        wq_ix 0 1 fun t393 =>
                                                        if wq_w (wq_cmp (S392 316 t393) (wq_w r387)) = 0 then
                                                          rec (y4 + 6) S392
                                                        else
                                                          some (0, S392)
                                                      else
                                                        rec (y4 + 6) S392
                                                    else
                                                      some (0, S392)
                                                  else
                                                    if wq_w (wq_and (X t1) 63) = 24 then
                                                      wq_ix (y4 + 1) LL fun t394 =>
                                                      wq_bd (f_L_minutes (X t394) S) fun r395 S396 =>
                                                      wq_ix (y4 + 1) LL fun t398 =>
                                                      wq_bd (f_X9_minutes (X t398) (wq_mdl S396)) fun r399 S400 =>
                                                      wq_lt (wq_emb 284 32 S396 S400) fun S401 =>
                                                      wq_bd (f_X9_thrown (wq_mdl S401)) fun r402 S403 =>
                                                      wq_lt (wq_emb 284 32 S401 S403) fun S404 =>
                                                      if wq_w r402 = wq_w r395 then
                                                        if wq_w r395 = 0 then
                                                          wq_ix 0 1 fun t405 =>
                                                          if wq_w (wq_cmp (S404 316 t405) (wq_w r399)) = 0 then
                                                            rec (y4 + 6) S404
                                                          else
                                                            some (0, S404)
                                                        else
                                                          rec (y4 + 6) S404
                                                      else
                                                        some (0, S404)
                                                    else
                                                      if wq_w (wq_and (X t1) 63) = 25 then
                                                        wq_ix (y4 + 1) LL fun t406 =>
                                                        wq_bd (f_L_answer (X t406) S) fun r407 S408 =>
                                                        wq_ix (y4 + 1) LL fun t410 =>
                                                        wq_bd (f_X9_answer (X t410) (wq_mdl S408)) fun r411 S412 =>
                                                        wq_lt (wq_emb 284 32 S408 S412) fun S413 =>
                                                        wq_bd (f_X9_thrown (wq_mdl S413)) fun r414 S415 =>
                                                        wq_lt (wq_emb 284 32 S413 S415) fun S416 =>
                                                        if wq_w r414 = wq_w r407 then
                                                          if wq_w r407 = 0 then
                                                            wq_ix 0 1 fun t417 =>
                                                            if wq_w (wq_cmp (S416 316 t417) (wq_w r411)) = 0 then
                                                              rec (y4 + 6) S416
                                                            else
                                                              some (0, S416)
                                                          else
                                                            rec (y4 + 6) S416
                                                        else
                                                          some (0, S416)
                                                      else
                                                        if wq_w (wq_and (X t1) 63) = 26 then
                                                          wq_ix (y4 + 1) LL fun t418 =>
                                                          wq_bd (f_L_sum (X t418) S) fun r419 S420 =>
                                                          wq_ix (y4 + 1) LL fun t422 =>
                                                          wq_bd (f_X9_sum (X t422) (wq_mdl S420)) fun r423 S424 =>
                                                          wq_lt (wq_emb 284 32 S420 S424) fun S425 =>
                                                          wq_bd (f_X9_thrown (wq_mdl S425)) fun r426 S427 =>
                                                          wq_lt (wq_emb 284 32 S425 S427) fun S428 =>
                                                          if wq_w r426 = wq_w r419 then
                                                            if wq_w r419 = 0 then
                                                              wq_ix 0 1 fun t429 =>
                                                              if wq_w (wq_cmp (S428 316 t429) (wq_w r423)) = 0 then
                                                                rec (y4 + 6) S428
                                                              else
                                                                some (0, S428)
                                                            else
                                                              rec (y4 + 6) S428
                                                          else
                                                            some (0, S428)
                                                        else
                                                          if wq_w (wq_and (X t1) 63) = 27 then
                                                            wq_ix (y4 + 1) LL fun t430 =>
                                                            wq_bd (f_L_plainAnswer (X t430) S) fun r431 S432 =>
                                                            wq_ix (y4 + 1) LL fun t434 =>
                                                            wq_bd (f_X9_plainAnswer (X t434) (wq_mdl S432)) fun r435 S436 =>
                                                            wq_lt (wq_emb 284 32 S432 S436) fun S437 =>
                                                            wq_bd (f_X9_thrown (wq_mdl S437)) fun r438 S439 =>
                                                            wq_lt (wq_emb 284 32 S437 S439) fun S440 =>
                                                            if wq_w r438 = wq_w r431 then
                                                              if wq_w r431 = 0 then
                                                                wq_ix 0 1 fun t441 =>
                                                                if wq_w (wq_cmp (S440 316 t441) (wq_w r435)) = 0 then
                                                                  rec (y4 + 6) S440
                                                                else
                                                                  some (0, S440)
                                                              else
                                                                rec (y4 + 6) S440
                                                            else
                                                              some (0, S440)
                                                          else
                                                            if wq_w (wq_and (X t1) 63) = 28 then
                                                              wq_ix (y4 + 1) LL fun t442 =>
                                                              wq_bd (f_L_plainSum (X t442) S) fun r443 S444 =>
                                                              wq_ix (y4 + 1) LL fun t446 =>
                                                              wq_bd (f_X9_plainSum (X t446) (wq_mdl S444)) fun r447 S448 =>
                                                              wq_lt (wq_emb 284 32 S444 S448) fun S449 =>
                                                              wq_bd (f_X9_thrown (wq_mdl S449)) fun r450 S451 =>
                                                              wq_lt (wq_emb 284 32 S449 S451) fun S452 =>
                                                              if wq_w r450 = wq_w r443 then
                                                                if wq_w r443 = 0 then
                                                                  wq_ix 0 1 fun t453 =>
                                                                  if wq_w (wq_cmp (S452 316 t453) (wq_w r447)) = 0 then
                                                                    rec (y4 + 6) S452
                                                                  else
                                                                    some (0, S452)
                                                                else
                                                                  rec (y4 + 6) S452
                                                              else
                                                                some (0, S452)
                                                            else
                                                              if wq_w (wq_and (X t1) 63) = 29 then
                                                                wq_ix (y4 + 1) LL fun t454 =>
                                                                wq_bd (f_L_night (X t454) S) fun r455 S456 =>
                                                                wq_ix (y4 + 1) LL fun t458 =>
                                                                wq_bd (f_X9_night (X t458) (wq_mdl S456)) fun r459 S460 =>
                                                                wq_lt (wq_emb 284 32 S456 S460) fun S461 =>
                                                                wq_bd (f_X9_thrown (wq_mdl S461)) fun r462 S463 =>
                                                                wq_lt (wq_emb 284 32 S461 S463) fun S464 =>
                                                                if wq_w r462 = wq_w r455 then
                                                                  if wq_w r455 = 0 then
                                                                    wq_ix 0 1 fun t465 =>
                                                                    if wq_w (wq_cmp (S464 316 t465) (wq_w r459)) = 0 then
                                                                      rec (y4 + 6) S464
                                                                    else
                                                                      some (0, S464)
                                                                  else
                                                                    rec (y4 + 6) S464
                                                                else
                                                                  some (0, S464)
                                                              else
                                                                if wq_w (wq_and (X t1) 63) = 30 then
                                                                  wq_bd (f_X8_nights (wq_cls S)) fun r466 S467 =>
                                                                  wq_lt (wq_emb 0 284 S S467) fun S468 =>
                                                                  wq_bd (f_X9_nights (wq_mdl S468)) fun r469 S470 =>
                                                                  wq_lt (wq_emb 284 32 S468 S470) fun S471 =>
                                                                  if wq_w r466 = wq_w r469 then
                                                                    rec (y4 + 6) S471
                                                                  else
                                                                    some (0, S471)
                                                                else
                                                                  if wq_w (wq_and (X t1) 63) = 31 then
                                                                    wq_bd (f_X8_paid (wq_cls S)) fun r472 S473 =>
                                                                    wq_lt (wq_emb 0 284 S S473) fun S474 =>
                                                                    wq_bd (f_X9_paid (wq_mdl S474)) fun r475 S476 =>
                                                                    wq_lt (wq_emb 284 32 S474 S476) fun S477 =>
                                                                    if wq_w r472 = wq_w r475 then
                                                                      rec (y4 + 6) S477
                                                                    else
                                                                      some (0, S477)
                                                                  else
                                                                    if wq_w (wq_and (X t1) 63) = 32 then
                                                                      wq_bd (f_X8_left (wq_cls S)) fun r478 S479 =>
                                                                      wq_lt (wq_emb 0 284 S S479) fun S480 =>
                                                                      wq_bd (f_X9_left (wq_mdl S480)) fun r481 S482 =>
                                                                      wq_lt (wq_emb 284 32 S480 S482) fun S483 =>
                                                                      if wq_w r478 = wq_w r481 then
                                                                        rec (y4 + 6) S483
                                                                      else
                                                                        some (0, S483)
                                                                    else
                                                                      if wq_w (wq_and (X t1) 63) = 33 then
                                                                        wq_bd (f_X8_owed (wq_cls S)) fun r484 S485 =>
                                                                        wq_lt (wq_emb 0 284 S S485) fun S486 =>
                                                                        wq_bd (f_X9_owed (wq_mdl S486)) fun r487 S488 =>
                                                                        wq_lt (wq_emb 284 32 S486 S488) fun S489 =>
                                                                        if wq_w r484 = wq_w r487 then
                                                                          rec (y4 + 6) S489
                                                                        else
                                                                          some (0, S489)
                                                                      else
                                                                        if wq_w (wq_and (X t1) 63) = 34 then
                                                                          wq_ix (y4 + 1) LL fun t490 =>
                                                                          wq_bd (f_L_kept (X t490) S) fun r491 S492 =>
                                                                          wq_ix (y4 + 1) LL fun t494 =>
                                                                          wq_bd (f_X9_kept (X t494) (wq_mdl S492)) fun r495 S496 =>
                                                                          wq_lt (wq_emb 284 32 S492 S496) fun S497 =>
                                                                          wq_bd (f_X9_thrown (wq_mdl S497)) fun r498 S499 =>
                                                                          wq_lt (wq_emb 284 32 S497 S499) fun S500 =>
                                                                          if wq_w r498 = wq_w r491 then
                                                                            if wq_w r491 = 0 then
                                                                              wq_ix 0 1 fun t501 =>
                                                                              if wq_w (wq_cmp (S500 316 t501) (wq_w r495)) = 0 then
                                                                                rec (y4 + 6) S500
                                                                              else
                                                                                some (0, S500)
                                                                            else
                                                                              rec (y4 + 6) S500
                                                                          else
                                                                            some (0, S500)
                                                                        else
                                                                          if wq_w (wq_and (X t1) 63) = 35 then
                                                                            wq_ix (y4 + 1) LL fun t502 =>
                                                                            wq_bd (f_L_keptSum (X t502) S) fun r503 S504 =>
                                                                            wq_ix (y4 + 1) LL fun t506 =>
                                                                            wq_bd (f_X9_keptSum (X t506) (wq_mdl S504)) fun r507 S508 =>
                                                                            wq_lt (wq_emb 284 32 S504 S508) fun S509 =>
                                                                            wq_bd (f_X9_thrown (wq_mdl S509)) fun r510 S511 =>
                                                                            wq_lt (wq_emb 284 32 S509 S511) fun S512 =>
                                                                            if wq_w r510 = wq_w r503 then
                                                                              if wq_w r503 = 0 then
                                                                                wq_ix 0 1 fun t513 =>
                                                                                if wq_w (wq_cmp (S512 316 t513) (wq_w r507)) = 0 then
                                                                                  rec (y4 + 6) S512
                                                                                else
                                                                                  some (0, S512)
                                                                              else
                                                                                rec (y4 + 6) S512
                                                                            else
                                                                              some (0, S512)
                                                                          else
                                                                            if wq_w (wq_and (X t1) 63) = 36 then
                                                                              wq_ix (y4 + 1) LL fun t514 =>
                                                                              wq_bd (f_L_keptIn (X t514) S) fun r515 S516 =>
                                                                              wq_ix (y4 + 1) LL fun t518 =>
                                                                              wq_bd (f_X9_keptIn (X t518) (wq_mdl S516)) fun r519 S520 =>
                                                                              wq_lt (wq_emb 284 32 S516 S520) fun S521 =>
                                                                              wq_bd (f_X9_thrown (wq_mdl S521)) fun r522 S523 =>
                                                                              wq_lt (wq_emb 284 32 S521 S523) fun S524 =>
                                                                              if wq_w r522 = wq_w r515 then
                                                                                if wq_w r515 = 0 then
                                                                                  wq_ix 0 1 fun t525 =>
                                                                                  if wq_w (wq_cmp (S524 316 t525) (wq_w r519)) = 0 then
                                                                                    rec (y4 + 6) S524
                                                                                  else
                                                                                    some (0, S524)
                                                                                else
                                                                                  rec (y4 + 6) S524
                                                                              else
                                                                                some (0, S524)
                                                                            else
                                                                              rec (y4 + 6) S
def l_L_law (X : Nat → Int) (LL : Nat) (kx : wq_St → Option (Int × wq_St)) : Nat → Int → wq_St → Option (Int × wq_St)
  | 0, _, _ => none
  | n + 1, y4, S => b_L_law X LL kx (l_L_law X LL kx n) y4 S
