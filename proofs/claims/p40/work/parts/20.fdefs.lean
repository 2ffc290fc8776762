def f_X1_compare (k0 : Nat) (x1 : Int) (x2 : Int) (x3 : Int) (x4 : Int) (S : wq_St) : Option (Int × wq_St) :=
  wq_lt (wq_set S k0 1 x1) fun S1 =>
  wq_lt (wq_set S1 k0 2 x2) fun S2 =>
  wq_lt (wq_set S2 k0 0 x3) fun S3 =>
  some (0, wq_set S3 k0 3 x4)
def f_X1_join (k0 : Nat) (x1 : Int) (x2 : Int) (x3 : Int) (x4 : Int) (S : wq_St) : Option (Int × wq_St) :=
  wq_lt (wq_set S k0 1 x1) fun S1 =>
  wq_lt (wq_set S1 k0 2 x2) fun S2 =>
  wq_lt (wq_set S2 k0 0 3) fun S3 =>
  wq_lt (wq_set S3 k0 4 x3) fun S4 =>
  some (0, wq_set S4 k0 5 x4)
def f_X1_stepIn (k0 : Nat) (k1 : Nat) (S : wq_St) : Option (Int × wq_St) :=
  wq_ix (S k0 1) 3 fun t1 =>
  if wq_w (S k0 0) = wq_w 3 then
    wq_ix (S k0 4) 3 fun t2 =>
    if wq_w (S (k1 + 3) t2) ≤ wq_w (S (k1 + 3) t1) then
      some (S (k1 + 3) t1, S)
    else
      wq_ix (S k0 4) 3 fun t3 =>
      some (S (k1 + 3) t3, S)
  else
    some (S (k1 + 3) t1, S)
def j_X1_asksForOneValueOf_33 (q0 : Nat) (j1 : Int) (j2 : Int) (S : wq_St) : Option (Int × wq_St) :=
  if wq_w (S q0 0) = wq_w 3 then
    if wq_w (S q0 4) = wq_w j1 then
      if wq_w (S q0 5) = wq_w j2 then
        some (1, S)
      else
        some (0, S)
    else
      some (0, S)
  else
    some (0, S)
def j_X1_asksForOneValueOf_15 (q0 : Nat) (j1 : Int) (j2 : Int) (S : wq_St) : Option (Int × wq_St) :=
  if wq_w (S q0 1) = wq_w j1 then
    if wq_w (S q0 2) = wq_w j2 then
      some (1, S)
    else
      j_X1_asksForOneValueOf_33 q0 j1 j2 S
  else
    j_X1_asksForOneValueOf_33 q0 j1 j2 S
def f_X1_asksForOneValueOf (k0 : Nat) (x1 : Int) (x2 : Int) (S : wq_St) : Option (Int × wq_St) :=
  if wq_w (S k0 0) = 0 then
    j_X1_asksForOneValueOf_15 k0 x1 x2 S
  else
    if wq_w (S k0 0) = wq_w 3 then
      j_X1_asksForOneValueOf_15 k0 x1 x2 S
    else
      j_X1_asksForOneValueOf_33 k0 x1 x2 S
def b_X7_takeSample_10 (q0 : Nat) (c1 : Int) (kx : Int → wq_St → Option (Int × wq_St)) (rec : Int → Int → Int → Int → wq_St → Option (Int × wq_St)) (y2 : Int) (y3 : Int) (y4 : Int) (y5 : Int) (S : wq_St) : Option (Int × wq_St) :=
  if wq_w (S q0 5) ≤ wq_w y5 then
    kx y2 S
  else
    wq_ix y5 40 fun t1 =>
    if wq_w (S (q0 + 43) t1) = 0 then
      rec y2 y3 y4 (y5 + 1) S
    else
      if wq_w y3 = wq_w y4 then
        wq_ix y2 40 fun t2 =>
        wq_lt (wq_set S (q0 + 44) t2 y5) fun S3 =>
        rec (y2 + 1) (y3 + 1) (y4 + c1) (y5 + 1) S3
      else
        rec y2 (y3 + 1) y4 (y5 + 1) S
def l_X7_takeSample_10 (q0 : Nat) (c1 : Int) (kx : Int → wq_St → Option (Int × wq_St)) (n : Nat) (y2 : Int) (y3 : Int) (y4 : Int) (y5 : Int) (S : wq_St) : Option (Int × wq_St) :=
  wq_loop (fun (g : Int × Int × Int × Int × wq_St → Option (Int × wq_St)) (x : Int × Int × Int × Int × wq_St) => b_X7_takeSample_10 q0 c1 kx (fun y2 y3 y4 y5 S => g (y2, y3, y4, y5, S)) x.1 x.2.1 x.2.2.1 x.2.2.2.1 x.2.2.2.2) n (y2, y3, y4, y5, S)
theorem l_X7_takeSample_10_s (q0 : Nat) (c1 : Int) (kx : Int → wq_St → Option (Int × wq_St)) (n : Nat) (y2 : Int) (y3 : Int) (y4 : Int) (y5 : Int) (S : wq_St) : l_X7_takeSample_10 q0 c1 kx (n + 1) y2 y3 y4 y5 S = b_X7_takeSample_10 q0 c1 kx (l_X7_takeSample_10 q0 c1 kx n) y2 y3 y4 y5 S := rfl
theorem l_X7_takeSample_10_0 (q0 : Nat) (c1 : Int) (kx : Int → wq_St → Option (Int × wq_St)) (y2 : Int) (y3 : Int) (y4 : Int) (y5 : Int) (S : wq_St) : l_X7_takeSample_10 q0 c1 kx 0 y2 y3 y4 y5 S = none := rfl
def f_X7_takeSample (k0 : Nat) (x1 : Int) (S : wq_St) : Option (Int × wq_St) :=
  l_X7_takeSample_10 k0 x1 (fun u4 S5 =>
    some (u4, S5)) wq_fu 0 0 0 0 S
def b_X3_clear_2 (q0 : Nat) (kx : wq_St → Option (Int × wq_St)) (rec : Int → wq_St → Option (Int × wq_St)) (y1 : Int) (S : wq_St) : Option (Int × wq_St) :=
  if wq_w 3 ≤ wq_w y1 then
    kx S
  else
    wq_ix y1 3 fun t1 =>
    wq_lt (wq_set S (q0 + 3) t1 3) fun S2 =>
    rec (y1 + 1) S2
def l_X3_clear_2 (q0 : Nat) (kx : wq_St → Option (Int × wq_St)) (n : Nat) (y1 : Int) (S : wq_St) : Option (Int × wq_St) :=
  wq_loop (fun (g : Int × wq_St → Option (Int × wq_St)) (x : Int × wq_St) => b_X3_clear_2 q0 kx (fun y1 S => g (y1, S)) x.1 x.2) n (y1, S)
theorem l_X3_clear_2_s (q0 : Nat) (kx : wq_St → Option (Int × wq_St)) (n : Nat) (y1 : Int) (S : wq_St) : l_X3_clear_2 q0 kx (n + 1) y1 S = b_X3_clear_2 q0 kx (l_X3_clear_2 q0 kx n) y1 S := rfl
theorem l_X3_clear_2_0 (q0 : Nat) (kx : wq_St → Option (Int × wq_St)) (y1 : Int) (S : wq_St) : l_X3_clear_2 q0 kx 0 y1 S = none := rfl
def f_X3_clear (k0 : Nat) (S : wq_St) : Option (Int × wq_St) :=
  l_X3_clear_2 k0 (fun S3 =>
    some (0, S3)) wq_fu 0 S
def b_X3_copyFrom_3 (q0 : Nat) (q1 : Nat) (c2 : Int) (kx : wq_St → Option (Int × wq_St)) (rec : Int → wq_St → Option (Int × wq_St)) (y4 : Int) (S : wq_St) : Option (Int × wq_St) :=
  if wq_w 3 ≤ wq_w y4 then
    kx S
  else
    wq_ix y4 3 fun t1 =>
    wq_ix y4 3 fun t2 =>
    wq_lt (wq_set S (q0 + 1) t2 (S (q1 + 1) t1)) fun S3 =>
    wq_ix y4 3 fun t4 =>
    wq_ix y4 3 fun t5 =>
    wq_lt (wq_set S3 (q0 + 2) t5 (S3 (q1 + 2) t4)) fun S6 =>
    wq_ix y4 3 fun t7 =>
    wq_ix y4 3 fun t8 =>
    wq_lt (wq_set S6 (q0 + 3) t8 (S6 (q1 + 3) t7)) fun S9 =>
    rec (y4 + 1) S9
def l_X3_copyFrom_3 (q0 : Nat) (q1 : Nat) (c2 : Int) (kx : wq_St → Option (Int × wq_St)) (n : Nat) (y4 : Int) (S : wq_St) : Option (Int × wq_St) :=
  wq_loop (fun (g : Int × wq_St → Option (Int × wq_St)) (x : Int × wq_St) => b_X3_copyFrom_3 q0 q1 c2 kx (fun y4 S => g (y4, S)) x.1 x.2) n (y4, S)
theorem l_X3_copyFrom_3_s (q0 : Nat) (q1 : Nat) (c2 : Int) (kx : wq_St → Option (Int × wq_St)) (n : Nat) (y4 : Int) (S : wq_St) : l_X3_copyFrom_3 q0 q1 c2 kx (n + 1) y4 S = b_X3_copyFrom_3 q0 q1 c2 kx (l_X3_copyFrom_3 q0 q1 c2 kx n) y4 S := rfl
theorem l_X3_copyFrom_3_0 (q0 : Nat) (q1 : Nat) (c2 : Int) (kx : wq_St → Option (Int × wq_St)) (y4 : Int) (S : wq_St) : l_X3_copyFrom_3 q0 q1 c2 kx 0 y4 S = none := rfl
def f_X3_copyFrom (k0 : Nat) (k1 : Nat) (x2 : Int) (S : wq_St) : Option (Int × wq_St) :=
  l_X3_copyFrom_3 k0 k1 x2 (fun S10 =>
    some (0, wq_set S10 k0 3 x2)) wq_fu 0 S
def f_X3_place (k0 : Nat) (x1 : Int) (x2 : Int) (S : wq_St) : Option (Int × wq_St) :=
  wq_ix x1 3 fun t1 =>
  wq_lt (wq_set S (k0 + 1) t1 x2) fun S2 =>
  wq_ix x2 3 fun t3 =>
  some (0, wq_set S2 (k0 + 3) t3 x1)
def b_X5_conditionForIndex_11 (q0 : Nat) (q1 : Nat) (c2 : Int) (c3 : Int) (c4 : Int) (kx : wq_St → Option (Int × wq_St)) (rec : Int → wq_St → Option (Int × wq_St)) (y5 : Int) (S : wq_St) : Option (Int × wq_St) :=
  if wq_w (S q0 4) ≤ wq_w y5 then
    kx S
  else
    wq_ix y5 6 fun t2 =>
    wq_bd (f_X1_stepIn (q0 + 3 + t2) q1 S) fun r3 S4 =>
    if wq_w r3 = wq_w c2 then
      wq_bd (f_X1_asksForOneValueOf (q0 + 3 + t2) c4 c3 S4) fun r5 S6 =>
      if wq_w r5 = 0 then
        rec (y5 + 1) S6
      else
        some (y5, S6)
    else
      rec (y5 + 1) S4
def l_X5_conditionForIndex_11 (q0 : Nat) (q1 : Nat) (c2 : Int) (c3 : Int) (c4 : Int) (kx : wq_St → Option (Int × wq_St)) (n : Nat) (y5 : Int) (S : wq_St) : Option (Int × wq_St) :=
  wq_loop (fun (g : Int × wq_St → Option (Int × wq_St)) (x : Int × wq_St) => b_X5_conditionForIndex_11 q0 q1 c2 c3 c4 kx (fun y5 S => g (y5, S)) x.1 x.2) n (y5, S)
theorem l_X5_conditionForIndex_11_s (q0 : Nat) (q1 : Nat) (c2 : Int) (c3 : Int) (c4 : Int) (kx : wq_St → Option (Int × wq_St)) (n : Nat) (y5 : Int) (S : wq_St) : l_X5_conditionForIndex_11 q0 q1 c2 c3 c4 kx (n + 1) y5 S = b_X5_conditionForIndex_11 q0 q1 c2 c3 c4 kx (l_X5_conditionForIndex_11 q0 q1 c2 c3 c4 kx n) y5 S := rfl
theorem l_X5_conditionForIndex_11_0 (q0 : Nat) (q1 : Nat) (c2 : Int) (c3 : Int) (c4 : Int) (kx : wq_St → Option (Int × wq_St)) (y5 : Int) (S : wq_St) : l_X5_conditionForIndex_11 q0 q1 c2 c3 c4 kx 0 y5 S = none := rfl
def f_X5_conditionForIndex (k0 : Nat) (k1 : Nat) (x2 : Int) (x3 : Int) (S : wq_St) : Option (Int × wq_St) :=
  wq_ix x2 3 fun t1 =>
  l_X5_conditionForIndex_11 k0 k1 x2 x3 (S (k1 + 1) t1) (fun S7 =>
    some ((-1), S7)) wq_fu 0 S
def b_X4_takeCheapestWay_48 (q1 : Nat) (c2 : Int) (c3 : Int) (q5 : Nat) (c6 : Int) (kx : Int → wq_St → Option (Int × wq_St)) (rec : Int → Int → wq_St → Option (Int × wq_St)) (y8 : Int) (y10 : Int) (S : wq_St) : Option (Int × wq_St) :=
  if wq_w (S q5 4) ≤ wq_w y10 then
    kx y8 S
  else
    wq_ix y10 3 fun t7 =>
    if wq_w (S (q5 + 45 + t7) 0) = 0 then
      rec y8 (y10 + 1) S
    else
      wq_bd (f_X5_conditionForIndex q1 272 c2 y10 S) fun r8 S9 =>
      if wq_w r8 = wq_w (-1) then
        rec y8 (y10 + 1) S9
      else
        wq_gd (¬ wq_v (wq_w (wq_max (S9 (q5 + 45 + t7) 1) 1)) = 0) <|
        wq_lt (c3 + (wq_divL c6 (wq_w (wq_max (S9 (q5 + 45 + t7) 1) 1)))) fun a10 =>
        if 0 ≤ wq_w (wq_cmp a10 y8) then
          rec y8 (y10 + 1) S9
        else
          wq_ix c2 3 fun t11 =>
          wq_lt (wq_set S9 (272 + 2) t11 y10) fun S12 =>
          rec a10 (y10 + 1) S12
def l_X4_takeCheapestWay_48 (q1 : Nat) (c2 : Int) (c3 : Int) (q5 : Nat) (c6 : Int) (kx : Int → wq_St → Option (Int × wq_St)) (n : Nat) (y8 : Int) (y10 : Int) (S : wq_St) : Option (Int × wq_St) :=
  wq_loop (fun (g : Int × Int × wq_St → Option (Int × wq_St)) (x : Int × Int × wq_St) => b_X4_takeCheapestWay_48 q1 c2 c3 q5 c6 kx (fun y8 y10 S => g (y8, y10, S)) x.1 x.2.1 x.2.2) n (y8, y10, S)
theorem l_X4_takeCheapestWay_48_s (q1 : Nat) (c2 : Int) (c3 : Int) (q5 : Nat) (c6 : Int) (kx : Int → wq_St → Option (Int × wq_St)) (n : Nat) (y8 : Int) (y10 : Int) (S : wq_St) : l_X4_takeCheapestWay_48 q1 c2 c3 q5 c6 kx (n + 1) y8 y10 S = b_X4_takeCheapestWay_48 q1 c2 c3 q5 c6 kx (l_X4_takeCheapestWay_48 q1 c2 c3 q5 c6 kx n) y8 y10 S := rfl
theorem l_X4_takeCheapestWay_48_0 (q1 : Nat) (c2 : Int) (c3 : Int) (q5 : Nat) (c6 : Int) (kx : Int → wq_St → Option (Int × wq_St)) (y8 : Int) (y10 : Int) (S : wq_St) : l_X4_takeCheapestWay_48 q1 c2 c3 q5 c6 kx 0 y8 y10 S = none := rfl
def f_X4_takeCheapestWay (k1 : Nat) (x2 : Int) (x3 : Int) (S : wq_St) : Option (Int × wq_St) :=
  wq_ix x2 3 fun t1 =>
  wq_ix (S (272 + 1) t1) 3 fun t2 =>
  wq_ix (S (k1 + 1) t2) 4 fun t3 =>
  wq_lt (x3 * (wq_w (S (6 + 48 * t3) 7))) fun a4 =>
  wq_ix x2 3 fun t5 =>
  wq_lt (wq_set S (272 + 2) t5 (-1)) fun S6 =>
  l_X4_takeCheapestWay_48 k1 x2 x3 (6 + 48 * t3) a4 (fun u13 S14 =>
    some (u13, S14)) wq_fu a4 0 S6
def f_X4_share (x0 : Int) (x1 : Int) (k2 : Nat) (S : wq_St) : Option (Int × wq_St) :=
  wq_lt (wq_max (((S k2 3) - (S k2 2)) + 1) 1) fun a1 =>
  wq_gd (¬ wq_v (wq_w a1) = 0) <|
  some (wq_divL (x0 * (wq_w (wq_max 0 (wq_min x1 a1)))) (wq_w a1), S)
def f_X4_narrow (k1 : Nat) (k2 : Nat) (x3 : Int) (S : wq_St) : Option (Int × wq_St) :=
  wq_ix (S k2 1) 3 fun t1 =>
  wq_ix (S (k1 + 1) t1) 4 fun t2 =>
  wq_ix (S k2 2) 3 fun t3 =>
  wq_lt (wq_max (S ((6 + 48 * t2) + 45 + t3) 1) 1) fun a4 =>
  if wq_w (S k2 0) = 0 then
    wq_gd (¬ wq_v (wq_w a4) = 0) <|
    some (wq_divL x3 (wq_w a4), S)
  else
    if wq_w (S k2 0) = 1 then
      wq_bd (f_X4_share x3 ((S k2 3) - (S ((6 + 48 * t2) + 45 + t3) 2)) ((6 + 48 * t2) + 45 + t3) S) fun r5 S6 =>
      some (r5, S6)
    else
      if wq_w (S k2 0) = 2 then
        wq_bd (f_X4_share x3 ((S ((6 + 48 * t2) + 45 + t3) 3) - (S k2 3)) ((6 + 48 * t2) + 45 + t3) S) fun r7 S8 =>
        some (r7, S8)
      else
        wq_ix (S k2 4) 3 fun t9 =>
        wq_ix (S (k1 + 1) t9) 4 fun t10 =>
        wq_ix (S k2 5) 3 fun t11 =>
        wq_gd (¬ wq_v (wq_w (wq_max a4 (S ((6 + 48 * t10) + 45 + t11) 1))) = 0) <|
        some (wq_divL x3 (wq_w (wq_max a4 (S ((6 + 48 * t10) + 45 + t11) 1))), S)
def b_X4_choicesBehind_34 (q1 : Nat) (c2 : Int) (kx : Int → wq_St → Option (Int × wq_St)) (rec : Int → Int → wq_St → Option (Int × wq_St)) (y6 : Int) (y8 : Int) (S : wq_St) : Option (Int × wq_St) :=
  if wq_w (S q1 4) ≤ wq_w y8 then
    kx y6 S
  else
    wq_ix y8 6 fun t5 =>
    wq_bd (f_X1_stepIn (q1 + 3 + t5) 272 S) fun r6 S7 =>
    if wq_w r6 = wq_w c2 then
      wq_ix y8 6 fun t8 =>
      wq_bd (f_X4_narrow q1 (q1 + 3 + t8) y6 S7) fun r9 S10 =>
      rec r9 (y8 + 1) S10
    else
      rec y6 (y8 + 1) S7
def l_X4_choicesBehind_34 (q1 : Nat) (c2 : Int) (kx : Int → wq_St → Option (Int × wq_St)) (n : Nat) (y6 : Int) (y8 : Int) (S : wq_St) : Option (Int × wq_St) :=
  wq_loop (fun (g : Int × Int × wq_St → Option (Int × wq_St)) (x : Int × Int × wq_St) => b_X4_choicesBehind_34 q1 c2 kx (fun y6 y8 S => g (y6, y8, S)) x.1 x.2.1 x.2.2) n (y6, y8, S)
theorem l_X4_choicesBehind_34_s (q1 : Nat) (c2 : Int) (kx : Int → wq_St → Option (Int × wq_St)) (n : Nat) (y6 : Int) (y8 : Int) (S : wq_St) : l_X4_choicesBehind_34 q1 c2 kx (n + 1) y6 y8 S = b_X4_choicesBehind_34 q1 c2 kx (l_X4_choicesBehind_34 q1 c2 kx n) y6 y8 S := rfl
theorem l_X4_choicesBehind_34_0 (q1 : Nat) (c2 : Int) (kx : Int → wq_St → Option (Int × wq_St)) (y6 : Int) (y8 : Int) (S : wq_St) : l_X4_choicesBehind_34 q1 c2 kx 0 y6 y8 S = none := rfl
def f_X4_choicesBehind (k1 : Nat) (x2 : Int) (x3 : Int) (S : wq_St) : Option (Int × wq_St) :=
  wq_ix x2 3 fun t1 =>
  wq_ix (S (272 + 1) t1) 3 fun t2 =>
  wq_ix (S (k1 + 1) t2) 4 fun t3 =>
  wq_lt (x3 * (wq_w (S (6 + 48 * t3) 7))) fun a4 =>
  l_X4_choicesBehind_34 k1 x2 (fun u11 S12 =>
    some (u11, S12)) wq_fu a4 0 S
def b_X4_extend_42 (self : Nat → Int → Int → Int → wq_St → Option (Int × wq_St)) (q1 : Nat) (c2 : Int) (c3 : Int) (c5 : Int) (kx : wq_St → Option (Int × wq_St)) (rec : Int → wq_St → Option (Int × wq_St)) (y8 : Int) (S : wq_St) : Option (Int × wq_St) :=
  if wq_w (S q1 3) ≤ wq_w y8 then
    kx S
  else
    wq_ix y8 3 fun t1 =>
    if wq_w (S (272 + 3) t1) = wq_w 3 then
      wq_bd (f_X3_place 272 c2 y8 S) fun r2 S3 =>
      wq_bd (f_X4_takeCheapestWay q1 c2 c3 S3) fun r4 S5 =>
      wq_bd (f_X4_choicesBehind q1 c2 c3 S5) fun r6 S7 =>
      wq_bd (self q1 (c2 + 1) r6 (c5 + r4) S7) fun r8 S9 =>
      wq_ix y8 3 fun t10 =>
      wq_lt (wq_set S9 (272 + 3) t10 3) fun S11 =>
      rec (y8 + 1) S11
    else
      rec (y8 + 1) S
def l_X4_extend_42 (self : Nat → Int → Int → Int → wq_St → Option (Int × wq_St)) (q1 : Nat) (c2 : Int) (c3 : Int) (c5 : Int) (kx : wq_St → Option (Int × wq_St)) (n : Nat) (y8 : Int) (S : wq_St) : Option (Int × wq_St) :=
  wq_loop (fun (g : Int × wq_St → Option (Int × wq_St)) (x : Int × wq_St) => b_X4_extend_42 self q1 c2 c3 c5 kx (fun y8 S => g (y8, S)) x.1 x.2) n (y8, S)
theorem l_X4_extend_42_s (self : Nat → Int → Int → Int → wq_St → Option (Int × wq_St)) (q1 : Nat) (c2 : Int) (c3 : Int) (c5 : Int) (kx : wq_St → Option (Int × wq_St)) (n : Nat) (y8 : Int) (S : wq_St) : l_X4_extend_42 self q1 c2 c3 c5 kx (n + 1) y8 S = b_X4_extend_42 self q1 c2 c3 c5 kx (l_X4_extend_42 self q1 c2 c3 c5 kx n) y8 S := rfl
theorem l_X4_extend_42_0 (self : Nat → Int → Int → Int → wq_St → Option (Int × wq_St)) (q1 : Nat) (c2 : Int) (c3 : Int) (c5 : Int) (kx : wq_St → Option (Int × wq_St)) (y8 : Int) (S : wq_St) : l_X4_extend_42 self q1 c2 c3 c5 kx 0 y8 S = none := rfl
def fb_X4_extend (self : Nat → Int → Int → Int → wq_St → Option (Int × wq_St)) (k1 : Nat) (x2 : Int) (x3 : Int) (x4 : Int) (S : wq_St) : Option (Int × wq_St) :=
  if wq_w x2 < wq_w (S k1 3) then
    l_X4_extend_42 self k1 x2 x3 x4 (fun S12 =>
      some (0, S12)) wq_fu 0 S
  else
    if 0 ≤ wq_w (wq_cmp x4 (S 276 3)) then
      some (0, S)
    else
      wq_bd (f_X3_copyFrom 276 272 x4 S) fun r13 S14 =>
      some (0, S14)
def f_X4_extend : Nat → Nat → Int → Int → Int → wq_St → Option (Int × wq_St)
  | 0, _, _, _, _, _ => none
  | n + 1, k1, x2, x3, x4, S => fb_X4_extend (f_X4_extend n) k1 x2 x3 x4 S
def f_X4_choose (k1 : Nat) (S : wq_St) : Option (Nat × wq_St) :=
  wq_bd (f_X3_clear 272 S) fun r1 S2 =>
  wq_lt (wq_set S2 276 3 1099511627776) fun S3 =>
  wq_bd (f_X4_extend wq_dp k1 0 1000 0 S3) fun r4 S5 =>
  some (276, S5)
def f_X3_foretoldMinutes (k0 : Nat) (S : wq_St) : Option (Int × wq_St) :=
  wq_gd (¬ wq_v 1000 = 0) <|
  some (wq_divL (((S k0 3) + 1000) - 1) 1000, S)
def b_X2_takePay_4 (kx : Int → wq_St → Option (Int × wq_St)) (rec : Int → Int → wq_St → Option (Int × wq_St)) (y2 : Int) (y3 : Int) (S : wq_St) : Option (Int × wq_St) :=
  if wq_w 4 ≤ wq_w y3 then
    kx y2 S
  else
    wq_ix y3 4 fun t1 =>
    if wq_w (S (6 + 48 * t1) 8) = 0 then
      rec y2 (y3 + 1) S
    else
      wq_ix y3 4 fun t2 =>
      wq_bd (f_X7_takeSample (6 + 48 * t2) (S 282 5) S) fun r3 S4 =>
      rec (y2 + r3) (y3 + 1) S4
def l_X2_takePay_4 (kx : Int → wq_St → Option (Int × wq_St)) (n : Nat) (y2 : Int) (y3 : Int) (S : wq_St) : Option (Int × wq_St) :=
  wq_loop (fun (g : Int × Int × wq_St → Option (Int × wq_St)) (x : Int × Int × wq_St) => b_X2_takePay_4 kx (fun y2 y3 S => g (y2, y3, S)) x.1 x.2.1 x.2.2) n (y2, y3, S)
theorem l_X2_takePay_4_s (kx : Int → wq_St → Option (Int × wq_St)) (n : Nat) (y2 : Int) (y3 : Int) (S : wq_St) : l_X2_takePay_4 kx (n + 1) y2 y3 S = b_X2_takePay_4 kx (l_X2_takePay_4 kx n) y2 y3 S := rfl
theorem l_X2_takePay_4_0 (kx : Int → wq_St → Option (Int × wq_St)) (y2 : Int) (y3 : Int) (S : wq_St) : l_X2_takePay_4 kx 0 y2 y3 S = none := rfl
def b_X2_takePay_45 (kx : Int → wq_St → Option (Int × wq_St)) (rec : Int → Int → wq_St → Option (Int × wq_St)) (y2 : Int) (y3 : Int) (S : wq_St) : Option (Int × wq_St) :=
  if wq_w 8 ≤ wq_w y3 then
    kx y2 S
  else
    wq_ix y3 8 fun t7 =>
    if wq_w (S (199 + 9 * t7) 7) = 0 then
      rec y2 (y3 + 1) S
    else
      wq_ix y3 8 fun t8 =>
      wq_bd (f_X4_choose (199 + 9 * t8) S) fun r9 S10 =>
      wq_bd (f_X3_foretoldMinutes r9 S10) fun r11 S12 =>
      rec (y2 + r11) (y3 + 1) S12
def l_X2_takePay_45 (kx : Int → wq_St → Option (Int × wq_St)) (n : Nat) (y2 : Int) (y3 : Int) (S : wq_St) : Option (Int × wq_St) :=
  wq_loop (fun (g : Int × Int × wq_St → Option (Int × wq_St)) (x : Int × Int × wq_St) => b_X2_takePay_45 kx (fun y2 y3 S => g (y2, y3, S)) x.1 x.2.1 x.2.2) n (y2, y3, S)
theorem l_X2_takePay_45_s (kx : Int → wq_St → Option (Int × wq_St)) (n : Nat) (y2 : Int) (y3 : Int) (S : wq_St) : l_X2_takePay_45 kx (n + 1) y2 y3 S = b_X2_takePay_45 kx (l_X2_takePay_45 kx n) y2 y3 S := rfl
theorem l_X2_takePay_45_0 (kx : Int → wq_St → Option (Int × wq_St)) (y2 : Int) (y3 : Int) (S : wq_St) : l_X2_takePay_45 kx 0 y2 y3 S = none := rfl
def f_X2_takePay (x1 : Int) (S : wq_St) : Option (Int × wq_St) :=
  l_X2_takePay_4 (fun u5 S6 =>
    l_X2_takePay_45 (fun u13 S14 =>
      wq_lt (wq_set S14 282 7 ((S14 282 7) + u13)) fun S15 =>
      some (0, wq_set S15 282 8 u13)) wq_fu u5 0 S6) wq_fu x1 0 S
def b_X7_isNewInSample_2 (q0 : Nat) (c1 : Int) (c2 : Int) (kx : wq_St → Option (Int × wq_St)) (rec : Int → wq_St → Option (Int × wq_St)) (y3 : Int) (S : wq_St) : Option (Int × wq_St) :=
  if wq_w c2 ≤ wq_w y3 then
    kx S
  else
    wq_ix y3 40 fun t1 =>
    wq_ix (S (q0 + 44) t1) 40 fun t2 =>
    wq_ix c1 3 fun t3 =>
    wq_ix c2 40 fun t4 =>
    wq_ix (S (q0 + 44) t4) 40 fun t5 =>
    wq_ix c1 3 fun t6 =>
    if wq_w (S (q0 + 3 + t2) t3) = wq_w (S (q0 + 3 + t5) t6) then
      some (0, S)
    else
      rec (y3 + 1) S
def l_X7_isNewInSample_2 (q0 : Nat) (c1 : Int) (c2 : Int) (kx : wq_St → Option (Int × wq_St)) (n : Nat) (y3 : Int) (S : wq_St) : Option (Int × wq_St) :=
  wq_loop (fun (g : Int × wq_St → Option (Int × wq_St)) (x : Int × wq_St) => b_X7_isNewInSample_2 q0 c1 c2 kx (fun y3 S => g (y3, S)) x.1 x.2) n (y3, S)
theorem l_X7_isNewInSample_2_s (q0 : Nat) (c1 : Int) (c2 : Int) (kx : wq_St → Option (Int × wq_St)) (n : Nat) (y3 : Int) (S : wq_St) : l_X7_isNewInSample_2 q0 c1 c2 kx (n + 1) y3 S = b_X7_isNewInSample_2 q0 c1 c2 kx (l_X7_isNewInSample_2 q0 c1 c2 kx n) y3 S := rfl
theorem l_X7_isNewInSample_2_0 (q0 : Nat) (c1 : Int) (c2 : Int) (kx : wq_St → Option (Int × wq_St)) (y3 : Int) (S : wq_St) : l_X7_isNewInSample_2 q0 c1 c2 kx 0 y3 S = none := rfl
def f_X7_isNewInSample (k0 : Nat) (x1 : Int) (x2 : Int) (S : wq_St) : Option (Int × wq_St) :=
  l_X7_isNewInSample_2 k0 x1 x2 (fun S7 =>
    some (1, S7)) wq_fu 0 S
def j_X7_tellColumn_50 (kx : Int → Int → Int → wq_St → Option (Int × wq_St)) (rec : Int → Int → Int → Int → wq_St → Option (Int × wq_St)) (q0 : Nat) (j1 : Int) (j2 : Int) (j3 : Int) (j4 : Int) (j5 : Int) (j6 : Int) (j7 : Int) (j8 : Int) (S : wq_St) : Option (Int × wq_St) :=
  if wq_w j7 = 0 then
    wq_bd (f_X7_isNewInSample q0 j1 j7 S) fun r4 S5 =>
    if wq_w r4 = 0 then
      rec j4 j5 j8 (j7 + 1) S5
    else
      rec (j4 + 1) j5 j8 (j7 + 1) S5
  else
    if wq_w j8 ≤ wq_w j6 then
      wq_bd (f_X7_isNewInSample q0 j1 j7 S) fun r6 S7 =>
      if wq_w r6 = 0 then
        rec j4 j5 j6 (j7 + 1) S7
      else
        rec (j4 + 1) j5 j6 (j7 + 1) S7
    else
      wq_bd (f_X7_isNewInSample q0 j1 j7 S) fun r8 S9 =>
      if wq_w r8 = 0 then
        rec j4 j5 j8 (j7 + 1) S9
      else
        rec (j4 + 1) j5 j8 (j7 + 1) S9
def j_X7_tellColumn_46 (kx : Int → Int → Int → wq_St → Option (Int × wq_St)) (rec : Int → Int → Int → Int → wq_St → Option (Int × wq_St)) (q0 : Nat) (j1 : Int) (j2 : Int) (j3 : Int) (j4 : Int) (j6 : Int) (j7 : Int) (j8 : Int) (S : wq_St) : Option (Int × wq_St) :=
  j_X7_tellColumn_50 kx rec q0 j1 j2 j3 j4 j8 j6 j7 j8 S
def b_X7_tellColumn_12 (q0 : Nat) (c1 : Int) (c2 : Int) (c3 : Int) (kx : Int → Int → Int → wq_St → Option (Int × wq_St)) (rec : Int → Int → Int → Int → wq_St → Option (Int × wq_St)) (y4 : Int) (y5 : Int) (y6 : Int) (y7 : Int) (S : wq_St) : Option (Int × wq_St) :=
  if wq_w c2 ≤ wq_w y7 then
    kx y4 y5 y6 S
  else
    wq_ix y7 40 fun t1 =>
    wq_ix (S (q0 + 44) t1) 40 fun t2 =>
    wq_ix c1 3 fun t3 =>
    if wq_w y7 = 0 then
      j_X7_tellColumn_46 kx rec q0 c1 c2 c3 y4 y6 y7 (S (q0 + 3 + t2) t3) S
    else
      if wq_w y5 ≤ wq_w (S (q0 + 3 + t2) t3) then
        j_X7_tellColumn_50 kx rec q0 c1 c2 c3 y4 y5 y6 y7 (S (q0 + 3 + t2) t3) S
      else
        j_X7_tellColumn_46 kx rec q0 c1 c2 c3 y4 y6 y7 (S (q0 + 3 + t2) t3) S
def l_X7_tellColumn_12 (q0 : Nat) (c1 : Int) (c2 : Int) (c3 : Int) (kx : Int → Int → Int → wq_St → Option (Int × wq_St)) (n : Nat) (y4 : Int) (y5 : Int) (y6 : Int) (y7 : Int) (S : wq_St) : Option (Int × wq_St) :=
  wq_loop (fun (g : Int × Int × Int × Int × wq_St → Option (Int × wq_St)) (x : Int × Int × Int × Int × wq_St) => b_X7_tellColumn_12 q0 c1 c2 c3 kx (fun y4 y5 y6 y7 S => g (y4, y5, y6, y7, S)) x.1 x.2.1 x.2.2.1 x.2.2.2.1 x.2.2.2.2) n (y4, y5, y6, y7, S)
theorem l_X7_tellColumn_12_s (q0 : Nat) (c1 : Int) (c2 : Int) (c3 : Int) (kx : Int → Int → Int → wq_St → Option (Int × wq_St)) (n : Nat) (y4 : Int) (y5 : Int) (y6 : Int) (y7 : Int) (S : wq_St) : l_X7_tellColumn_12 q0 c1 c2 c3 kx (n + 1) y4 y5 y6 y7 S = b_X7_tellColumn_12 q0 c1 c2 c3 kx (l_X7_tellColumn_12 q0 c1 c2 c3 kx n) y4 y5 y6 y7 S := rfl
theorem l_X7_tellColumn_12_0 (q0 : Nat) (c1 : Int) (c2 : Int) (c3 : Int) (kx : Int → Int → Int → wq_St → Option (Int × wq_St)) (y4 : Int) (y5 : Int) (y6 : Int) (y7 : Int) (S : wq_St) : l_X7_tellColumn_12 q0 c1 c2 c3 kx 0 y4 y5 y6 y7 S = none := rfl
def f_X7_tellColumn (k0 : Nat) (x1 : Int) (x2 : Int) (x3 : Int) (S : wq_St) : Option (Int × wq_St) :=
  l_X7_tellColumn_12 k0 x1 x2 x3 (fun u10 u11 u12 S13 =>
    wq_ix x1 3 fun t14 =>
    wq_lt (wq_set S13 (k0 + 45 + t14) 1 (wq_min (u10 * x3) (S13 k0 6))) fun S15 =>
    wq_ix x1 3 fun t16 =>
    wq_lt (wq_set S15 (k0 + 45 + t16) 2 u11) fun S17 =>
    wq_ix x1 3 fun t18 =>
    some (0, wq_set S17 (k0 + 45 + t18) 3 u12)) wq_fu 0 0 0 0 S
def b_X7_renewCounts_16 (q0 : Nat) (c1 : Int) (c2 : Int) (kx : wq_St → Option (Int × wq_St)) (rec : Int → wq_St → Option (Int × wq_St)) (y3 : Int) (S : wq_St) : Option (Int × wq_St) :=
  if wq_w (S q0 4) ≤ wq_w y3 then
    kx S
  else
    wq_bd (f_X7_tellColumn q0 y3 c2 c1 S) fun r4 S5 =>
    rec (y3 + 1) S5
def l_X7_renewCounts_16 (q0 : Nat) (c1 : Int) (c2 : Int) (kx : wq_St → Option (Int × wq_St)) (n : Nat) (y3 : Int) (S : wq_St) : Option (Int × wq_St) :=
  wq_loop (fun (g : Int × wq_St → Option (Int × wq_St)) (x : Int × wq_St) => b_X7_renewCounts_16 q0 c1 c2 kx (fun y3 S => g (y3, S)) x.1 x.2) n (y3, S)
theorem l_X7_renewCounts_16_s (q0 : Nat) (c1 : Int) (c2 : Int) (kx : wq_St → Option (Int × wq_St)) (n : Nat) (y3 : Int) (S : wq_St) : l_X7_renewCounts_16 q0 c1 c2 kx (n + 1) y3 S = b_X7_renewCounts_16 q0 c1 c2 kx (l_X7_renewCounts_16 q0 c1 c2 kx n) y3 S := rfl
theorem l_X7_renewCounts_16_0 (q0 : Nat) (c1 : Int) (c2 : Int) (kx : wq_St → Option (Int × wq_St)) (y3 : Int) (S : wq_St) : l_X7_renewCounts_16 q0 c1 c2 kx 0 y3 S = none := rfl
def f_X7_renewCounts (k0 : Nat) (x1 : Int) (S : wq_St) : Option (Int × wq_St) :=
  wq_bd (f_X7_takeSample k0 x1 S) fun r1 S2 =>
  wq_lt (wq_set S2 k0 7 (S2 k0 6)) fun S3 =>
  l_X7_renewCounts_16 k0 x1 r1 (fun S6 =>
    some (r1, S6)) wq_fu 0 S3
def b_X2_renewMarkedTables_2 (kx : wq_St → Option (Int × wq_St)) (rec : Int → wq_St → Option (Int × wq_St)) (y1 : Int) (S : wq_St) : Option (Int × wq_St) :=
  if wq_w 4 ≤ wq_w y1 then
    kx S
  else
    wq_ix y1 4 fun t1 =>
    if wq_w (S (6 + 48 * t1) 8) = 0 then
      rec (y1 + 1) S
    else
      wq_bd (f_X7_takeSample (6 + 48 * t1) (S 282 5) S) fun r2 S3 =>
      if wq_w r2 ≤ wq_w (S3 282 8) then
        wq_bd (f_X7_renewCounts (6 + 48 * t1) (S3 282 5) S3) fun r4 S5 =>
        wq_lt (wq_set S5 282 8 ((S3 282 8) - r4)) fun S6 =>
        wq_lt (wq_set S6 (6 + 48 * t1) 8 0) fun S7 =>
        rec (y1 + 1) S7
      else
        rec (y1 + 1) S3
def l_X2_renewMarkedTables_2 (kx : wq_St → Option (Int × wq_St)) (n : Nat) (y1 : Int) (S : wq_St) : Option (Int × wq_St) :=
  wq_loop (fun (g : Int × wq_St → Option (Int × wq_St)) (x : Int × wq_St) => b_X2_renewMarkedTables_2 kx (fun y1 S => g (y1, S)) x.1 x.2) n (y1, S)
theorem l_X2_renewMarkedTables_2_s (kx : wq_St → Option (Int × wq_St)) (n : Nat) (y1 : Int) (S : wq_St) : l_X2_renewMarkedTables_2 kx (n + 1) y1 S = b_X2_renewMarkedTables_2 kx (l_X2_renewMarkedTables_2 kx n) y1 S := rfl
theorem l_X2_renewMarkedTables_2_0 (kx : wq_St → Option (Int × wq_St)) (y1 : Int) (S : wq_St) : l_X2_renewMarkedTables_2 kx 0 y1 S = none := rfl
def f_X2_renewMarkedTables (S : wq_St) : Option (Int × wq_St) :=
  l_X2_renewMarkedTables_2 (fun S8 =>
    some (0, S8)) wq_fu 0 S
def b_X2_lineUpDueReports_27 (c1 : Int) (c2 : Int) (kx : Int → wq_St → Option (Int × wq_St)) (rec : Int → wq_St → Option (Int × wq_St)) (y3 : Int) (S : wq_St) : Option (Int × wq_St) :=
  if wq_w y3 ≤ 0 then
    kx y3 S
  else
    wq_ix (y3 - 1) 8 fun t2 =>
    wq_ix (S 283 t2) 8 fun t3 =>
    wq_ix c2 8 fun t4 =>
    if wq_w (S (199 + 9 * t4) 2) ≤ wq_w (S (199 + 9 * t3) 2) then
      kx y3 S
    else
      wq_ix (y3 - 1) 8 fun t5 =>
      wq_ix y3 8 fun t6 =>
      wq_lt (wq_set S 283 t6 (S 283 t5)) fun S7 =>
      rec (y3 + (-1)) S7
def l_X2_lineUpDueReports_27 (c1 : Int) (c2 : Int) (kx : Int → wq_St → Option (Int × wq_St)) (n : Nat) (y3 : Int) (S : wq_St) : Option (Int × wq_St) :=
  wq_loop (fun (g : Int × wq_St → Option (Int × wq_St)) (x : Int × wq_St) => b_X2_lineUpDueReports_27 c1 c2 kx (fun y3 S => g (y3, S)) x.1 x.2) n (y3, S)
theorem l_X2_lineUpDueReports_27_s (c1 : Int) (c2 : Int) (kx : Int → wq_St → Option (Int × wq_St)) (n : Nat) (y3 : Int) (S : wq_St) : l_X2_lineUpDueReports_27 c1 c2 kx (n + 1) y3 S = b_X2_lineUpDueReports_27 c1 c2 kx (l_X2_lineUpDueReports_27 c1 c2 kx n) y3 S := rfl
theorem l_X2_lineUpDueReports_27_0 (c1 : Int) (c2 : Int) (kx : Int → wq_St → Option (Int × wq_St)) (y3 : Int) (S : wq_St) : l_X2_lineUpDueReports_27 c1 c2 kx 0 y3 S = none := rfl
def b_X2_lineUpDueReports_4 (kx : Int → wq_St → Option (Int × wq_St)) (rec : Int → Int → wq_St → Option (Int × wq_St)) (y1 : Int) (y2 : Int) (S : wq_St) : Option (Int × wq_St) :=
  if wq_w 8 ≤ wq_w y2 then
    kx y1 S
  else
    wq_ix y2 8 fun t1 =>
    if wq_w (S (199 + 9 * t1) 7) = 0 then
      rec y1 (y2 + 1) S
    else
      l_X2_lineUpDueReports_27 y1 y2 (fun u8 S9 =>
        wq_ix u8 8 fun t10 =>
        wq_lt (wq_set S9 283 t10 y2) fun S11 =>
        rec (y1 + 1) (y2 + 1) S11) wq_fu y1 S
def l_X2_lineUpDueReports_4 (kx : Int → wq_St → Option (Int × wq_St)) (n : Nat) (y1 : Int) (y2 : Int) (S : wq_St) : Option (Int × wq_St) :=
  wq_loop (fun (g : Int × Int × wq_St → Option (Int × wq_St)) (x : Int × Int × wq_St) => b_X2_lineUpDueReports_4 kx (fun y1 y2 S => g (y1, y2, S)) x.1 x.2.1 x.2.2) n (y1, y2, S)
theorem l_X2_lineUpDueReports_4_s (kx : Int → wq_St → Option (Int × wq_St)) (n : Nat) (y1 : Int) (y2 : Int) (S : wq_St) : l_X2_lineUpDueReports_4 kx (n + 1) y1 y2 S = b_X2_lineUpDueReports_4 kx (l_X2_lineUpDueReports_4 kx n) y1 y2 S := rfl
theorem l_X2_lineUpDueReports_4_0 (kx : Int → wq_St → Option (Int × wq_St)) (y1 : Int) (y2 : Int) (S : wq_St) : l_X2_lineUpDueReports_4 kx 0 y1 y2 S = none := rfl
def f_X2_lineUpDueReports (S : wq_St) : Option (Int × wq_St) :=
  l_X2_lineUpDueReports_4 (fun u12 S13 =>
    some (u12, S13)) wq_fu 0 0 S
def f_X6_chosenValue (k1 : Nat) (x2 : Int) (x3 : Int) (S : wq_St) : Option (Int × wq_St) :=
  wq_ix x2 3 fun t1 =>
  wq_ix (S (k1 + 1) t1) 4 fun t2 =>
  wq_ix x2 3 fun t3 =>
  wq_ix (S 281 t3) 40 fun t4 =>
  wq_ix x3 3 fun t5 =>
  some (S ((6 + 48 * t2) + 3 + t4) t5, S)
def f_X6_countChoice (k1 : Nat) (S : wq_St) : Option (Int × wq_St) :=
  wq_lt (wq_set S 280 3 ((S 280 3) + 1)) fun S1 =>
  if wq_w (S1 k1 5) = wq_w (-1) then
    some (0, S1)
  else
    wq_bd (f_X6_chosenValue k1 (S1 k1 5) (S1 k1 6) S1) fun r2 S3 =>
    some (0, wq_set S3 280 4 ((S1 280 4) + r2))
def f_X6_valueLookedFor (k1 : Nat) (k2 : Nat) (x3 : Int) (S : wq_St) : Option (Int × wq_St) :=
  wq_ix x3 3 fun t1 =>
  wq_bd (f_X5_conditionForIndex k1 k2 x3 (S (k2 + 2) t1) S) fun r2 S3 =>
  if wq_w r2 = wq_w (-1) then
    some ((-1), S3)
  else
    wq_ix r2 6 fun t4 =>
    if wq_w (S3 (k1 + 3 + t4) 0) = wq_w 3 then
      wq_ix x3 3 fun t5 =>
      if wq_w (S3 (k1 + 3 + t4) 1) = wq_w (S3 (k2 + 1) t5) then
        wq_bd (f_X6_chosenValue k1 (S3 (k1 + 3 + t4) 4) (S3 (k1 + 3 + t4) 5) S3) fun r8 S9 =>
        some (r8, S9)
      else
        wq_bd (f_X6_chosenValue k1 (S3 (k1 + 3 + t4) 1) (S3 (k1 + 3 + t4) 2) S3) fun r6 S7 =>
        some (r6, S7)
    else
      some (S3 (k1 + 3 + t4) 3, S3)
def f_X6_holds (k1 : Nat) (k2 : Nat) (S : wq_St) : Option (Int × wq_St) :=
  wq_bd (f_X6_chosenValue k1 (S k2 1) (S k2 2) S) fun r1 S2 =>
  if wq_w (S2 k2 0) = 0 then
    if wq_w r1 = wq_w (S2 k2 3) then
      some (1, S2)
    else
      some (0, S2)
  else
    if wq_w (S2 k2 0) = 1 then
      if wq_w (S2 k2 3) ≤ wq_w r1 then
        some (0, S2)
      else
        some (1, S2)
    else
      if wq_w (S2 k2 0) = 2 then
        if wq_w r1 ≤ wq_w (S2 k2 3) then
          some (0, S2)
        else
          some (1, S2)
      else
        wq_bd (f_X6_chosenValue k1 (S2 k2 4) (S2 k2 5) S2) fun r3 S4 =>
        if wq_w r1 = wq_w r3 then
          some (1, S4)
        else
          some (0, S4)
def b_X6_conditionsHold_3 (q1 : Nat) (q2 : Nat) (c3 : Int) (kx : wq_St → Option (Int × wq_St)) (rec : Int → wq_St → Option (Int × wq_St)) (y4 : Int) (S : wq_St) : Option (Int × wq_St) :=
  if wq_w (S q1 4) ≤ wq_w y4 then
    kx S
  else
    wq_ix y4 6 fun t1 =>
    wq_bd (f_X1_stepIn (q1 + 3 + t1) q2 S) fun r2 S3 =>
    if wq_w r2 = wq_w c3 then
      wq_bd (f_X6_holds q1 (q1 + 3 + t1) S3) fun r4 S5 =>
      if wq_w r4 = 0 then
        some (0, S5)
      else
        rec (y4 + 1) S5
    else
      rec (y4 + 1) S3
def l_X6_conditionsHold_3 (q1 : Nat) (q2 : Nat) (c3 : Int) (kx : wq_St → Option (Int × wq_St)) (n : Nat) (y4 : Int) (S : wq_St) : Option (Int × wq_St) :=
  wq_loop (fun (g : Int × wq_St → Option (Int × wq_St)) (x : Int × wq_St) => b_X6_conditionsHold_3 q1 q2 c3 kx (fun y4 S => g (y4, S)) x.1 x.2) n (y4, S)
theorem l_X6_conditionsHold_3_s (q1 : Nat) (q2 : Nat) (c3 : Int) (kx : wq_St → Option (Int × wq_St)) (n : Nat) (y4 : Int) (S : wq_St) : l_X6_conditionsHold_3 q1 q2 c3 kx (n + 1) y4 S = b_X6_conditionsHold_3 q1 q2 c3 kx (l_X6_conditionsHold_3 q1 q2 c3 kx n) y4 S := rfl
theorem l_X6_conditionsHold_3_0 (q1 : Nat) (q2 : Nat) (c3 : Int) (kx : wq_St → Option (Int × wq_St)) (y4 : Int) (S : wq_St) : l_X6_conditionsHold_3 q1 q2 c3 kx 0 y4 S = none := rfl
def f_X6_conditionsHold (k1 : Nat) (k2 : Nat) (x3 : Int) (S : wq_St) : Option (Int × wq_St) :=
  l_X6_conditionsHold_3 k1 k2 x3 (fun S6 =>
    some (1, S6)) wq_fu 0 S
def j_X6_takeStep_121 (self : Nat → Nat → Int → wq_St → Option (Int × wq_St)) (kx : wq_St → Option (Int × wq_St)) (rec : Int → wq_St → Option (Int × wq_St)) (q1 : Nat) (q2 : Nat) (j3 : Int) (j4 : Int) (q5 : Nat) (j6 : Int) (j7 : Int) (j8 : Int) (S : wq_St) : Option (Int × wq_St) :=
  wq_lt (wq_set S 280 2 ((S 280 2) + 1)) fun S6 =>
  wq_ix j4 3 fun t7 =>
  wq_lt (wq_set S6 281 t7 j8) fun S8 =>
  wq_bd (f_X6_conditionsHold q1 q2 j3 S8) fun r9 S10 =>
  if wq_w r9 = 0 then
    rec (j8 + 1) S10
  else
    wq_bd (self q1 q2 (j3 + 1) S10) fun r11 S12 =>
    rec (j8 + 1) S12
def b_X6_takeStep_75 (self : Nat → Nat → Int → wq_St → Option (Int × wq_St)) (q1 : Nat) (q2 : Nat) (c3 : Int) (c4 : Int) (q5 : Nat) (c6 : Int) (c7 : Int) (kx : wq_St → Option (Int × wq_St)) (rec : Int → wq_St → Option (Int × wq_St)) (y8 : Int) (S : wq_St) : Option (Int × wq_St) :=
  if wq_w (S q5 5) ≤ wq_w y8 then
    kx S
  else
    wq_ix y8 40 fun t5 =>
    if wq_w (S (q5 + 43) t5) = 0 then
      rec (y8 + 1) S
    else
      if wq_w c6 = wq_w (-1) then
        j_X6_takeStep_121 self kx rec q1 q2 c3 c4 q5 c6 c7 y8 S
      else
        wq_ix y8 40 fun t13 =>
        wq_ix c6 3 fun t14 =>
        if wq_w (S (q5 + 3 + t13) t14) = wq_w c7 then
          j_X6_takeStep_121 self kx rec q1 q2 c3 c4 q5 c6 c7 y8 S
        else
          rec (y8 + 1) S
def l_X6_takeStep_75 (self : Nat → Nat → Int → wq_St → Option (Int × wq_St)) (q1 : Nat) (q2 : Nat) (c3 : Int) (c4 : Int) (q5 : Nat) (c6 : Int) (c7 : Int) (kx : wq_St → Option (Int × wq_St)) (n : Nat) (y8 : Int) (S : wq_St) : Option (Int × wq_St) :=
  wq_loop (fun (g : Int × wq_St → Option (Int × wq_St)) (x : Int × wq_St) => b_X6_takeStep_75 self q1 q2 c3 c4 q5 c6 c7 kx (fun y8 S => g (y8, S)) x.1 x.2) n (y8, S)
theorem l_X6_takeStep_75_s (self : Nat → Nat → Int → wq_St → Option (Int × wq_St)) (q1 : Nat) (q2 : Nat) (c3 : Int) (c4 : Int) (q5 : Nat) (c6 : Int) (c7 : Int) (kx : wq_St → Option (Int × wq_St)) (n : Nat) (y8 : Int) (S : wq_St) : l_X6_takeStep_75 self q1 q2 c3 c4 q5 c6 c7 kx (n + 1) y8 S = b_X6_takeStep_75 self q1 q2 c3 c4 q5 c6 c7 kx (l_X6_takeStep_75 self q1 q2 c3 c4 q5 c6 c7 kx n) y8 S := rfl
theorem l_X6_takeStep_75_0 (self : Nat → Nat → Int → wq_St → Option (Int × wq_St)) (q1 : Nat) (q2 : Nat) (c3 : Int) (c4 : Int) (q5 : Nat) (c6 : Int) (c7 : Int) (kx : wq_St → Option (Int × wq_St)) (y8 : Int) (S : wq_St) : l_X6_takeStep_75 self q1 q2 c3 c4 q5 c6 c7 kx 0 y8 S = none := rfl
def j_X6_takeStep_72 (self : Nat → Nat → Int → wq_St → Option (Int × wq_St)) (q1 : Nat) (q2 : Nat) (j3 : Int) (j4 : Int) (q5 : Nat) (j6 : Int) (j7 : Int) (S : wq_St) : Option (Int × wq_St) :=
  l_X6_takeStep_75 self q1 q2 j3 j4 q5 j6 j7 (fun S15 =>
    some (0, S15)) wq_fu 0 S
def fb_X6_takeStep (self : Nat → Nat → Int → wq_St → Option (Int × wq_St)) (k1 : Nat) (k2 : Nat) (x3 : Int) (S : wq_St) : Option (Int × wq_St) :=
  if wq_w x3 < wq_w (S k1 3) then
    wq_ix x3 3 fun t1 =>
    wq_ix (S (k2 + 1) t1) 3 fun t2 =>
    wq_ix (S (k1 + 1) t2) 4 fun t3 =>
    wq_ix x3 3 fun t4 =>
    if wq_w (S (k2 + 2) t4) = wq_w (-1) then
      j_X6_takeStep_72 self k1 k2 x3 (S (k2 + 1) t1) (6 + 48 * t3) (S (k2 + 2) t4) (-1) S
    else
      wq_bd (f_X6_valueLookedFor k1 k2 x3 S) fun r16 S17 =>
      wq_lt (wq_set S17 280 2 ((S17 280 2) + 1)) fun S18 =>
      j_X6_takeStep_72 self k1 k2 x3 (S (k2 + 1) t1) (6 + 48 * t3) (S (k2 + 2) t4) r16 S18
  else
    wq_bd (f_X6_countChoice k1 S) fun r19 S20 =>
    some (0, S20)
def f_X6_takeStep : Nat → Nat → Nat → Int → wq_St → Option (Int × wq_St)
  | 0, _, _, _, _ => none
  | n + 1, k1, k2, x3, S => fb_X6_takeStep (f_X6_takeStep n) k1 k2 x3 S
def f_X6_goThrough (k1 : Nat) (k2 : Nat) (S : wq_St) : Option (Int × wq_St) :=
  wq_lt (wq_set S 280 2 0) fun S1 =>
  wq_lt (wq_set S1 280 3 0) fun S2 =>
  wq_lt (wq_set S2 280 4 0) fun S3 =>
  if wq_w (S3 k1 3) ≤ 0 then
    some (0, S3)
  else
    wq_bd (f_X6_takeStep wq_dp k1 k2 0 S3) fun r4 S5 =>
    some (0, S5)
def b_X2_markTables_2 (q1 : Nat) (kx : wq_St → Option (Int × wq_St)) (rec : Int → wq_St → Option (Int × wq_St)) (y2 : Int) (S : wq_St) : Option (Int × wq_St) :=
  if wq_w (S q1 3) ≤ wq_w y2 then
    kx S
  else
    wq_ix y2 3 fun t1 =>
    wq_ix (S (q1 + 1) t1) 4 fun t2 =>
    wq_lt (wq_set S (6 + 48 * t2) 8 1) fun S3 =>
    rec (y2 + 1) S3
def l_X2_markTables_2 (q1 : Nat) (kx : wq_St → Option (Int × wq_St)) (n : Nat) (y2 : Int) (S : wq_St) : Option (Int × wq_St) :=
  wq_loop (fun (g : Int × wq_St → Option (Int × wq_St)) (x : Int × wq_St) => b_X2_markTables_2 q1 kx (fun y2 S => g (y2, S)) x.1 x.2) n (y2, S)
theorem l_X2_markTables_2_s (q1 : Nat) (kx : wq_St → Option (Int × wq_St)) (n : Nat) (y2 : Int) (S : wq_St) : l_X2_markTables_2 q1 kx (n + 1) y2 S = b_X2_markTables_2 q1 kx (l_X2_markTables_2 q1 kx n) y2 S := rfl
theorem l_X2_markTables_2_0 (q1 : Nat) (kx : wq_St → Option (Int × wq_St)) (y2 : Int) (S : wq_St) : l_X2_markTables_2 q1 kx 0 y2 S = none := rfl
def f_X2_markTables (k1 : Nat) (S : wq_St) : Option (Int × wq_St) :=
  l_X2_markTables_2 k1 (fun S4 =>
    some (0, S4)) wq_fu 0 S
def f_X2_keep (k1 : Nat) (x2 : Int) (S : wq_St) : Option (Int × wq_St) :=
  wq_lt (wq_set S 282 8 ((S 282 8) - (S 280 2))) fun S1 =>
  wq_lt (wq_set S1 k1 8 (S1 280 3)) fun S2 =>
  wq_lt (wq_set S2 k1 9 (S2 280 4)) fun S3 =>
  wq_lt (wq_set S3 k1 10 (S3 282 6)) fun S4 =>
  wq_lt (wq_set S4 k1 7 0) fun S5 =>
  if wq_w (2 * x2) < wq_w (S5 280 2) then
    wq_bd (f_X2_markTables k1 S5) fun r6 S7 =>
    some (0, S7)
  else
    if wq_w x2 ≤ wq_w (2 * (S5 280 2)) then
      some (0, S5)
    else
      wq_bd (f_X2_markTables k1 S5) fun r8 S9 =>
      some (0, S9)
def b_X2_runDueReports_7 (c1 : Int) (kx : Int → wq_St → Option (Int × wq_St)) (rec : Int → wq_St → Option (Int × wq_St)) (y2 : Int) (S : wq_St) : Option (Int × wq_St) :=
  if wq_w c1 ≤ wq_w y2 then
    kx y2 S
  else
    wq_ix y2 8 fun t3 =>
    wq_ix (S 283 t3) 8 fun t4 =>
    wq_bd (f_X4_choose (199 + 9 * t4) S) fun r5 S6 =>
    wq_bd (f_X6_goThrough (199 + 9 * t4) r5 S6) fun r7 S8 =>
    if wq_w (S8 280 2) ≤ wq_w (S8 282 8) then
      wq_bd (f_X3_foretoldMinutes r5 S8) fun r9 S10 =>
      wq_bd (f_X2_keep (199 + 9 * t4) r9 S10) fun r11 S12 =>
      rec (y2 + 1) S12
    else
      kx y2 S8
def l_X2_runDueReports_7 (c1 : Int) (kx : Int → wq_St → Option (Int × wq_St)) (n : Nat) (y2 : Int) (S : wq_St) : Option (Int × wq_St) :=
  wq_loop (fun (g : Int × wq_St → Option (Int × wq_St)) (x : Int × wq_St) => b_X2_runDueReports_7 c1 kx (fun y2 S => g (y2, S)) x.1 x.2) n (y2, S)
theorem l_X2_runDueReports_7_s (c1 : Int) (kx : Int → wq_St → Option (Int × wq_St)) (n : Nat) (y2 : Int) (S : wq_St) : l_X2_runDueReports_7 c1 kx (n + 1) y2 S = b_X2_runDueReports_7 c1 kx (l_X2_runDueReports_7 c1 kx n) y2 S := rfl
theorem l_X2_runDueReports_7_0 (c1 : Int) (kx : Int → wq_St → Option (Int × wq_St)) (y2 : Int) (S : wq_St) : l_X2_runDueReports_7 c1 kx 0 y2 S = none := rfl
def b_X2_runDueReports_79 (c1 : Int) (c2 : Int) (kx : wq_St → Option (Int × wq_St)) (rec : Int → wq_St → Option (Int × wq_St)) (y3 : Int) (S : wq_St) : Option (Int × wq_St) :=
  if wq_w c1 ≤ wq_w y3 then
    kx S
  else
    wq_ix y3 8 fun t15 =>
    wq_ix (S 283 t15) 8 fun t16 =>
    wq_lt (wq_set S 282 9 ((S 282 9) + (S (199 + 9 * t16) 2))) fun S17 =>
    wq_bd (f_X2_markTables (199 + 9 * t16) S17) fun r18 S19 =>
    rec (y3 + 1) S19
def l_X2_runDueReports_79 (c1 : Int) (c2 : Int) (kx : wq_St → Option (Int × wq_St)) (n : Nat) (y3 : Int) (S : wq_St) : Option (Int × wq_St) :=
  wq_loop (fun (g : Int × wq_St → Option (Int × wq_St)) (x : Int × wq_St) => b_X2_runDueReports_79 c1 c2 kx (fun y3 S => g (y3, S)) x.1 x.2) n (y3, S)
theorem l_X2_runDueReports_79_s (c1 : Int) (c2 : Int) (kx : wq_St → Option (Int × wq_St)) (n : Nat) (y3 : Int) (S : wq_St) : l_X2_runDueReports_79 c1 c2 kx (n + 1) y3 S = b_X2_runDueReports_79 c1 c2 kx (l_X2_runDueReports_79 c1 c2 kx n) y3 S := rfl
theorem l_X2_runDueReports_79_0 (c1 : Int) (c2 : Int) (kx : wq_St → Option (Int × wq_St)) (y3 : Int) (S : wq_St) : l_X2_runDueReports_79 c1 c2 kx 0 y3 S = none := rfl
def j_X2_runDueReports_77 (j1 : Int) (j2 : Int) (S : wq_St) : Option (Int × wq_St) :=
  l_X2_runDueReports_79 j1 j2 (fun S20 =>
    wq_lt (wq_set S20 282 6 ((S20 282 6) + 1)) fun S21 =>
    some (j2, S21)) wq_fu j2 S
def f_X2_runDueReports (S : wq_St) : Option (Int × wq_St) :=
  wq_bd (f_X2_lineUpDueReports S) fun r1 S2 =>
  l_X2_runDueReports_7 r1 (fun u13 S14 =>
    j_X2_runDueReports_77 r1 u13 S14) wq_fu 0 S2
def b_X3_becomePlain_2 (q0 : Nat) (c1 : Int) (kx : wq_St → Option (Int × wq_St)) (rec : Int → wq_St → Option (Int × wq_St)) (y2 : Int) (S : wq_St) : Option (Int × wq_St) :=
  if wq_w c1 ≤ wq_w y2 then
    kx S
  else
    wq_bd (f_X3_place q0 y2 y2 S) fun r1 S2 =>
    wq_ix y2 3 fun t3 =>
    wq_lt (wq_set S2 (q0 + 2) t3 (-1)) fun S4 =>
    rec (y2 + 1) S4
def l_X3_becomePlain_2 (q0 : Nat) (c1 : Int) (kx : wq_St → Option (Int × wq_St)) (n : Nat) (y2 : Int) (S : wq_St) : Option (Int × wq_St) :=
  wq_loop (fun (g : Int × wq_St → Option (Int × wq_St)) (x : Int × wq_St) => b_X3_becomePlain_2 q0 c1 kx (fun y2 S => g (y2, S)) x.1 x.2) n (y2, S)
theorem l_X3_becomePlain_2_s (q0 : Nat) (c1 : Int) (kx : wq_St → Option (Int × wq_St)) (n : Nat) (y2 : Int) (S : wq_St) : l_X3_becomePlain_2 q0 c1 kx (n + 1) y2 S = b_X3_becomePlain_2 q0 c1 kx (l_X3_becomePlain_2 q0 c1 kx n) y2 S := rfl
theorem l_X3_becomePlain_2_0 (q0 : Nat) (c1 : Int) (kx : wq_St → Option (Int × wq_St)) (y2 : Int) (S : wq_St) : l_X3_becomePlain_2 q0 c1 kx 0 y2 S = none := rfl
def f_X3_becomePlain (k0 : Nat) (x1 : Int) (S : wq_St) : Option (Int × wq_St) :=
  l_X3_becomePlain_2 k0 x1 (fun S5 =>
    some (0, S5)) wq_fu 0 S
def f_X7_fits (k0 : Nat) (x1 : Int) (x2 : Int) (S : wq_St) : Option (Int × wq_St) :=
  if wq_w x2 < 0 then
    some (0, S)
  else
    if wq_w (S k0 4) ≤ wq_w x1 then
      if wq_w 0 < wq_w x2 then
        some (0, S)
      else
        some (1, S)
    else
      if wq_w 999 < wq_w x2 then
        some (0, S)
      else
        some (1, S)
def f_X7_put (k0 : Nat) (x1 : Int) (x2 : Int) (x3 : Int) (S : wq_St) : Option (Int × wq_St) :=
  wq_ix (S k0 5) 40 fun t1 =>
  wq_ix 0 3 fun t2 =>
  wq_lt (wq_set S (k0 + 3 + t1) t2 x1) fun S3 =>
  wq_ix (S k0 5) 40 fun t4 =>
  wq_ix 1 3 fun t5 =>
  wq_lt (wq_set S3 (k0 + 3 + t4) t5 x2) fun S6 =>
  wq_ix (S k0 5) 40 fun t7 =>
  wq_ix 2 3 fun t8 =>
  wq_lt (wq_set S6 (k0 + 3 + t7) t8 x3) fun S9 =>
  wq_ix (S k0 5) 40 fun t10 =>
  wq_lt (wq_set S9 (k0 + 43) t10 1) fun S11 =>
  wq_lt (wq_set S11 k0 5 ((S11 k0 5) + 1)) fun S12 =>
  wq_lt (wq_set S12 k0 6 ((S12 k0 6) + 1)) fun S13 =>
  some (S k0 5, S13)
def f_X8_addTable (x1 : Int) (S : wq_St) : Option (Nat × Int × wq_St) :=
  if wq_w x1 < wq_w 1 then
    some (2, 0, S)
  else
    if wq_w x1 ≤ wq_w 3 then
      if wq_w (S 0 6) < wq_w 4 then
        wq_ix (S 0 6) 4 fun t1 =>
        wq_lt (wq_set S (6 + 48 * t1) 4 x1) fun S2 =>
        wq_lt (wq_set S2 0 6 ((S2 0 6) + 1)) fun S3 =>
        some (0, (S3 0 6) - 1, S3)
      else
        some (3, 0, S)
    else
      some (2, 0, S)
def f_X8_findTable (x1 : Int) (S : wq_St) : Option (Nat × Nat × wq_St) :=
  if wq_w x1 < 0 then
    some (1, 0, S)
  else
    if wq_w x1 < wq_w (S 0 6) then
      wq_ix x1 4 fun t1 =>
      some (0, 6 + 48 * t1, S)
    else
      some (1, 0, S)
def f_X8_insert (x1 : Int) (x2 : Int) (x3 : Int) (x4 : Int) (S : wq_St) : Option (Nat × Int × wq_St) :=
  wq_bx 0 (f_X8_findTable x1 S) fun r1 S2 =>
  wq_bd (f_X7_fits r1 0 x2 S2) fun r3 S4 =>
  if wq_w r3 = 0 then
    some (2, 0, S4)
  else
    wq_bd (f_X7_fits r1 1 x3 S4) fun r5 S6 =>
    if wq_w r5 = 0 then
      some (2, 0, S6)
    else
      wq_bd (f_X7_fits r1 2 x4 S6) fun r7 S8 =>
      if wq_w r7 = 0 then
        some (2, 0, S8)
      else
        if wq_w (S8 r1 5) < wq_w 40 then
          wq_bd (f_X7_put r1 x2 x3 x4 S8) fun r9 S10 =>
          some (0, r9, S10)
        else
          some (3, 0, S8)
def f_X8_checkRow (k0 : Nat) (x1 : Int) (S : wq_St) : Option (Nat × Int × wq_St) :=
  if wq_w x1 < 0 then
    some (1, 0, S)
  else
    if wq_w (S k0 5) ≤ wq_w x1 then
      some (1, 0, S)
    else
      wq_ix x1 40 fun t1 =>
      if wq_w (S (k0 + 43) t1) = 0 then
        some (1, 0, S)
      else
        some (0, 0, S)
def f_X8_delete (x1 : Int) (x2 : Int) (S : wq_St) : Option (Nat × Int × wq_St) :=
  wq_bx 0 (f_X8_findTable x1 S) fun r1 S2 =>
  wq_bx 0 (f_X8_checkRow r1 x2 S2) fun r3 S4 =>
  wq_ix x2 40 fun t5 =>
  wq_lt (wq_set S4 (r1 + 43) t5 0) fun S6 =>
  wq_lt (wq_set S6 r1 6 ((S6 r1 6) - 1)) fun S7 =>
  some (0, S7 r1 6, S7)
def f_X8_checkColumn (k0 : Nat) (x1 : Int) (S : wq_St) : Option (Nat × Int × wq_St) :=
  if wq_w x1 < 0 then
    some (1, 0, S)
  else
    if wq_w x1 < wq_w (S k0 4) then
      some (0, 0, S)
    else
      some (1, 0, S)
def f_X8_findColumn (x1 : Int) (x2 : Int) (S : wq_St) : Option (Nat × Nat × wq_St) :=
  wq_bx 0 (f_X8_findTable x1 S) fun r1 S2 =>
  wq_bx 0 (f_X8_checkColumn r1 x2 S2) fun r3 S4 =>
  wq_ix x2 3 fun t5 =>
  some (0, r1 + 45 + t5, S4)
def f_X8_setIndex (x1 : Int) (x2 : Int) (x3 : Int) (S : wq_St) : Option (Nat × Int × wq_St) :=
  wq_bx 0 (f_X8_findColumn x1 x2 S) fun r1 S2 =>
  wq_gd (x3 = 0 ∨ x3 = 1) <|
  wq_lt (wq_set S2 r1 0 x3) fun S3 =>
  wq_gd (S2 r1 0 = 0 ∨ S2 r1 0 = 1) <|
  some (0, S2 r1 0, S3)
def f_X8_rows (x1 : Int) (S : wq_St) : Option (Nat × Int × wq_St) :=
  wq_bx 0 (f_X8_findTable x1 S) fun r1 S2 =>
  some (0, S2 r1 6, S2)
def f_X8_value (x1 : Int) (x2 : Int) (x3 : Int) (S : wq_St) : Option (Nat × Int × wq_St) :=
  wq_bx 0 (f_X8_findTable x1 S) fun r1 S2 =>
  wq_bx 0 (f_X8_checkRow r1 x2 S2) fun r3 S4 =>
  wq_bx 0 (f_X8_checkColumn r1 x3 S4) fun r5 S6 =>
  wq_ix x2 40 fun t7 =>
  wq_ix x3 3 fun t8 =>
  some (0, S6 (r1 + 3 + t7) t8, S6)
def f_X8_checkSampleStep (x0 : Int) (S : wq_St) : Option (Nat × Int × wq_St) :=
  if wq_w x0 < wq_w 1 then
    some (2, 0, S)
  else
    if wq_w x0 ≤ wq_w 10 then
      some (0, 0, S)
    else
      some (2, 0, S)
def f_X8_renew (x1 : Int) (x2 : Int) (S : wq_St) : Option (Nat × Int × wq_St) :=
  wq_bx 0 (f_X8_findTable x1 S) fun r1 S2 =>
  wq_bx 0 (f_X8_checkSampleStep x2 S2) fun r3 S4 =>
  wq_bd (f_X7_renewCounts r1 x2 S4) fun r5 S6 =>
  some (0, r5, S6)
def f_X8_setStep (x1 : Int) (S : wq_St) : Option (Nat × Int × wq_St) :=
  wq_bx 0 (f_X8_checkSampleStep x1 S) fun r1 S2 =>
  wq_lt (wq_set S2 282 5 x1) fun S3 =>
  some (0, S2 282 5, S3)
def f_X8_toldRows (x1 : Int) (S : wq_St) : Option (Nat × Int × wq_St) :=
  wq_bx 0 (f_X8_findTable x1 S) fun r1 S2 =>
  some (0, S2 r1 7, S2)
def f_X8_unlike (x1 : Int) (x2 : Int) (S : wq_St) : Option (Nat × Int × wq_St) :=
  wq_bx 0 (f_X8_findColumn x1 x2 S) fun r1 S2 =>
  some (0, S2 r1 1, S2)
def f_X8_least (x1 : Int) (x2 : Int) (S : wq_St) : Option (Nat × Int × wq_St) :=
  wq_bx 0 (f_X8_findColumn x1 x2 S) fun r1 S2 =>
  some (0, S2 r1 2, S2)
def f_X8_greatest (x1 : Int) (x2 : Int) (S : wq_St) : Option (Nat × Int × wq_St) :=
  wq_bx 0 (f_X8_findColumn x1 x2 S) fun r1 S2 =>
  some (0, S2 r1 3, S2)
def f_X8_isMarked (x1 : Int) (S : wq_St) : Option (Nat × Int × wq_St) :=
  wq_bx 0 (f_X8_findTable x1 S) fun r1 S2 =>
  wq_gd (S2 r1 8 = 0 ∨ S2 r1 8 = 1) <|
  some (0, S2 r1 8, S2)
def f_X8_addReport (x1 : Int) (S : wq_St) : Option (Nat × Int × wq_St) :=
  if wq_w x1 < 0 then
    some (2, 0, S)
  else
    if wq_w x1 ≤ wq_w 1000 then
      if wq_w (S 0 7) < wq_w 8 then
        wq_ix (S 0 7) 8 fun t1 =>
        wq_lt (wq_set S (199 + 9 * t1) 2 x1) fun S2 =>
        wq_lt (wq_set S2 0 7 ((S2 0 7) + 1)) fun S3 =>
        some (0, (S3 0 7) - 1, S3)
      else
        some (3, 0, S)
    else
      some (2, 0, S)
def f_X8_findReport (x1 : Int) (S : wq_St) : Option (Nat × Nat × wq_St) :=
  if wq_w x1 < 0 then
    some (1, 0, S)
  else
    if wq_w x1 < wq_w (S 0 7) then
      wq_ix x1 8 fun t1 =>
      some (0, 199 + 9 * t1, S)
    else
      some (1, 0, S)
def f_X8_addSource (x1 : Int) (x2 : Int) (S : wq_St) : Option (Nat × Int × wq_St) :=
  wq_bx 0 (f_X8_findReport x1 S) fun r1 S2 =>
  wq_bx 0 (f_X8_findTable x2 S2) fun r3 S4 =>
  if wq_w (S4 r1 3) < wq_w 3 then
    wq_ix (S4 r1 3) 3 fun t5 =>
    wq_lt (wq_set S4 (r1 + 1) t5 x2) fun S6 =>
    wq_lt (wq_set S6 r1 3 ((S6 r1 3) + 1)) fun S7 =>
    some (0, (S7 r1 3) - 1, S7)
  else
    some (3, 0, S4)
def f_X8_checkSourceColumn (k1 : Nat) (x2 : Int) (x3 : Int) (S : wq_St) : Option (Nat × Int × wq_St) :=
  if wq_w x2 < 0 then
    some (1, 0, S)
  else
    if wq_w x2 < wq_w (S k1 3) then
      wq_ix x2 3 fun t1 =>
      wq_ix (S (k1 + 1) t1) 4 fun t2 =>
      wq_bx 0 (f_X8_checkColumn (6 + 48 * t2) x3 S) fun r3 S4 =>
      some (0, 0, S4)
    else
      some (1, 0, S)
def f_X8_checkConditionRoom (k0 : Nat) (S : wq_St) : Option (Nat × Int × wq_St) :=
  if wq_w (S k0 4) < wq_w 6 then
    some (0, 0, S)
  else
    some (3, 0, S)
def f_X8_addCondition (x1 : Int) (x2 : Int) (x3 : Int) (x4 : Int) (x5 : Int) (S : wq_St) : Option (Nat × Int × wq_St) :=
  wq_bx 0 (f_X8_findReport x1 S) fun r1 S2 =>
  wq_bx 0 (f_X8_checkSourceColumn r1 x2 x3 S2) fun r3 S4 =>
  if wq_w x4 < 0 then
    some (2, 0, S4)
  else
    if wq_w x4 ≤ wq_w 2 then
      if wq_w x5 < 0 then
        some (2, 0, S4)
      else
        if wq_w x5 ≤ wq_w 999 then
          wq_bx 0 (f_X8_checkConditionRoom r1 S4) fun r5 S6 =>
          wq_ix (S6 r1 4) 6 fun t7 =>
          wq_bd (f_X1_compare (r1 + 3 + t7) x2 x3 x4 x5 S6) fun r8 S9 =>
          wq_lt (wq_set S9 r1 4 ((S9 r1 4) + 1)) fun S10 =>
          some (0, (S10 r1 4) - 1, S10)
        else
          some (2, 0, S4)
    else
      some (2, 0, S4)
def f_X8_addJoin (x1 : Int) (x2 : Int) (x3 : Int) (x4 : Int) (x5 : Int) (S : wq_St) : Option (Nat × Int × wq_St) :=
  wq_bx 0 (f_X8_findReport x1 S) fun r1 S2 =>
  wq_bx 0 (f_X8_checkSourceColumn r1 x2 x3 S2) fun r3 S4 =>
  wq_bx 0 (f_X8_checkSourceColumn r1 x4 x5 S4) fun r5 S6 =>
  if wq_w x2 = wq_w x4 then
    some (2, 0, S6)
  else
    wq_bx 0 (f_X8_checkConditionRoom r1 S6) fun r7 S8 =>
    wq_ix (S8 r1 4) 6 fun t9 =>
    wq_bd (f_X1_join (r1 + 3 + t9) x2 x3 x4 x5 S8) fun r10 S11 =>
    wq_lt (wq_set S11 r1 4 ((S11 r1 4) + 1)) fun S12 =>
    some (0, (S12 r1 4) - 1, S12)
def f_X8_dropCondition (x1 : Int) (S : wq_St) : Option (Nat × Int × wq_St) :=
  wq_bx 0 (f_X8_findReport x1 S) fun r1 S2 =>
  if wq_w (S2 r1 4) = 0 then
    some (3, 0, S2)
  else
    wq_lt (wq_set S2 r1 4 ((S2 r1 4) - 1)) fun S3 =>
    some (0, S3 r1 4, S3)
def f_X8_setSum (x1 : Int) (x2 : Int) (x3 : Int) (S : wq_St) : Option (Nat × Int × wq_St) :=
  wq_bx 0 (f_X8_findReport x1 S) fun r1 S2 =>
  if wq_w x2 = wq_w (-1) then
    some (0, 0, wq_set S2 r1 5 x2)
  else
    wq_bx 0 (f_X8_checkSourceColumn r1 x2 x3 S2) fun r3 S4 =>
    wq_lt (wq_set S4 r1 6 x3) fun S5 =>
    some (0, 0, wq_set S5 r1 5 x2)
def f_X8_setDue (x1 : Int) (x2 : Int) (S : wq_St) : Option (Nat × Int × wq_St) :=
  wq_bx 0 (f_X8_findReport x1 S) fun r1 S2 =>
  wq_gd (x2 = 0 ∨ x2 = 1) <|
  wq_lt (wq_set S2 r1 7 x2) fun S3 =>
  wq_gd (S2 r1 7 = 0 ∨ S2 r1 7 = 1) <|
  some (0, S2 r1 7, S3)
def f_X8_isDue (x1 : Int) (S : wq_St) : Option (Nat × Int × wq_St) :=
  wq_bx 0 (f_X8_findReport x1 S) fun r1 S2 =>
  wq_gd (S2 r1 7 = 0 ∨ S2 r1 7 = 1) <|
  some (0, S2 r1 7, S2)
def f_X8_checkPlanStep (k0 : Nat) (x1 : Int) (S : wq_St) : Option (Nat × Int × wq_St) :=
  if wq_w x1 < 0 then
    some (1, 0, S)
  else
    if wq_w x1 < wq_w (S k0 3) then
      some (0, 0, S)
    else
      some (1, 0, S)
def f_X8_planSource (x1 : Int) (x2 : Int) (S : wq_St) : Option (Nat × Int × wq_St) :=
  wq_bx 0 (f_X8_findReport x1 S) fun r1 S2 =>
  wq_bx 0 (f_X8_checkPlanStep r1 x2 S2) fun r3 S4 =>
  wq_bd (f_X4_choose r1 S4) fun r5 S6 =>
  wq_ix x2 3 fun t7 =>
  some (0, S6 (r5 + 1) t7, S6)
def f_X8_planWay (x1 : Int) (x2 : Int) (S : wq_St) : Option (Nat × Int × wq_St) :=
  wq_bx 0 (f_X8_findReport x1 S) fun r1 S2 =>
  wq_bx 0 (f_X8_checkPlanStep r1 x2 S2) fun r3 S4 =>
  wq_bd (f_X4_choose r1 S4) fun r5 S6 =>
  wq_ix x2 3 fun t7 =>
  some (0, S6 (r5 + 2) t7, S6)
def f_X8_foretold (x1 : Int) (S : wq_St) : Option (Nat × Int × wq_St) :=
  wq_bx 0 (f_X8_findReport x1 S) fun r1 S2 =>
  wq_bd (f_X4_choose r1 S2) fun r3 S4 =>
  wq_bd (f_X3_foretoldMinutes r3 S4) fun r5 S6 =>
  some (0, r5, S6)
def f_X8_runChosenPlan (k1 : Nat) (S : wq_St) : Option (Int × wq_St) :=
  wq_bd (f_X4_choose k1 S) fun r1 S2 =>
  wq_bd (f_X6_goThrough k1 r1 S2) fun r3 S4 =>
  some (0, S4)
def f_X8_minutes (x1 : Int) (S : wq_St) : Option (Nat × Int × wq_St) :=
  wq_bx 0 (f_X8_findReport x1 S) fun r1 S2 =>
  wq_bd (f_X8_runChosenPlan r1 S2) fun r3 S4 =>
  some (0, S4 280 2, S4)
def f_X8_answer (x1 : Int) (S : wq_St) : Option (Nat × Int × wq_St) :=
  wq_bx 0 (f_X8_findReport x1 S) fun r1 S2 =>
  wq_bd (f_X8_runChosenPlan r1 S2) fun r3 S4 =>
  some (0, S4 280 3, S4)
def f_X8_sum (x1 : Int) (S : wq_St) : Option (Nat × Int × wq_St) :=
  wq_bx 0 (f_X8_findReport x1 S) fun r1 S2 =>
  wq_bd (f_X8_runChosenPlan r1 S2) fun r3 S4 =>
  some (0, S4 280 4, S4)
def f_X8_runPlainPlan (k1 : Nat) (S : wq_St) : Option (Int × wq_St) :=
  wq_bd (f_X3_becomePlain 1 (S k1 3) S) fun r1 S2 =>
  wq_bd (f_X6_goThrough k1 1 S2) fun r3 S4 =>
  some (0, S4)
def f_X8_plainAnswer (x1 : Int) (S : wq_St) : Option (Nat × Int × wq_St) :=
  wq_bx 0 (f_X8_findReport x1 S) fun r1 S2 =>
  wq_bd (f_X8_runPlainPlan r1 S2) fun r3 S4 =>
  some (0, S4 280 3, S4)
def f_X8_plainSum (x1 : Int) (S : wq_St) : Option (Nat × Int × wq_St) :=
  wq_bx 0 (f_X8_findReport x1 S) fun r1 S2 =>
  wq_bd (f_X8_runPlainPlan r1 S2) fun r3 S4 =>
  some (0, S4 280 4, S4)
def f_X8_night (x1 : Int) (S : wq_St) : Option (Nat × Int × wq_St) :=
  if wq_w x1 < 0 then
    some (2, 0, S)
  else
    if wq_w x1 ≤ wq_w 1000 then
      if wq_w (S 282 6) < wq_w 500 then
        wq_bd (f_X2_takePay x1 S) fun r1 S2 =>
        wq_bd (f_X2_renewMarkedTables S2) fun r3 S4 =>
        wq_bd (f_X2_runDueReports S4) fun r5 S6 =>
        some (0, r5, S6)
      else
        some (3, 0, S)
    else
      some (2, 0, S)
def f_X8_nights (S : wq_St) : Option (Int × wq_St) :=
  some (S 282 6, S)
def f_X8_paid (S : wq_St) : Option (Int × wq_St) :=
  some (S 282 7, S)
def f_X8_left (S : wq_St) : Option (Int × wq_St) :=
  some (S 282 8, S)
def f_X8_owed (S : wq_St) : Option (Int × wq_St) :=
  some (S 282 9, S)
def f_X8_kept (x1 : Int) (S : wq_St) : Option (Nat × Int × wq_St) :=
  wq_bx 0 (f_X8_findReport x1 S) fun r1 S2 =>
  some (0, S2 r1 8, S2)
def f_X8_keptSum (x1 : Int) (S : wq_St) : Option (Nat × Int × wq_St) :=
  wq_bx 0 (f_X8_findReport x1 S) fun r1 S2 =>
  some (0, S2 r1 9, S2)
def f_X8_keptIn (x1 : Int) (S : wq_St) : Option (Nat × Int × wq_St) :=
  wq_bx 0 (f_X8_findReport x1 S) fun r1 S2 =>
  some (0, S2 r1 10, S2)
def f_X9_thrown (S : wq_St) : Option (Int × wq_St) :=
  some (S 0 42, S)
def f_X9_in (x0 : Int) (x1 : Int) (x2 : Int) (S : wq_St) : Option (Int × wq_St) :=
  if wq_w x0 < wq_w x1 then
    some (0, S)
  else
    if wq_w x2 < wq_w x0 then
      some (0, S)
    else
      some (1, S)
def f_X9_asked (x1 : Int) (S : wq_St) : Option (Int × wq_St) :=
  if wq_w x1 = 0 then
    wq_lt (wq_set S 0 42 1) fun S1 =>
    wq_gd (x1 = 0 ∨ x1 = 1) <|
    some (x1, S1)
  else
    wq_lt (wq_set S 0 42 0) fun S2 =>
    wq_gd (x1 = 0 ∨ x1 = 1) <|
    some (x1, S2)
def f_X9_asked_ (x1 : Int) (x2 : Int) (S : wq_St) : Option (Int × wq_St) :=
  if wq_w x1 = 0 then
    wq_lt (wq_set S 0 42 1) fun S3 =>
    if wq_w (S3 0 42) = 0 then
      some (1, S3)
    else
      some (0, S3)
  else
    if wq_w x2 = 0 then
      wq_lt (wq_set S 0 42 2) fun S1 =>
      if wq_w (S1 0 42) = 0 then
        some (1, S1)
      else
        some (0, S1)
    else
      wq_lt (wq_set S 0 42 0) fun S2 =>
      if wq_w (S2 0 42) = 0 then
        some (1, S2)
      else
        some (0, S2)
def f_X9_asked__ (x1 : Int) (x2 : Int) (x3 : Int) (S : wq_St) : Option (Int × wq_St) :=
  if wq_w x1 = 0 then
    wq_lt (wq_set S 0 42 1) fun S4 =>
    if wq_w (S4 0 42) = 0 then
      some (1, S4)
    else
      some (0, S4)
  else
    if wq_w x2 = 0 then
      wq_lt (wq_set S 0 42 2) fun S3 =>
      if wq_w (S3 0 42) = 0 then
        some (1, S3)
      else
        some (0, S3)
    else
      if wq_w x3 = 0 then
        wq_lt (wq_set S 0 42 3) fun S1 =>
        if wq_w (S1 0 42) = 0 then
          some (1, S1)
        else
          some (0, S1)
      else
        wq_lt (wq_set S 0 42 0) fun S2 =>
        if wq_w (S2 0 42) = 0 then
          some (1, S2)
        else
          some (0, S2)
def f_X9_told (x1 : Int) (S : wq_St) : Option (Int × wq_St) :=
  wq_lt (wq_set S 0 42 0) fun S1 =>
  some (x1, S1)
def f_X9_isTable (x1 : Int) (S : wq_St) : Option (Int × wq_St) :=
  wq_bd (f_X9_in x1 0 ((S 0 5) - 1) S) fun r1 S2 =>
  wq_gd (r1 = 0 ∨ r1 = 1) <|
  some (r1, S2)
def f_X9_isColumn (x1 : Int) (x2 : Int) (S : wq_St) : Option (Int × wq_St) :=
  wq_bd (f_X9_isTable x1 S) fun r1 S2 =>
  if wq_w r1 = 0 then
    some (0, S2)
  else
    wq_ix x1 4 fun t3 =>
    wq_bd (f_X9_in x2 0 ((S2 1 t3) - 1) S2) fun r4 S5 =>
    if wq_w r4 = 0 then
      some (0, S5)
    else
      some (1, S5)
def f_X9_isRow (x1 : Int) (x2 : Int) (S : wq_St) : Option (Int × wq_St) :=
  wq_bd (f_X9_isTable x1 S) fun r1 S2 =>
  if wq_w r1 = 0 then
    some (0, S2)
  else
    wq_ix x1 4 fun t3 =>
    wq_bd (f_X9_in x2 0 ((S2 2 t3) - 1) S2) fun r4 S5 =>
    if wq_w r4 = 0 then
      some (0, S5)
    else
      wq_ix ((40 * x1) + x2) 160 fun t6 =>
      if wq_w (S5 3 t6) = 0 then
        some (0, S5)
      else
        some (1, S5)
def f_X9_isReport (x1 : Int) (S : wq_St) : Option (Int × wq_St) :=
  wq_bd (f_X9_in x1 0 ((S 0 28) - 1) S) fun r1 S2 =>
  wq_gd (r1 = 0 ∨ r1 = 1) <|
  some (r1, S2)
def f_X9_isSource (x1 : Int) (x2 : Int) (S : wq_St) : Option (Int × wq_St) :=
  wq_bd (f_X9_isReport x1 S) fun r1 S2 =>
  if wq_w r1 = 0 then
    some (0, S2)
  else
    wq_ix x1 8 fun t3 =>
    wq_bd (f_X9_in x2 0 ((S2 13 t3) - 1) S2) fun r4 S5 =>
    if wq_w r4 = 0 then
      some (0, S5)
    else
      some (1, S5)
def f_X9_isColumnOf (x1 : Int) (x2 : Int) (x3 : Int) (S : wq_St) : Option (Int × wq_St) :=
  wq_bd (f_X9_isSource x1 x2 S) fun r1 S2 =>
  if wq_w r1 = 0 then
    some (0, S2)
  else
    wq_ix ((3 * x1) + x2) 24 fun t3 =>
    wq_bd (f_X9_isColumn (S2 14 t3) x3 S2) fun r4 S5 =>
    if wq_w r4 = 0 then
      some (0, S5)
    else
      some (1, S5)
def j_X9_addTable_20 (j1 : Int) (z0 : Int) (z1 : Int) (S : wq_St) : Option (Int × wq_St) :=
  wq_bd (f_X9_asked_ z1 z0 S) fun r3 S4 =>
  if wq_w r3 = 0 then
    some (0, S4)
  else
    wq_ix (S4 0 5) 4 fun t5 =>
    wq_lt (wq_set S4 1 t5 j1) fun S6 =>
    wq_lt (wq_set S6 0 5 ((S6 0 5) + 1)) fun S7 =>
    some ((S7 0 5) - 1, S7)
def f_X9_addTable (x1 : Int) (S : wq_St) : Option (Int × wq_St) :=
  wq_bd (f_X9_in x1 1 3 S) fun r1 S2 =>
  if wq_w 4 ≤ wq_w (S2 0 5) then
    j_X9_addTable_20 x1 0 r1 S2
  else
    j_X9_addTable_20 x1 1 r1 S2
def j_X9_insert_107 (j1 : Int) (j2 : Int) (j3 : Int) (j4 : Int) (z0 : Int) (z1 : Int) (z2 : Int) (S : wq_St) : Option (Int × wq_St) :=
  wq_bd (f_X9_asked__ z2 z1 z0 S) fun r3 S4 =>
  if wq_w r3 = 0 then
    some (0, S4)
  else
    wq_ix j1 4 fun t5 =>
    wq_ix ((40 * j1) + (S4 2 t5)) 160 fun t6 =>
    wq_lt (wq_set S4 3 t6 1) fun S7 =>
    wq_ix (3 * ((40 * j1) + (S4 2 t5))) 480 fun t8 =>
    wq_lt (wq_set S7 4 t8 j2) fun S9 =>
    wq_ix ((3 * ((40 * j1) + (S4 2 t5))) + 1) 480 fun t10 =>
    wq_lt (wq_set S9 4 t10 j3) fun S11 =>
    wq_ix ((3 * ((40 * j1) + (S4 2 t5))) + 2) 480 fun t12 =>
    wq_lt (wq_set S11 4 t12 j4) fun S13 =>
    wq_ix j1 4 fun t14 =>
    wq_ix j1 4 fun t15 =>
    wq_lt (wq_set S13 2 t15 ((S13 2 t14) + 1)) fun S16 =>
    wq_ix j1 4 fun t17 =>
    some ((S16 2 t17) - 1, S16)
def j_X9_insert_106 (j1 : Int) (j2 : Int) (j3 : Int) (j4 : Int) (z0 : Int) (z1 : Int) (S : wq_St) : Option (Int × wq_St) :=
  j_X9_insert_107 j1 j2 j3 j4 0 z0 z1 S
def j_X9_insert_79 (j1 : Int) (j2 : Int) (j3 : Int) (j4 : Int) (j5 : Int) (z0 : Int) (S : wq_St) : Option (Int × wq_St) :=
  if wq_w j5 = 0 then
    j_X9_insert_106 j1 j2 j3 j4 z0 j5 S
  else
    wq_ix j1 4 fun t18 =>
    if wq_w 40 ≤ wq_w (S 2 t18) then
      j_X9_insert_106 j1 j2 j3 j4 z0 j5 S
    else
      j_X9_insert_107 j1 j2 j3 j4 1 z0 j5 S
def j_X9_insert_78 (j1 : Int) (j2 : Int) (j3 : Int) (j4 : Int) (j5 : Int) (S : wq_St) : Option (Int × wq_St) :=
  j_X9_insert_79 j1 j2 j3 j4 j5 0 S
def j_X9_insert_68 (j1 : Int) (j2 : Int) (j3 : Int) (j4 : Int) (j5 : Int) (z0 : Int) (z1 : Int) (z2 : Int) (S : wq_St) : Option (Int × wq_St) :=
  wq_bd (f_X9_in z2 z1 z0 S) fun r25 S26 =>
  if wq_w r25 = 0 then
    j_X9_insert_78 j1 j2 j3 j4 j5 S26
  else
    j_X9_insert_79 j1 j2 j3 j4 j5 1 S26
def j_X9_insert_42 (j1 : Int) (j2 : Int) (j3 : Int) (j4 : Int) (j5 : Int) (z0 : Int) (z1 : Int) (z2 : Int) (S : wq_St) : Option (Int × wq_St) :=
  wq_bd (f_X9_in z2 z1 z0 S) fun r22 S23 =>
  if wq_w r22 = 0 then
    j_X9_insert_78 j1 j2 j3 j4 j5 S23
  else
    wq_ix j1 4 fun t24 =>
    if wq_w (S23 1 t24) ≤ wq_w 2 then
      j_X9_insert_68 j1 j2 j3 j4 j5 0 0 j4 S23
    else
      j_X9_insert_68 j1 j2 j3 j4 j5 999 0 j4 S23
def f_X9_insert (x1 : Int) (x2 : Int) (x3 : Int) (x4 : Int) (S : wq_St) : Option (Int × wq_St) :=
  wq_bd (f_X9_isTable x1 S) fun r1 S2 =>
  if wq_w r1 = 0 then
    j_X9_insert_78 x1 x2 x3 x4 r1 S2
  else
    wq_bd (f_X9_in x2 0 999 S2) fun r19 S20 =>
    if wq_w r19 = 0 then
      j_X9_insert_78 x1 x2 x3 x4 r1 S20
    else
      wq_ix x1 4 fun t21 =>
      if wq_w (S20 1 t21) ≤ wq_w 1 then
        j_X9_insert_42 x1 x2 x3 x4 r1 0 0 x3 S20
      else
        j_X9_insert_42 x1 x2 x3 x4 r1 999 0 x3 S20
def b_X9_rowsOf_7 (c1 : Int) (kx : Int → wq_St → Option (Int × wq_St)) (rec : Int → Int → wq_St → Option (Int × wq_St)) (y2 : Int) (y3 : Int) (S : wq_St) : Option (Int × wq_St) :=
  wq_ix c1 4 fun t1 =>
  if wq_w ((40 * c1) + (S 2 t1)) ≤ wq_w y3 then
    kx y2 S
  else
    wq_ix y3 160 fun t2 =>
    if wq_w (S 3 t2) = 0 then
      rec (y2 + 0) (y3 + 1) S
    else
      rec (y2 + 1) (y3 + 1) S
def l_X9_rowsOf_7 (c1 : Int) (kx : Int → wq_St → Option (Int × wq_St)) (n : Nat) (y2 : Int) (y3 : Int) (S : wq_St) : Option (Int × wq_St) :=
  wq_loop (fun (g : Int × Int × wq_St → Option (Int × wq_St)) (x : Int × Int × wq_St) => b_X9_rowsOf_7 c1 kx (fun y2 y3 S => g (y2, y3, S)) x.1 x.2.1 x.2.2) n (y2, y3, S)
theorem l_X9_rowsOf_7_s (c1 : Int) (kx : Int → wq_St → Option (Int × wq_St)) (n : Nat) (y2 : Int) (y3 : Int) (S : wq_St) : l_X9_rowsOf_7 c1 kx (n + 1) y2 y3 S = b_X9_rowsOf_7 c1 kx (l_X9_rowsOf_7 c1 kx n) y2 y3 S := rfl
theorem l_X9_rowsOf_7_0 (c1 : Int) (kx : Int → wq_St → Option (Int × wq_St)) (y2 : Int) (y3 : Int) (S : wq_St) : l_X9_rowsOf_7 c1 kx 0 y2 y3 S = none := rfl
def f_X9_rowsOf (x1 : Int) (S : wq_St) : Option (Int × wq_St) :=
  l_X9_rowsOf_7 x1 (fun u3 S4 =>
    some (u3, S4)) wq_fu 0 (40 * x1) S
def f_X9_delete (x1 : Int) (x2 : Int) (S : wq_St) : Option (Int × wq_St) :=
  wq_bd (f_X9_isRow x1 x2 S) fun r1 S2 =>
  wq_bd (f_X9_asked r1 S2) fun r3 S4 =>
  if wq_w r3 = 0 then
    some (0, S4)
  else
    wq_ix ((40 * x1) + x2) 160 fun t5 =>
    wq_lt (wq_set S4 3 t5 0) fun S6 =>
    wq_bd (f_X9_rowsOf x1 S6) fun r7 S8 =>
    some (r7, S8)
def f_X9_setIndex (x1 : Int) (x2 : Int) (x3 : Int) (S : wq_St) : Option (Int × wq_St) :=
  wq_bd (f_X9_isColumn x1 x2 S) fun r1 S2 =>
  wq_bd (f_X9_asked r1 S2) fun r3 S4 =>
  if wq_w r3 = 0 then
    some (0, S4)
  else
    wq_ix ((3 * x1) + x2) 12 fun t5 =>
    wq_ix ((3 * x1) + x2) 12 fun t6 =>
    wq_gd (x3 = 0 ∨ x3 = 1) <|
    wq_lt (wq_set S4 5 t6 x3) fun S7 =>
    wq_gd (S4 5 t5 = 0 ∨ S4 5 t5 = 1) <|
    some (S4 5 t5, S7)
def f_X9_rows (x1 : Int) (S : wq_St) : Option (Int × wq_St) :=
  wq_bd (f_X9_isTable x1 S) fun r1 S2 =>
  wq_bd (f_X9_asked r1 S2) fun r3 S4 =>
  if wq_w r3 = 0 then
    some (0, S4)
  else
    wq_bd (f_X9_rowsOf x1 S4) fun r5 S6 =>
    some (r5, S6)
def f_X9_valueAt (x1 : Int) (x2 : Int) (x3 : Int) (S : wq_St) : Option (Int × wq_St) :=
  wq_ix ((3 * ((40 * x1) + x2)) + x3) 480 fun t1 =>
  some (S 4 t1, S)
def f_X9_value (x1 : Int) (x2 : Int) (x3 : Int) (S : wq_St) : Option (Int × wq_St) :=
  wq_bd (f_X9_isColumn x1 x3 S) fun r1 S2 =>
  if wq_w r1 = 0 then
    wq_bd (f_X9_asked 0 S2) fun r3 S4 =>
    if wq_w r3 = 0 then
      some (0, S4)
    else
      wq_bd (f_X9_valueAt x1 x2 x3 S4) fun r5 S6 =>
      some (r5, S6)
  else
    wq_bd (f_X9_isRow x1 x2 S2) fun r7 S8 =>
    if wq_w r7 = 0 then
      wq_bd (f_X9_asked 0 S8) fun r9 S10 =>
      if wq_w r9 = 0 then
        some (0, S10)
      else
        wq_bd (f_X9_valueAt x1 x2 x3 S10) fun r11 S12 =>
        some (r11, S12)
    else
      wq_bd (f_X9_asked 1 S8) fun r13 S14 =>
      if wq_w r13 = 0 then
        some (0, S14)
      else
        wq_bd (f_X9_valueAt x1 x2 x3 S14) fun r15 S16 =>
        some (r15, S16)
def f_X9_sample (x1 : Int) (x2 : Int) (S : wq_St) : Option (Int × wq_St) :=
  wq_bd (f_X9_rowsOf x1 S) fun r1 S2 =>
  wq_gd (¬ wq_w x2 = 0) <|
  some (wq_div ((r1 + x2) - 1) x2, S2)
def b_X9_isSampled_6 (c1 : Int) (c2 : Int) (c3 : Int) (kx : Int → wq_St → Option (Int × wq_St)) (rec : Int → Int → wq_St → Option (Int × wq_St)) (y4 : Int) (y5 : Int) (S : wq_St) : Option (Int × wq_St) :=
  if wq_w c2 ≤ wq_w y5 then
    kx y4 S
  else
    wq_ix ((40 * c1) + y5) 160 fun t1 =>
    if wq_w (S 3 t1) = 0 then
      rec (y4 + 0) (y5 + 1) S
    else
      rec (y4 + 1) (y5 + 1) S
def l_X9_isSampled_6 (c1 : Int) (c2 : Int) (c3 : Int) (kx : Int → wq_St → Option (Int × wq_St)) (n : Nat) (y4 : Int) (y5 : Int) (S : wq_St) : Option (Int × wq_St) :=
  wq_loop (fun (g : Int × Int × wq_St → Option (Int × wq_St)) (x : Int × Int × wq_St) => b_X9_isSampled_6 c1 c2 c3 kx (fun y4 y5 S => g (y4, y5, S)) x.1 x.2.1 x.2.2) n (y4, y5, S)
theorem l_X9_isSampled_6_s (c1 : Int) (c2 : Int) (c3 : Int) (kx : Int → wq_St → Option (Int × wq_St)) (n : Nat) (y4 : Int) (y5 : Int) (S : wq_St) : l_X9_isSampled_6 c1 c2 c3 kx (n + 1) y4 y5 S = b_X9_isSampled_6 c1 c2 c3 kx (l_X9_isSampled_6 c1 c2 c3 kx n) y4 y5 S := rfl
theorem l_X9_isSampled_6_0 (c1 : Int) (c2 : Int) (c3 : Int) (kx : Int → wq_St → Option (Int × wq_St)) (y4 : Int) (y5 : Int) (S : wq_St) : l_X9_isSampled_6 c1 c2 c3 kx 0 y4 y5 S = none := rfl
def f_X9_isSampled (x1 : Int) (x2 : Int) (x3 : Int) (S : wq_St) : Option (Int × wq_St) :=
  l_X9_isSampled_6 x1 x2 x3 (fun u2 S3 =>
    wq_ix ((40 * x1) + x2) 160 fun t4 =>
    if wq_w (S3 3 t4) = 0 then
      some (0, S3)
    else
      wq_gd (¬ wq_w x3 = 0) <|
      if wq_w (wq_rem u2 x3) = 0 then
        some (1, S3)
      else
        some (0, S3)) wq_fu 0 0 S
def b_X9_renews_173 (c1 : Int) (c2 : Int) (c3 : Int) (c4 : Int) (c5 : Int) (c6 : Int) (c7 : Int) (kx : Int → wq_St → Option (Int × wq_St)) (rec : Int → Int → wq_St → Option (Int × wq_St)) (y8 : Int) (y9 : Int) (S : wq_St) : Option (Int × wq_St) :=
  if wq_w c6 ≤ wq_w y9 then
    kx y8 S
  else
    if wq_w y8 = 0 then
      rec 0 (y9 + 1) S
    else
      wq_bd (f_X9_isSampled c1 y9 c2 S) fun r21 S22 =>
      if wq_w r21 = 0 then
        rec 1 (y9 + 1) S22
      else
        wq_bd (f_X9_valueAt c1 y9 c3 S22) fun r23 S24 =>
        if wq_w r23 = wq_w c7 then
          rec 0 (y9 + 1) S24
        else
          rec 1 (y9 + 1) S24
def l_X9_renews_173 (c1 : Int) (c2 : Int) (c3 : Int) (c4 : Int) (c5 : Int) (c6 : Int) (c7 : Int) (kx : Int → wq_St → Option (Int × wq_St)) (n : Nat) (y8 : Int) (y9 : Int) (S : wq_St) : Option (Int × wq_St) :=
  wq_loop (fun (g : Int × Int × wq_St → Option (Int × wq_St)) (x : Int × Int × wq_St) => b_X9_renews_173 c1 c2 c3 c4 c5 c6 c7 kx (fun y8 y9 S => g (y8, y9, S)) x.1 x.2.1 x.2.2) n (y8, y9, S)
theorem l_X9_renews_173_s (c1 : Int) (c2 : Int) (c3 : Int) (c4 : Int) (c5 : Int) (c6 : Int) (c7 : Int) (kx : Int → wq_St → Option (Int × wq_St)) (n : Nat) (y8 : Int) (y9 : Int) (S : wq_St) : l_X9_renews_173 c1 c2 c3 c4 c5 c6 c7 kx (n + 1) y8 y9 S = b_X9_renews_173 c1 c2 c3 c4 c5 c6 c7 kx (l_X9_renews_173 c1 c2 c3 c4 c5 c6 c7 kx n) y8 y9 S := rfl
theorem l_X9_renews_173_0 (c1 : Int) (c2 : Int) (c3 : Int) (c4 : Int) (c5 : Int) (c6 : Int) (c7 : Int) (kx : Int → wq_St → Option (Int × wq_St)) (y8 : Int) (y9 : Int) (S : wq_St) : l_X9_renews_173 c1 c2 c3 c4 c5 c6 c7 kx 0 y8 y9 S = none := rfl
def j_X9_renews_163 (kx : wq_St → Option (Int × wq_St)) (rec : Int → Int → wq_St → Option (Int × wq_St)) (j1 : Int) (j2 : Int) (j3 : Int) (j4 : Int) (j6 : Int) (j7 : Int) (z0 : Int) (z1 : Int) (S : wq_St) : Option (Int × wq_St) :=
  wq_ix z1 12 fun t19 =>
  wq_lt (wq_set S 9 t19 z0) fun S20 =>
  l_X9_renews_173 j1 j2 j3 j4 1 j6 j7 (fun u25 S26 =>
    wq_ix j4 12 fun t27 =>
    if wq_w u25 = 0 then
      wq_ix j4 12 fun t28 =>
      wq_lt (wq_set S26 7 t28 ((S26 7 t27) + 0)) fun S29 =>
      rec 1 (j6 + 1) S29
    else
      wq_ix j4 12 fun t30 =>
      wq_lt (wq_set S26 7 t30 ((S26 7 t27) + j2)) fun S31 =>
      rec 1 (j6 + 1) S31) wq_fu 1 0 S20
def j_X9_renews_151 (kx : wq_St → Option (Int × wq_St)) (rec : Int → Int → wq_St → Option (Int × wq_St)) (j1 : Int) (j2 : Int) (j3 : Int) (j4 : Int) (j6 : Int) (j7 : Int) (z0 : Int) (S : wq_St) : Option (Int × wq_St) :=
  j_X9_renews_163 kx rec j1 j2 j3 j4 j6 j7 j7 z0 S
def j_X9_renews_127 (kx : wq_St → Option (Int × wq_St)) (rec : Int → Int → wq_St → Option (Int × wq_St)) (j1 : Int) (j2 : Int) (j3 : Int) (j4 : Int) (j5 : Int) (j6 : Int) (j7 : Int) (z0 : Int) (z1 : Int) (S : wq_St) : Option (Int × wq_St) :=
  wq_ix z1 12 fun t17 =>
  wq_lt (wq_set S 8 t17 z0) fun S18 =>
  if wq_w j5 = 0 then
    j_X9_renews_151 kx rec j1 j2 j3 j4 j6 j7 j4 S18
  else
    wq_ix j4 12 fun t32 =>
    if wq_w j7 ≤ wq_w (S18 9 t32) then
      wq_ix j4 12 fun t33 =>
      j_X9_renews_163 kx rec j1 j2 j3 j4 j6 j7 (S18 9 t33) j4 S18
    else
      j_X9_renews_151 kx rec j1 j2 j3 j4 j6 j7 j4 S18
def j_X9_renews_115 (kx : wq_St → Option (Int × wq_St)) (rec : Int → Int → wq_St → Option (Int × wq_St)) (j1 : Int) (j2 : Int) (j3 : Int) (j4 : Int) (j5 : Int) (j6 : Int) (j7 : Int) (z0 : Int) (S : wq_St) : Option (Int × wq_St) :=
  j_X9_renews_127 kx rec j1 j2 j3 j4 j5 j6 j7 j7 z0 S
def b_X9_renews_60 (c1 : Int) (c2 : Int) (c3 : Int) (c4 : Int) (kx : wq_St → Option (Int × wq_St)) (rec : Int → Int → wq_St → Option (Int × wq_St)) (y5 : Int) (y6 : Int) (S : wq_St) : Option (Int × wq_St) :=
  wq_ix c1 4 fun t12 =>
  if wq_w (S 2 t12) ≤ wq_w y6 then
    kx S
  else
    wq_bd (f_X9_isSampled c1 y6 c2 S) fun r13 S14 =>
    if wq_w r13 = 0 then
      rec y5 (y6 + 1) S14
    else
      wq_bd (f_X9_valueAt c1 y6 c3 S14) fun r15 S16 =>
      if wq_w y5 = 0 then
        j_X9_renews_115 kx rec c1 c2 c3 c4 y5 y6 r15 c4 S16
      else
        wq_ix c4 12 fun t34 =>
        if wq_w (S16 8 t34) ≤ wq_w r15 then
          wq_ix c4 12 fun t35 =>
          j_X9_renews_127 kx rec c1 c2 c3 c4 y5 y6 r15 (S16 8 t35) c4 S16
        else
          j_X9_renews_115 kx rec c1 c2 c3 c4 y5 y6 r15 c4 S16
def l_X9_renews_60 (c1 : Int) (c2 : Int) (c3 : Int) (c4 : Int) (kx : wq_St → Option (Int × wq_St)) (n : Nat) (y5 : Int) (y6 : Int) (S : wq_St) : Option (Int × wq_St) :=
  wq_loop (fun (g : Int × Int × wq_St → Option (Int × wq_St)) (x : Int × Int × wq_St) => b_X9_renews_60 c1 c2 c3 c4 kx (fun y5 y6 S => g (y5, y6, S)) x.1 x.2.1 x.2.2) n (y5, y6, S)
theorem l_X9_renews_60_s (c1 : Int) (c2 : Int) (c3 : Int) (c4 : Int) (kx : wq_St → Option (Int × wq_St)) (n : Nat) (y5 : Int) (y6 : Int) (S : wq_St) : l_X9_renews_60 c1 c2 c3 c4 kx (n + 1) y5 y6 S = b_X9_renews_60 c1 c2 c3 c4 kx (l_X9_renews_60 c1 c2 c3 c4 kx n) y5 y6 S := rfl
theorem l_X9_renews_60_0 (c1 : Int) (c2 : Int) (c3 : Int) (c4 : Int) (kx : wq_St → Option (Int × wq_St)) (y5 : Int) (y6 : Int) (S : wq_St) : l_X9_renews_60 c1 c2 c3 c4 kx 0 y5 y6 S = none := rfl
def b_X9_renews_13 (c1 : Int) (c2 : Int) (kx : wq_St → Option (Int × wq_St)) (rec : Int → wq_St → Option (Int × wq_St)) (y3 : Int) (S : wq_St) : Option (Int × wq_St) :=
  wq_ix c1 4 fun t5 =>
  if wq_w (S 1 t5) ≤ wq_w y3 then
    kx S
  else
    wq_ix ((3 * c1) + y3) 12 fun t6 =>
    wq_lt (wq_set S 7 t6 0) fun S7 =>
    wq_ix ((3 * c1) + y3) 12 fun t8 =>
    wq_lt (wq_set S7 8 t8 0) fun S9 =>
    wq_ix ((3 * c1) + y3) 12 fun t10 =>
    wq_lt (wq_set S9 9 t10 0) fun S11 =>
    l_X9_renews_60 c1 c2 y3 ((3 * c1) + y3) (fun S36 =>
      wq_ix ((3 * c1) + y3) 12 fun t37 =>
      wq_ix c1 4 fun t38 =>
      if wq_w (S36 7 t37) ≤ wq_w (S36 6 t38) then
        wq_ix ((3 * c1) + y3) 12 fun t39 =>
        wq_ix ((3 * c1) + y3) 12 fun t40 =>
        wq_lt (wq_set S36 7 t40 (S36 7 t39)) fun S41 =>
        rec (y3 + 1) S41
      else
        wq_ix c1 4 fun t42 =>
        wq_ix ((3 * c1) + y3) 12 fun t43 =>
        wq_lt (wq_set S36 7 t43 (S36 6 t42)) fun S44 =>
        rec (y3 + 1) S44) wq_fu 0 0 S11
def l_X9_renews_13 (c1 : Int) (c2 : Int) (kx : wq_St → Option (Int × wq_St)) (n : Nat) (y3 : Int) (S : wq_St) : Option (Int × wq_St) :=
  wq_loop (fun (g : Int × wq_St → Option (Int × wq_St)) (x : Int × wq_St) => b_X9_renews_13 c1 c2 kx (fun y3 S => g (y3, S)) x.1 x.2) n (y3, S)
theorem l_X9_renews_13_s (c1 : Int) (c2 : Int) (kx : wq_St → Option (Int × wq_St)) (n : Nat) (y3 : Int) (S : wq_St) : l_X9_renews_13 c1 c2 kx (n + 1) y3 S = b_X9_renews_13 c1 c2 kx (l_X9_renews_13 c1 c2 kx n) y3 S := rfl
theorem l_X9_renews_13_0 (c1 : Int) (c2 : Int) (kx : wq_St → Option (Int × wq_St)) (y3 : Int) (S : wq_St) : l_X9_renews_13 c1 c2 kx 0 y3 S = none := rfl
def f_X9_renews (x1 : Int) (x2 : Int) (S : wq_St) : Option (Int × wq_St) :=
  wq_bd (f_X9_rowsOf x1 S) fun r1 S2 =>
  wq_ix x1 4 fun t3 =>
  wq_lt (wq_set S2 6 t3 r1) fun S4 =>
  l_X9_renews_13 x1 x2 (fun S45 =>
    some (0, S45)) wq_fu 0 S4
def f_X9_renew (x1 : Int) (x2 : Int) (S : wq_St) : Option (Int × wq_St) :=
  wq_bd (f_X9_isTable x1 S) fun r1 S2 =>
  wq_bd (f_X9_in x2 1 10 S2) fun r3 S4 =>
  wq_bd (f_X9_asked_ r1 r3 S4) fun r5 S6 =>
  if wq_w r5 = 0 then
    some (0, S6)
  else
    wq_bd (f_X9_renews x1 x2 S6) fun r7 S8 =>
    wq_bd (f_X9_sample x1 x2 S8) fun r9 S10 =>
    some (r9, S10)
def f_X9_setStep (x1 : Int) (S : wq_St) : Option (Int × wq_St) :=
  wq_bd (f_X9_in x1 1 10 S) fun r1 S2 =>
  wq_bd (f_X9_asked r1 S2) fun r3 S4 =>
  if wq_w r3 = 0 then
    some (0, S4)
  else
    wq_lt (wq_set S4 0 11 x1) fun S5 =>
    some (S4 0 11, S5)
def f_X9_toldRows (x1 : Int) (S : wq_St) : Option (Int × wq_St) :=
  wq_bd (f_X9_isTable x1 S) fun r1 S2 =>
  wq_bd (f_X9_asked r1 S2) fun r3 S4 =>
  if wq_w r3 = 0 then
    some (0, S4)
  else
    wq_ix x1 4 fun t5 =>
    some (S4 6 t5, S4)
def f_X9_unlike (x1 : Int) (x2 : Int) (S : wq_St) : Option (Int × wq_St) :=
  wq_bd (f_X9_isColumn x1 x2 S) fun r1 S2 =>
  wq_bd (f_X9_asked r1 S2) fun r3 S4 =>
  if wq_w r3 = 0 then
    some (0, S4)
  else
    wq_ix ((3 * x1) + x2) 12 fun t5 =>
    some (S4 7 t5, S4)
def f_X9_least (x1 : Int) (x2 : Int) (S : wq_St) : Option (Int × wq_St) :=
  wq_bd (f_X9_isColumn x1 x2 S) fun r1 S2 =>
  wq_bd (f_X9_asked r1 S2) fun r3 S4 =>
  if wq_w r3 = 0 then
    some (0, S4)
  else
    wq_ix ((3 * x1) + x2) 12 fun t5 =>
    some (S4 8 t5, S4)
def f_X9_greatest (x1 : Int) (x2 : Int) (S : wq_St) : Option (Int × wq_St) :=
  wq_bd (f_X9_isColumn x1 x2 S) fun r1 S2 =>
  wq_bd (f_X9_asked r1 S2) fun r3 S4 =>
  if wq_w r3 = 0 then
    some (0, S4)
  else
    wq_ix ((3 * x1) + x2) 12 fun t5 =>
    some (S4 9 t5, S4)
def f_X9_isMarked (x1 : Int) (S : wq_St) : Option (Int × wq_St) :=
  wq_bd (f_X9_isTable x1 S) fun r1 S2 =>
  wq_bd (f_X9_asked r1 S2) fun r3 S4 =>
  if wq_w r3 = 0 then
    some (0, S4)
  else
    wq_ix x1 4 fun t5 =>
    if wq_w (S4 10 t5) = 0 then
      some (0, S4)
    else
      some (1, S4)
def j_X9_addReport_23 (j1 : Int) (z0 : Int) (z1 : Int) (S : wq_St) : Option (Int × wq_St) :=
  wq_bd (f_X9_asked_ z1 z0 S) fun r3 S4 =>
  if wq_w r3 = 0 then
    some (0, S4)
  else
    wq_ix (S4 0 28) 8 fun t5 =>
    wq_lt (wq_set S4 11 t5 j1) fun S6 =>
    wq_ix (S6 0 28) 8 fun t7 =>
    wq_lt (wq_set S6 22 t7 (-1)) fun S8 =>
    wq_ix (S8 0 28) 8 fun t9 =>
    wq_lt (wq_set S8 24 t9 (-1)) fun S10 =>
    wq_ix (S10 0 28) 8 fun t11 =>
    wq_lt (wq_set S10 25 t11 (-1)) fun S12 =>
    wq_ix (S12 0 28) 8 fun t13 =>
    wq_lt (wq_set S12 26 t13 (-1)) fun S14 =>
    wq_lt (wq_set S14 0 28 ((S14 0 28) + 1)) fun S15 =>
    some ((S15 0 28) - 1, S15)
def f_X9_addReport (x1 : Int) (S : wq_St) : Option (Int × wq_St) :=
  wq_bd (f_X9_in x1 0 1000 S) fun r1 S2 =>
  if wq_w 8 ≤ wq_w (S2 0 28) then
    j_X9_addReport_23 x1 0 r1 S2
  else
    j_X9_addReport_23 x1 1 r1 S2
def j_X9_addSource_43 (j1 : Int) (j2 : Int) (z0 : Int) (z1 : Int) (S : wq_St) : Option (Int × wq_St) :=
  wq_bd (f_X9_asked_ z1 z0 S) fun r3 S4 =>
  if wq_w r3 = 0 then
    some (0, S4)
  else
    wq_ix j1 8 fun t5 =>
    wq_ix ((3 * j1) + (S4 13 t5)) 24 fun t6 =>
    wq_lt (wq_set S4 14 t6 j2) fun S7 =>
    wq_ix j1 8 fun t8 =>
    wq_ix j1 8 fun t9 =>
    wq_lt (wq_set S7 13 t9 ((S7 13 t8) + 1)) fun S10 =>
    wq_ix j1 8 fun t11 =>
    some ((S10 13 t11) - 1, S10)
def j_X9_addSource_42 (j1 : Int) (j2 : Int) (z0 : Int) (S : wq_St) : Option (Int × wq_St) :=
  j_X9_addSource_43 j1 j2 0 z0 S
def j_X9_addSource_21 (j1 : Int) (j2 : Int) (z0 : Int) (S : wq_St) : Option (Int × wq_St) :=
  if wq_w z0 = 0 then
    j_X9_addSource_42 j1 j2 z0 S
  else
    wq_ix j1 8 fun t12 =>
    if wq_w 3 ≤ wq_w (S 13 t12) then
      j_X9_addSource_42 j1 j2 z0 S
    else
      j_X9_addSource_43 j1 j2 1 z0 S
def j_X9_addSource_20 (j1 : Int) (j2 : Int) (S : wq_St) : Option (Int × wq_St) :=
  j_X9_addSource_21 j1 j2 0 S
def f_X9_addSource (x1 : Int) (x2 : Int) (S : wq_St) : Option (Int × wq_St) :=
  wq_bd (f_X9_isReport x1 S) fun r1 S2 =>
  if wq_w r1 = 0 then
    j_X9_addSource_20 x1 x2 S2
  else
    wq_bd (f_X9_isTable x2 S2) fun r13 S14 =>
    if wq_w r13 = 0 then
      j_X9_addSource_20 x1 x2 S14
    else
      j_X9_addSource_21 x1 x2 1 S14
def f_X9_adds (x1 : Int) (x2 : Int) (x3 : Int) (x4 : Int) (S : wq_St) : Option (Int × wq_St) :=
  wq_ix x1 8 fun t1 =>
  wq_ix ((6 * x1) + (S 15 t1)) 48 fun t2 =>
  wq_lt (wq_set S 16 t2 x2) fun S3 =>
  wq_ix ((6 * x1) + (S 15 t1)) 48 fun t4 =>
  wq_lt (wq_set S3 17 t4 x3) fun S5 =>
  wq_ix ((6 * x1) + (S 15 t1)) 48 fun t6 =>
  wq_lt (wq_set S5 18 t6 x4) fun S7 =>
  wq_ix x1 8 fun t8 =>
  wq_ix x1 8 fun t9 =>
  wq_lt (wq_set S7 15 t9 ((S7 15 t8) + 1)) fun S10 =>
  wq_ix x1 8 fun t11 =>
  some ((S10 15 t11) - 1, S10)
def j_X9_addCondition_60 (j1 : Int) (j2 : Int) (j3 : Int) (j4 : Int) (j5 : Int) (z0 : Int) (z1 : Int) (z2 : Int) (S : wq_St) : Option (Int × wq_St) :=
  wq_bd (f_X9_asked__ z2 z1 z0 S) fun r5 S6 =>
  if wq_w r5 = 0 then
    some (0, S6)
  else
    wq_ix j1 8 fun t7 =>
    wq_ix ((6 * j1) + (S6 15 t7)) 48 fun t8 =>
    wq_lt (wq_set S6 19 t8 j5) fun S9 =>
    wq_bd (f_X9_adds j1 j4 j2 j3 S9) fun r10 S11 =>
    some (r10, S11)
def j_X9_addCondition_59 (j1 : Int) (j2 : Int) (j3 : Int) (j4 : Int) (j5 : Int) (z0 : Int) (z1 : Int) (S : wq_St) : Option (Int × wq_St) :=
  j_X9_addCondition_60 j1 j2 j3 j4 j5 0 z0 z1 S
def j_X9_addCondition_39 (j1 : Int) (j2 : Int) (j3 : Int) (j4 : Int) (j5 : Int) (j6 : Int) (z0 : Int) (z1 : Int) (S : wq_St) : Option (Int × wq_St) :=
  if wq_w j6 = 0 then
    j_X9_addCondition_59 j1 j2 j3 j4 j5 z0 z1 S
  else
    wq_ix j1 8 fun t12 =>
    if wq_w 6 ≤ wq_w (S 15 t12) then
      j_X9_addCondition_59 j1 j2 j3 j4 j5 z0 z1 S
    else
      j_X9_addCondition_60 j1 j2 j3 j4 j5 1 z0 z1 S
def j_X9_addCondition_38 (j1 : Int) (j2 : Int) (j3 : Int) (j4 : Int) (j5 : Int) (j6 : Int) (z0 : Int) (S : wq_St) : Option (Int × wq_St) :=
  j_X9_addCondition_39 j1 j2 j3 j4 j5 j6 0 z0 S
def f_X9_addCondition (x1 : Int) (x2 : Int) (x3 : Int) (x4 : Int) (x5 : Int) (S : wq_St) : Option (Int × wq_St) :=
  wq_bd (f_X9_isColumnOf x1 x2 x3 S) fun r1 S2 =>
  wq_bd (f_X9_in x4 0 2 S2) fun r3 S4 =>
  if wq_w r3 = 0 then
    j_X9_addCondition_38 x1 x2 x3 x4 x5 r1 r1 S4
  else
    wq_bd (f_X9_in x5 0 999 S4) fun r13 S14 =>
    if wq_w r13 = 0 then
      j_X9_addCondition_38 x1 x2 x3 x4 x5 r1 r1 S14
    else
      j_X9_addCondition_39 x1 x2 x3 x4 x5 r1 1 r1 S14
def j_X9_addJoin_64 (j1 : Int) (j2 : Int) (j3 : Int) (j4 : Int) (j5 : Int) (z0 : Int) (z1 : Int) (z2 : Int) (S : wq_St) : Option (Int × wq_St) :=
  wq_bd (f_X9_asked__ z2 z1 z0 S) fun r3 S4 =>
  if wq_w r3 = 0 then
    some (0, S4)
  else
    wq_ix j1 8 fun t5 =>
    wq_ix ((6 * j1) + (S4 15 t5)) 48 fun t6 =>
    wq_lt (wq_set S4 20 t6 j4) fun S7 =>
    wq_ix j1 8 fun t8 =>
    wq_ix ((6 * j1) + (S7 15 t8)) 48 fun t9 =>
    wq_lt (wq_set S7 21 t9 j5) fun S10 =>
    wq_bd (f_X9_adds j1 3 j2 j3 S10) fun r11 S12 =>
    some (r11, S12)
def j_X9_addJoin_63 (j1 : Int) (j2 : Int) (j3 : Int) (j4 : Int) (j5 : Int) (z0 : Int) (z1 : Int) (S : wq_St) : Option (Int × wq_St) :=
  j_X9_addJoin_64 j1 j2 j3 j4 j5 0 z0 z1 S
def j_X9_addJoin_43 (j1 : Int) (j2 : Int) (j3 : Int) (j4 : Int) (j5 : Int) (j6 : Int) (z0 : Int) (z1 : Int) (S : wq_St) : Option (Int × wq_St) :=
  if wq_w j6 = 0 then
    j_X9_addJoin_63 j1 j2 j3 j4 j5 z0 z1 S
  else
    wq_ix j1 8 fun t13 =>
    if wq_w 6 ≤ wq_w (S 15 t13) then
      j_X9_addJoin_63 j1 j2 j3 j4 j5 z0 z1 S
    else
      j_X9_addJoin_64 j1 j2 j3 j4 j5 1 z0 z1 S
def j_X9_addJoin_27 (j1 : Int) (j2 : Int) (j3 : Int) (j4 : Int) (j5 : Int) (z0 : Int) (S : wq_St) : Option (Int × wq_St) :=
  if wq_w j2 = wq_w j4 then
    j_X9_addJoin_43 j1 j2 j3 j4 j5 z0 0 z0 S
  else
    j_X9_addJoin_43 j1 j2 j3 j4 j5 z0 1 z0 S
def j_X9_addJoin_26 (j1 : Int) (j2 : Int) (j3 : Int) (j4 : Int) (j5 : Int) (S : wq_St) : Option (Int × wq_St) :=
  j_X9_addJoin_27 j1 j2 j3 j4 j5 0 S
def f_X9_addJoin (x1 : Int) (x2 : Int) (x3 : Int) (x4 : Int) (x5 : Int) (S : wq_St) : Option (Int × wq_St) :=
  wq_bd (f_X9_isColumnOf x1 x2 x3 S) fun r1 S2 =>
  if wq_w r1 = 0 then
    j_X9_addJoin_26 x1 x2 x3 x4 x5 S2
  else
    wq_bd (f_X9_isColumnOf x1 x4 x5 S2) fun r14 S15 =>
    if wq_w r14 = 0 then
      j_X9_addJoin_26 x1 x2 x3 x4 x5 S15
    else
      j_X9_addJoin_27 x1 x2 x3 x4 x5 1 S15
def j_X9_dropCondition_26 (j1 : Int) (z0 : Int) (z1 : Int) (S : wq_St) : Option (Int × wq_St) :=
  wq_bd (f_X9_asked_ z1 z0 S) fun r3 S4 =>
  if wq_w r3 = 0 then
    some (0, S4)
  else
    wq_ix j1 8 fun t5 =>
    wq_ix j1 8 fun t6 =>
    wq_lt (wq_set S4 15 t6 ((S4 15 t5) - 1)) fun S7 =>
    wq_ix j1 8 fun t8 =>
    some (S7 15 t8, S7)
def j_X9_dropCondition_25 (j1 : Int) (z0 : Int) (S : wq_St) : Option (Int × wq_St) :=
  j_X9_dropCondition_26 j1 0 z0 S
def f_X9_dropCondition (x1 : Int) (S : wq_St) : Option (Int × wq_St) :=
  wq_bd (f_X9_isReport x1 S) fun r1 S2 =>
  if wq_w r1 = 0 then
    j_X9_dropCondition_25 x1 r1 S2
  else
    wq_ix x1 8 fun t9 =>
    if wq_w (S2 15 t9) ≤ 0 then
      j_X9_dropCondition_25 x1 r1 S2
    else
      j_X9_dropCondition_26 x1 1 r1 S2
def j_X9_setSum_24 (j1 : Int) (j2 : Int) (j3 : Int) (S : wq_St) : Option (Int × wq_St) :=
  wq_bd (f_X9_asked 1 S) fun r8 S9 =>
  if wq_w r8 = 0 then
    some (0, S9)
  else
    wq_ix j1 8 fun t10 =>
    wq_lt (wq_set S9 22 t10 j2) fun S11 =>
    wq_ix j1 8 fun t12 =>
    some (0, wq_set S11 23 t12 j3)
def f_X9_setSum (x1 : Int) (x2 : Int) (x3 : Int) (S : wq_St) : Option (Int × wq_St) :=
  wq_bd (f_X9_isReport x1 S) fun r1 S2 =>
  if wq_w r1 = 0 then
    wq_bd (f_X9_asked 0 S2) fun r3 S4 =>
    if wq_w r3 = 0 then
      some (0, S4)
    else
      wq_ix x1 8 fun t5 =>
      wq_lt (wq_set S4 22 t5 x2) fun S6 =>
      wq_ix x1 8 fun t7 =>
      some (0, wq_set S6 23 t7 x3)
  else
    if wq_w x2 = wq_w (-1) then
      j_X9_setSum_24 x1 x2 x3 S2
    else
      wq_bd (f_X9_isColumnOf x1 x2 x3 S2) fun r13 S14 =>
      if wq_w r13 = 0 then
        wq_bd (f_X9_asked 0 S14) fun r15 S16 =>
        if wq_w r15 = 0 then
          some (0, S16)
        else
          wq_ix x1 8 fun t17 =>
          wq_lt (wq_set S16 22 t17 x2) fun S18 =>
          wq_ix x1 8 fun t19 =>
          some (0, wq_set S18 23 t19 x3)
      else
        j_X9_setSum_24 x1 x2 x3 S14
def f_X9_setDue (x1 : Int) (x2 : Int) (S : wq_St) : Option (Int × wq_St) :=
  wq_bd (f_X9_isReport x1 S) fun r1 S2 =>
  wq_bd (f_X9_asked r1 S2) fun r3 S4 =>
  if wq_w r3 = 0 then
    some (0, S4)
  else
    wq_ix x1 8 fun t5 =>
    wq_ix x1 8 fun t6 =>
    wq_gd (x2 = 0 ∨ x2 = 1) <|
    wq_lt (wq_set S4 12 t6 x2) fun S7 =>
    wq_gd (S4 12 t5 = 0 ∨ S4 12 t5 = 1) <|
    some (S4 12 t5, S7)
def f_X9_isDue (x1 : Int) (S : wq_St) : Option (Int × wq_St) :=
  wq_bd (f_X9_isReport x1 S) fun r1 S2 =>
  wq_bd (f_X9_asked r1 S2) fun r3 S4 =>
  if wq_w r3 = 0 then
    some (0, S4)
  else
    wq_ix x1 8 fun t5 =>
    if wq_w (S4 12 t5) = 0 then
      some (0, S4)
    else
      some (1, S4)
def b_X9_stepOf_2 (c1 : Int) (kx : Int → wq_St → Option (Int × wq_St)) (rec : Int → wq_St → Option (Int × wq_St)) (y2 : Int) (S : wq_St) : Option (Int × wq_St) :=
  wq_ix y2 3 fun t1 =>
  if wq_w (S 27 t1) = wq_w c1 then
    kx y2 S
  else
    rec (y2 + 1) S
def l_X9_stepOf_2 (c1 : Int) (kx : Int → wq_St → Option (Int × wq_St)) (n : Nat) (y2 : Int) (S : wq_St) : Option (Int × wq_St) :=
  wq_loop (fun (g : Int × wq_St → Option (Int × wq_St)) (x : Int × wq_St) => b_X9_stepOf_2 c1 kx (fun y2 S => g (y2, S)) x.1 x.2) n (y2, S)
theorem l_X9_stepOf_2_s (c1 : Int) (kx : Int → wq_St → Option (Int × wq_St)) (n : Nat) (y2 : Int) (S : wq_St) : l_X9_stepOf_2 c1 kx (n + 1) y2 S = b_X9_stepOf_2 c1 kx (l_X9_stepOf_2 c1 kx n) y2 S := rfl
theorem l_X9_stepOf_2_0 (c1 : Int) (kx : Int → wq_St → Option (Int × wq_St)) (y2 : Int) (S : wq_St) : l_X9_stepOf_2 c1 kx 0 y2 S = none := rfl
def f_X9_stepOf (x1 : Int) (S : wq_St) : Option (Int × wq_St) :=
  l_X9_stepOf_2 x1 (fun u2 S3 =>
    some (u2, S3)) wq_fu 0 S
def f_X9_stepOfCondition (x1 : Int) (S : wq_St) : Option (Int × wq_St) :=
  wq_ix x1 48 fun t1 =>
  wq_bd (f_X9_stepOf (S 17 t1) S) fun r2 S3 =>
  wq_ix x1 48 fun t4 =>
  if wq_w (S3 16 t4) = wq_w 3 then
    wq_ix x1 48 fun t5 =>
    wq_bd (f_X9_stepOf (S3 20 t5) S3) fun r6 S7 =>
    if wq_w r6 ≤ wq_w r2 then
      some (r2, S7)
    else
      some (r6, S7)
  else
    if wq_w r2 ≤ wq_w r2 then
      some (r2, S3)
    else
      some (r2, S3)
def f_X9_columnAt (x1 : Int) (x2 : Int) (S : wq_St) : Option (Int × wq_St) :=
  wq_ix x1 48 fun t1 =>
  wq_ix x2 3 fun t2 =>
  if wq_w (S 17 t1) = wq_w (S 27 t2) then
    wq_ix x1 48 fun t4 =>
    some (S 18 t4, S)
  else
    wq_ix x1 48 fun t3 =>
    some (S 21 t3, S)
def j_X9_useOf_43 (kx : wq_St → Option (Int × wq_St)) (rec : Int → wq_St → Option (Int × wq_St)) (j1 : Int) (j2 : Int) (j3 : Int) (j4 : Int) (S : wq_St) : Option (Int × wq_St) :=
  wq_bd (f_X9_stepOfCondition j4 S) fun r3 S4 =>
  if wq_w r3 = wq_w j2 then
    wq_bd (f_X9_columnAt j4 j2 S4) fun r5 S6 =>
    if wq_w r5 = wq_w j3 then
      some (j4, S6)
    else
      rec (j4 + 1) S6
  else
    rec (j4 + 1) S4
def b_X9_useOf_6 (c1 : Int) (c2 : Int) (c3 : Int) (kx : wq_St → Option (Int × wq_St)) (rec : Int → wq_St → Option (Int × wq_St)) (y4 : Int) (S : wq_St) : Option (Int × wq_St) :=
  wq_ix c1 8 fun t1 =>
  if wq_w ((6 * c1) + (S 15 t1)) ≤ wq_w y4 then
    kx S
  else
    wq_ix y4 48 fun t2 =>
    if wq_w (S 16 t2) = 0 then
      j_X9_useOf_43 kx rec c1 c2 c3 y4 S
    else
      wq_ix y4 48 fun t7 =>
      if wq_w (S 16 t7) = wq_w 3 then
        j_X9_useOf_43 kx rec c1 c2 c3 y4 S
      else
        rec (y4 + 1) S
def l_X9_useOf_6 (c1 : Int) (c2 : Int) (c3 : Int) (kx : wq_St → Option (Int × wq_St)) (n : Nat) (y4 : Int) (S : wq_St) : Option (Int × wq_St) :=
  wq_loop (fun (g : Int × wq_St → Option (Int × wq_St)) (x : Int × wq_St) => b_X9_useOf_6 c1 c2 c3 kx (fun y4 S => g (y4, S)) x.1 x.2) n (y4, S)
theorem l_X9_useOf_6_s (c1 : Int) (c2 : Int) (c3 : Int) (kx : wq_St → Option (Int × wq_St)) (n : Nat) (y4 : Int) (S : wq_St) : l_X9_useOf_6 c1 c2 c3 kx (n + 1) y4 S = b_X9_useOf_6 c1 c2 c3 kx (l_X9_useOf_6 c1 c2 c3 kx n) y4 S := rfl
theorem l_X9_useOf_6_0 (c1 : Int) (c2 : Int) (c3 : Int) (kx : wq_St → Option (Int × wq_St)) (y4 : Int) (S : wq_St) : l_X9_useOf_6 c1 c2 c3 kx 0 y4 S = none := rfl
def f_X9_useOf (x1 : Int) (x2 : Int) (x3 : Int) (S : wq_St) : Option (Int × wq_St) :=
  l_X9_useOf_6 x1 x2 x3 (fun S8 =>
    some ((-1), S8)) wq_fu (6 * x1) S
def f_X9_cellAt (x1 : Int) (x2 : Int) (x3 : Int) (S : wq_St) : Option (Int × wq_St) :=
  wq_ix ((3 * x1) + x2) 24 fun t1 =>
  some ((3 * (S 14 t1)) + x3, S)
def j_X9_changed_60 (j1 : Int) (j2 : Int) (j3 : Int) (z0 : Int) (S : wq_St) : Option (Int × wq_St) :=
  wq_ix j2 48 fun t8 =>
  if wq_w (S 16 t8) = wq_w 3 then
    wq_ix j2 48 fun t9 =>
    wq_ix j2 48 fun t10 =>
    wq_bd (f_X9_cellAt j1 (S 20 t9) (S 21 t10) S) fun r11 S12 =>
    wq_ix r11 12 fun t13 =>
    if wq_w (S12 7 t13) ≤ wq_w z0 then
      wq_gd (¬ wq_v (wq_w z0) = 0) <|
      some (wq_divL j3 (wq_w z0), S12)
    else
      wq_ix j2 48 fun t14 =>
      wq_ix j2 48 fun t15 =>
      wq_bd (f_X9_cellAt j1 (S12 20 t14) (S12 21 t15) S12) fun r16 S17 =>
      wq_ix r16 12 fun t18 =>
      wq_gd (¬ wq_v (wq_w (S17 7 t18)) = 0) <|
      some (wq_divL j3 (wq_w (S17 7 t18)), S17)
  else
    wq_gd (¬ wq_v (wq_w z0) = 0) <|
    some (wq_divL j3 (wq_w z0), S)
def j_X9_changed_38 (j1 : Int) (j2 : Int) (j3 : Int) (j5 : Int) (S : wq_St) : Option (Int × wq_St) :=
  wq_ix j5 12 fun t6 =>
  if wq_w 1 ≤ wq_w (S 7 t6) then
    wq_ix j5 12 fun t7 =>
    j_X9_changed_60 j1 j2 j3 (S 7 t7) S
  else
    j_X9_changed_60 j1 j2 j3 1 S
def j_X9_changed_189 (j3 : Int) (j6 : Int) (z0 : Int) (S : wq_St) : Option (Int × wq_St) :=
  if 0 ≤ wq_w z0 then
    if wq_w z0 ≤ wq_w j6 then
      wq_gd (¬ wq_v (wq_w j6) = 0) <|
      some (wq_divL (j3 * (wq_w z0)) (wq_w j6), S)
    else
      wq_gd (¬ wq_v (wq_w j6) = 0) <|
      some (wq_divL (j3 * (wq_w j6)) (wq_w j6), S)
  else
    wq_gd (¬ wq_v (wq_w j6) = 0) <|
    some (wq_divL (j3 * (wq_w 0)) (wq_w j6), S)
def f_X9_changed (x1 : Int) (x2 : Int) (x3 : Int) (S : wq_St) : Option (Int × wq_St) :=
  wq_ix x2 48 fun t1 =>
  wq_ix x2 48 fun t2 =>
  wq_bd (f_X9_cellAt x1 (S 17 t1) (S 18 t2) S) fun r3 S4 =>
  wq_ix x2 48 fun t5 =>
  if wq_w (S4 16 t5) = 0 then
    j_X9_changed_38 x1 x2 x3 r3 S4
  else
    wq_ix x2 48 fun t19 =>
    if wq_w (S4 16 t19) = wq_w 3 then
      j_X9_changed_38 x1 x2 x3 r3 S4
    else
      wq_ix r3 12 fun t20 =>
      wq_ix r3 12 fun t21 =>
      wq_lt (((S4 9 t20) - (S4 8 t21)) + 1) fun a22 =>
      wq_ix x2 48 fun t23 =>
      if wq_w (S4 16 t23) = wq_w 1 then
        wq_ix x2 48 fun t26 =>
        wq_ix r3 12 fun t27 =>
        j_X9_changed_189 x3 a22 ((S4 19 t26) - (S4 8 t27)) S4
      else
        wq_ix r3 12 fun t24 =>
        wq_ix x2 48 fun t25 =>
        j_X9_changed_189 x3 a22 ((S4 9 t24) - (S4 19 t25)) S4
def b_X9_cost_197 (c1 : Int) (c4 : Int) (c6 : Int) (kx : Int → wq_St → Option (Int × wq_St)) (rec : Int → Int → wq_St → Option (Int × wq_St)) (y2 : Int) (y8 : Int) (S : wq_St) : Option (Int × wq_St) :=
  wq_ix c1 8 fun t17 =>
  if wq_w ((6 * c1) + (S 15 t17)) ≤ wq_w y8 then
    kx y2 S
  else
    wq_bd (f_X9_stepOfCondition y8 S) fun r18 S19 =>
    if wq_w r18 = wq_w c6 then
      wq_bd (f_X9_changed c1 y8 y2 S19) fun r20 S21 =>
      rec r20 (y8 + 1) S21
    else
      rec y2 (y8 + 1) S19
def l_X9_cost_197 (c1 : Int) (c4 : Int) (c6 : Int) (kx : Int → wq_St → Option (Int × wq_St)) (n : Nat) (y2 : Int) (y8 : Int) (S : wq_St) : Option (Int × wq_St) :=
  wq_loop (fun (g : Int × Int × wq_St → Option (Int × wq_St)) (x : Int × Int × wq_St) => b_X9_cost_197 c1 c4 c6 kx (fun y2 y8 S => g (y2, y8, S)) x.1 x.2.1 x.2.2) n (y2, y8, S)
theorem l_X9_cost_197_s (c1 : Int) (c4 : Int) (c6 : Int) (kx : Int → wq_St → Option (Int × wq_St)) (n : Nat) (y2 : Int) (y8 : Int) (S : wq_St) : l_X9_cost_197 c1 c4 c6 kx (n + 1) y2 y8 S = b_X9_cost_197 c1 c4 c6 kx (l_X9_cost_197 c1 c4 c6 kx n) y2 y8 S := rfl
theorem l_X9_cost_197_0 (c1 : Int) (c4 : Int) (c6 : Int) (kx : Int → wq_St → Option (Int × wq_St)) (y2 : Int) (y8 : Int) (S : wq_St) : l_X9_cost_197 c1 c4 c6 kx 0 y2 y8 S = none := rfl
def j_X9_cost_180 (kx : Int → wq_St → Option (Int × wq_St)) (rec : Int → Int → Int → wq_St → Option (Int × wq_St)) (j1 : Int) (j2 : Int) (j4 : Int) (j6 : Int) (j7 : Int) (S : wq_St) : Option (Int × wq_St) :=
  wq_ix j7 4 fun t16 =>
  l_X9_cost_197 j1 j4 j6 (fun u22 S23 =>
    rec u22 j4 (j6 + 1) S23) wq_fu (j2 * (wq_w (S 6 t16))) (6 * j1) S
def j_X9_cost_167 (kx : Int → wq_St → Option (Int × wq_St)) (rec : Int → Int → Int → wq_St → Option (Int × wq_St)) (j1 : Int) (j2 : Int) (j6 : Int) (j7 : Int) (z0 : Int) (z1 : Int) (z2 : Int) (z3 : Int) (S : wq_St) : Option (Int × wq_St) :=
  wq_gd (¬ wq_v (wq_w z0) = 0) <|
  wq_lt (z3 + (z2 + (wq_divL z1 (wq_w z0)))) fun a15 =>
  j_X9_cost_180 kx rec j1 j2 a15 j6 j7 S
def b_X9_cost_10 (c1 : Int) (kx : Int → wq_St → Option (Int × wq_St)) (rec : Int → Int → Int → wq_St → Option (Int × wq_St)) (y2 : Int) (y4 : Int) (y6 : Int) (S : wq_St) : Option (Int × wq_St) :=
  wq_ix c1 8 fun t1 =>
  if wq_w (S 13 t1) ≤ wq_w y6 then
    kx y4 S
  else
    wq_ix y6 3 fun t2 =>
    wq_ix ((3 * c1) + (S 27 t2)) 24 fun t3 =>
    wq_ix y6 3 fun t4 =>
    if wq_w (S 28 t4) = wq_w (-1) then
      wq_ix (S 14 t3) 4 fun t24 =>
      wq_lt (y4 + (y2 * (wq_w (S 6 t24)))) fun a25 =>
      j_X9_cost_180 kx rec c1 y2 a25 y6 (S 14 t3) S
    else
      wq_ix y6 3 fun t5 =>
      wq_ix (S 14 t3) 4 fun t6 =>
      if wq_w (S 1 t6) ≤ wq_w (S 28 t5) then
        some ((-1), S)
      else
        wq_ix y6 3 fun t7 =>
        wq_ix ((3 * (S 14 t3)) + (S 28 t7)) 12 fun t8 =>
        if wq_w (S 5 t8) = 0 then
          some ((-1), S)
        else
          wq_ix y6 3 fun t9 =>
          wq_bd (f_X9_useOf c1 y6 (S 28 t9) S) fun r10 S11 =>
          if wq_w r10 = wq_w (-1) then
            some ((-1), S11)
          else
            wq_ix y6 3 fun t12 =>
            wq_ix ((3 * (S 14 t3)) + (S11 28 t12)) 12 fun t13 =>
            wq_ix (S 14 t3) 4 fun t14 =>
            if wq_w 1 ≤ wq_w (S11 7 t13) then
              j_X9_cost_167 kx rec c1 y2 y6 (S 14 t3) (S11 7 t13) (y2 * (wq_w (S11 6 t14))) y2 y4 S11
            else
              j_X9_cost_167 kx rec c1 y2 y6 (S 14 t3) 1 (y2 * (wq_w (S11 6 t14))) y2 y4 S11
def l_X9_cost_10 (c1 : Int) (kx : Int → wq_St → Option (Int × wq_St)) (n : Nat) (y2 : Int) (y4 : Int) (y6 : Int) (S : wq_St) : Option (Int × wq_St) :=
  wq_loop (fun (g : Int × Int × Int × wq_St → Option (Int × wq_St)) (x : Int × Int × Int × wq_St) => b_X9_cost_10 c1 kx (fun y2 y4 y6 S => g (y2, y4, y6, S)) x.1 x.2.1 x.2.2.1 x.2.2.2) n (y2, y4, y6, S)
theorem l_X9_cost_10_s (c1 : Int) (kx : Int → wq_St → Option (Int × wq_St)) (n : Nat) (y2 : Int) (y4 : Int) (y6 : Int) (S : wq_St) : l_X9_cost_10 c1 kx (n + 1) y2 y4 y6 S = b_X9_cost_10 c1 kx (l_X9_cost_10 c1 kx n) y2 y4 y6 S := rfl
theorem l_X9_cost_10_0 (c1 : Int) (kx : Int → wq_St → Option (Int × wq_St)) (y2 : Int) (y4 : Int) (y6 : Int) (S : wq_St) : l_X9_cost_10 c1 kx 0 y2 y4 y6 S = none := rfl
def f_X9_cost (x1 : Int) (S : wq_St) : Option (Int × wq_St) :=
  l_X9_cost_10 x1 (fun u26 S27 =>
    some (u26, S27)) wq_fu 1000 0 0 S
def b_X9_triesWays_119 (c1 : Int) (c2 : Int) (c3 : Int) (c4 : Int) (c5 : Int) (kx : wq_St → Option (Int × wq_St)) (rec : Int → wq_St → Option (Int × wq_St)) (y8 : Int) (S : wq_St) : Option (Int × wq_St) :=
  if wq_w 3 ≤ wq_w y8 then
    kx S
  else
    wq_ix y8 3 fun t11 =>
    wq_ix y8 3 fun t12 =>
    wq_lt (wq_set S 29 t12 (S 27 t11)) fun S13 =>
    wq_ix y8 3 fun t14 =>
    wq_ix y8 3 fun t15 =>
    wq_lt (wq_set S13 30 t15 (S13 28 t14)) fun S16 =>
    rec (y8 + 1) S16
def l_X9_triesWays_119 (c1 : Int) (c2 : Int) (c3 : Int) (c4 : Int) (c5 : Int) (kx : wq_St → Option (Int × wq_St)) (n : Nat) (y8 : Int) (S : wq_St) : Option (Int × wq_St) :=
  wq_loop (fun (g : Int × wq_St → Option (Int × wq_St)) (x : Int × wq_St) => b_X9_triesWays_119 c1 c2 c3 c4 c5 kx (fun y8 S => g (y8, S)) x.1 x.2) n (y8, S)
theorem l_X9_triesWays_119_s (c1 : Int) (c2 : Int) (c3 : Int) (c4 : Int) (c5 : Int) (kx : wq_St → Option (Int × wq_St)) (n : Nat) (y8 : Int) (S : wq_St) : l_X9_triesWays_119 c1 c2 c3 c4 c5 kx (n + 1) y8 S = b_X9_triesWays_119 c1 c2 c3 c4 c5 kx (l_X9_triesWays_119 c1 c2 c3 c4 c5 kx n) y8 S := rfl
theorem l_X9_triesWays_119_0 (c1 : Int) (c2 : Int) (c3 : Int) (c4 : Int) (c5 : Int) (kx : wq_St → Option (Int × wq_St)) (y8 : Int) (S : wq_St) : l_X9_triesWays_119 c1 c2 c3 c4 c5 kx 0 y8 S = none := rfl
def j_X9_triesWays_110 (kx : wq_St → Option (Int × wq_St)) (rec : Int → wq_St → Option (Int × wq_St)) (j1 : Int) (j2 : Int) (j3 : Int) (j4 : Int) (j5 : Int) (j6 : Int) (S : wq_St) : Option (Int × wq_St) :=
  wq_lt (wq_set S 0 37 j6) fun S10 =>
  l_X9_triesWays_119 j1 j2 j3 j4 j5 (fun S17 =>
    rec (j5 + 1) S17) wq_fu 0 S10
def j_X9_triesWays_47 (kx : wq_St → Option (Int × wq_St)) (rec : Int → wq_St → Option (Int × wq_St)) (j1 : Int) (j2 : Int) (j3 : Int) (j4 : Int) (j5 : Int) (z0 : Int) (z1 : Int) (S : wq_St) : Option (Int × wq_St) :=
  if wq_w z0 ≤ wq_w z1 then
    kx S
  else
    wq_ix 0 3 fun t2 =>
    wq_lt (wq_set S 28 t2 j3) fun S3 =>
    wq_ix 1 3 fun t4 =>
    wq_lt (wq_set S3 28 t4 j4) fun S5 =>
    wq_ix 2 3 fun t6 =>
    wq_lt (wq_set S5 28 t6 j5) fun S7 =>
    wq_bd (f_X9_cost j1 S7) fun r8 S9 =>
    if wq_w (wq_cmp r8 (-1)) = 0 then
      rec (j5 + 1) S9
    else
      if wq_w (wq_cmp (S9 0 37) (-1)) = 0 then
        j_X9_triesWays_110 kx rec j1 j2 j3 j4 j5 r8 S9
      else
        if 0 ≤ wq_w (wq_cmp r8 (S9 0 37)) then
          rec (j5 + 1) S9
        else
          j_X9_triesWays_110 kx rec j1 j2 j3 j4 j5 r8 S9
def b_X9_triesWays_35 (c1 : Int) (c2 : Int) (c3 : Int) (c4 : Int) (kx : wq_St → Option (Int × wq_St)) (rec : Int → wq_St → Option (Int × wq_St)) (y5 : Int) (S : wq_St) : Option (Int × wq_St) :=
  if wq_w c2 ≤ wq_w 2 then
    j_X9_triesWays_47 kx rec c1 c2 c3 c4 y5 0 y5 S
  else
    j_X9_triesWays_47 kx rec c1 c2 c3 c4 y5 3 y5 S
def l_X9_triesWays_35 (c1 : Int) (c2 : Int) (c3 : Int) (c4 : Int) (kx : wq_St → Option (Int × wq_St)) (n : Nat) (y5 : Int) (S : wq_St) : Option (Int × wq_St) :=
  wq_loop (fun (g : Int × wq_St → Option (Int × wq_St)) (x : Int × wq_St) => b_X9_triesWays_35 c1 c2 c3 c4 kx (fun y5 S => g (y5, S)) x.1 x.2) n (y5, S)
theorem l_X9_triesWays_35_s (c1 : Int) (c2 : Int) (c3 : Int) (c4 : Int) (kx : wq_St → Option (Int × wq_St)) (n : Nat) (y5 : Int) (S : wq_St) : l_X9_triesWays_35 c1 c2 c3 c4 kx (n + 1) y5 S = b_X9_triesWays_35 c1 c2 c3 c4 kx (l_X9_triesWays_35 c1 c2 c3 c4 kx n) y5 S := rfl
theorem l_X9_triesWays_35_0 (c1 : Int) (c2 : Int) (c3 : Int) (c4 : Int) (kx : wq_St → Option (Int × wq_St)) (y5 : Int) (S : wq_St) : l_X9_triesWays_35 c1 c2 c3 c4 kx 0 y5 S = none := rfl
def j_X9_triesWays_29 (kx : wq_St → Option (Int × wq_St)) (rec : Int → wq_St → Option (Int × wq_St)) (j1 : Int) (j2 : Int) (j3 : Int) (j4 : Int) (z0 : Int) (z1 : Int) (S : wq_St) : Option (Int × wq_St) :=
  if wq_w z0 ≤ wq_w z1 then
    kx S
  else
    l_X9_triesWays_35 j1 j2 j3 j4 (fun S18 =>
      rec (j4 + 1) S18) wq_fu (-1) S
def b_X9_triesWays_17 (c1 : Int) (c2 : Int) (c3 : Int) (kx : wq_St → Option (Int × wq_St)) (rec : Int → wq_St → Option (Int × wq_St)) (y4 : Int) (S : wq_St) : Option (Int × wq_St) :=
  if wq_w c2 ≤ wq_w 1 then
    j_X9_triesWays_29 kx rec c1 c2 c3 y4 0 y4 S
  else
    j_X9_triesWays_29 kx rec c1 c2 c3 y4 3 y4 S
def l_X9_triesWays_17 (c1 : Int) (c2 : Int) (c3 : Int) (kx : wq_St → Option (Int × wq_St)) (n : Nat) (y4 : Int) (S : wq_St) : Option (Int × wq_St) :=
  wq_loop (fun (g : Int × wq_St → Option (Int × wq_St)) (x : Int × wq_St) => b_X9_triesWays_17 c1 c2 c3 kx (fun y4 S => g (y4, S)) x.1 x.2) n (y4, S)
theorem l_X9_triesWays_17_s (c1 : Int) (c2 : Int) (c3 : Int) (kx : wq_St → Option (Int × wq_St)) (n : Nat) (y4 : Int) (S : wq_St) : l_X9_triesWays_17 c1 c2 c3 kx (n + 1) y4 S = b_X9_triesWays_17 c1 c2 c3 kx (l_X9_triesWays_17 c1 c2 c3 kx n) y4 S := rfl
theorem l_X9_triesWays_17_0 (c1 : Int) (c2 : Int) (c3 : Int) (kx : wq_St → Option (Int × wq_St)) (y4 : Int) (S : wq_St) : l_X9_triesWays_17 c1 c2 c3 kx 0 y4 S = none := rfl
def b_X9_triesWays_9 (c1 : Int) (c2 : Int) (kx : wq_St → Option (Int × wq_St)) (rec : Int → wq_St → Option (Int × wq_St)) (y3 : Int) (S : wq_St) : Option (Int × wq_St) :=
  if wq_w 3 ≤ wq_w y3 then
    kx S
  else
    l_X9_triesWays_17 c1 c2 y3 (fun S19 =>
      rec (y3 + 1) S19) wq_fu (-1) S
def l_X9_triesWays_9 (c1 : Int) (c2 : Int) (kx : wq_St → Option (Int × wq_St)) (n : Nat) (y3 : Int) (S : wq_St) : Option (Int × wq_St) :=
  wq_loop (fun (g : Int × wq_St → Option (Int × wq_St)) (x : Int × wq_St) => b_X9_triesWays_9 c1 c2 kx (fun y3 S => g (y3, S)) x.1 x.2) n (y3, S)
theorem l_X9_triesWays_9_s (c1 : Int) (c2 : Int) (kx : wq_St → Option (Int × wq_St)) (n : Nat) (y3 : Int) (S : wq_St) : l_X9_triesWays_9 c1 c2 kx (n + 1) y3 S = b_X9_triesWays_9 c1 c2 kx (l_X9_triesWays_9 c1 c2 kx n) y3 S := rfl
theorem l_X9_triesWays_9_0 (c1 : Int) (c2 : Int) (kx : wq_St → Option (Int × wq_St)) (y3 : Int) (S : wq_St) : l_X9_triesWays_9 c1 c2 kx 0 y3 S = none := rfl
def f_X9_triesWays (x1 : Int) (S : wq_St) : Option (Int × wq_St) :=
  wq_ix x1 8 fun t1 =>
  l_X9_triesWays_9 x1 (S 13 t1) (fun S20 =>
    some (0, S20)) wq_fu (-1) S
def j_X9_plans_114 (kx : wq_St → Option (Int × wq_St)) (rec : Int → wq_St → Option (Int × wq_St)) (j1 : Int) (j2 : Int) (j3 : Int) (z0 : Int) (S : wq_St) : Option (Int × wq_St) :=
  if wq_w j2 = wq_w 3 then
    if wq_w z0 = 0 then
      rec (j3 + 1) S
    else
      if wq_w 1 = 0 then
        rec (j3 + 1) S
      else
        wq_bd (f_X9_triesWays j1 S) fun r11 S12 =>
        rec (j3 + 1) S12
  else
    wq_ix 2 3 fun t13 =>
    if wq_w (S 27 t13) = wq_w 2 then
      if wq_w j2 = wq_w 2 then
        if wq_w z0 = 0 then
          rec (j3 + 1) S
        else
          if wq_w 1 = 0 then
            rec (j3 + 1) S
          else
            wq_bd (f_X9_triesWays j1 S) fun r16 S17 =>
            rec (j3 + 1) S17
      else
        wq_ix 1 3 fun t18 =>
        if wq_w (S 27 t18) = wq_w 1 then
          if wq_w z0 = 0 then
            rec (j3 + 1) S
          else
            if wq_w 1 = 0 then
              rec (j3 + 1) S
            else
              wq_bd (f_X9_triesWays j1 S) fun r21 S22 =>
              rec (j3 + 1) S22
        else
          if wq_w z0 = 0 then
            rec (j3 + 1) S
          else
            if wq_w 0 = 0 then
              rec (j3 + 1) S
            else
              wq_bd (f_X9_triesWays j1 S) fun r19 S20 =>
              rec (j3 + 1) S20
    else
      if wq_w z0 = 0 then
        rec (j3 + 1) S
      else
        if wq_w 0 = 0 then
          rec (j3 + 1) S
        else
          wq_bd (f_X9_triesWays j1 S) fun r14 S15 =>
          rec (j3 + 1) S15
def j_X9_plans_113 (kx : wq_St → Option (Int × wq_St)) (rec : Int → wq_St → Option (Int × wq_St)) (j1 : Int) (j2 : Int) (j3 : Int) (S : wq_St) : Option (Int × wq_St) :=
  j_X9_plans_114 kx rec j1 j2 j3 0 S
def b_X9_plans_24 (c1 : Int) (c2 : Int) (kx : wq_St → Option (Int × wq_St)) (rec : Int → wq_St → Option (Int × wq_St)) (y3 : Int) (S : wq_St) : Option (Int × wq_St) :=
  if wq_w 27 ≤ wq_w y3 then
    kx S
  else
    if wq_w c2 ≤ 0 then
      kx S
    else
      wq_gd (¬ wq_w 9 = 0) <|
      wq_ix 0 3 fun t3 =>
      wq_lt (wq_set S 27 t3 (wq_div y3 9)) fun S4 =>
      wq_gd (¬ wq_w 3 = 0) <|
      wq_gd (¬ wq_w 3 = 0) <|
      wq_ix 1 3 fun t5 =>
      wq_lt (wq_set S4 27 t5 (wq_rem (wq_div y3 3) 3)) fun S6 =>
      wq_gd (¬ wq_w 3 = 0) <|
      wq_ix 2 3 fun t7 =>
      wq_lt (wq_set S6 27 t7 (wq_rem y3 3)) fun S8 =>
      wq_ix 0 3 fun t9 =>
      wq_ix 1 3 fun t10 =>
      if wq_w (S8 27 t9) = wq_w (S8 27 t10) then
        j_X9_plans_113 kx rec c1 c2 y3 S8
      else
        wq_ix 0 3 fun t23 =>
        wq_ix 2 3 fun t24 =>
        if wq_w (S8 27 t23) = wq_w (S8 27 t24) then
          j_X9_plans_113 kx rec c1 c2 y3 S8
        else
          wq_ix 1 3 fun t25 =>
          wq_ix 2 3 fun t26 =>
          if wq_w (S8 27 t25) = wq_w (S8 27 t26) then
            j_X9_plans_113 kx rec c1 c2 y3 S8
          else
            j_X9_plans_114 kx rec c1 c2 y3 1 S8
def l_X9_plans_24 (c1 : Int) (c2 : Int) (kx : wq_St → Option (Int × wq_St)) (n : Nat) (y3 : Int) (S : wq_St) : Option (Int × wq_St) :=
  wq_loop (fun (g : Int × wq_St → Option (Int × wq_St)) (x : Int × wq_St) => b_X9_plans_24 c1 c2 kx (fun y3 S => g (y3, S)) x.1 x.2) n (y3, S)
theorem l_X9_plans_24_s (c1 : Int) (c2 : Int) (kx : wq_St → Option (Int × wq_St)) (n : Nat) (y3 : Int) (S : wq_St) : l_X9_plans_24 c1 c2 kx (n + 1) y3 S = b_X9_plans_24 c1 c2 kx (l_X9_plans_24 c1 c2 kx n) y3 S := rfl
theorem l_X9_plans_24_0 (c1 : Int) (c2 : Int) (kx : wq_St → Option (Int × wq_St)) (y3 : Int) (S : wq_St) : l_X9_plans_24 c1 c2 kx 0 y3 S = none := rfl
def b_X9_plans_176 (kx : wq_St → Option (Int × wq_St)) (rec : Int → wq_St → Option (Int × wq_St)) (y3 : Int) (S : wq_St) : Option (Int × wq_St) :=
  if wq_w 3 ≤ wq_w y3 then
    kx S
  else
    wq_ix y3 3 fun t28 =>
    wq_ix y3 3 fun t29 =>
    wq_lt (wq_set S 27 t29 (S 29 t28)) fun S30 =>
    wq_ix y3 3 fun t31 =>
    wq_ix y3 3 fun t32 =>
    wq_lt (wq_set S30 28 t32 (S30 30 t31)) fun S33 =>
    rec (y3 + 1) S33
def l_X9_plans_176 (kx : wq_St → Option (Int × wq_St)) (n : Nat) (y3 : Int) (S : wq_St) : Option (Int × wq_St) :=
  wq_loop (fun (g : Int × wq_St → Option (Int × wq_St)) (x : Int × wq_St) => b_X9_plans_176 kx (fun y3 S => g (y3, S)) x.1 x.2) n (y3, S)
theorem l_X9_plans_176_s (kx : wq_St → Option (Int × wq_St)) (n : Nat) (y3 : Int) (S : wq_St) : l_X9_plans_176 kx (n + 1) y3 S = b_X9_plans_176 kx (l_X9_plans_176 kx n) y3 S := rfl
theorem l_X9_plans_176_0 (kx : wq_St → Option (Int × wq_St)) (y3 : Int) (S : wq_St) : l_X9_plans_176 kx 0 y3 S = none := rfl
def j_X9_plans_174 (S : wq_St) : Option (Int × wq_St) :=
  l_X9_plans_176 (fun S34 =>
    some (0, S34)) wq_fu 0 S
def j_X9_plans_19 (j1 : Int) (j2 : Int) (z0 : Int) (S : wq_St) : Option (Int × wq_St) :=
  wq_lt (wq_set S 0 37 z0) fun S2 =>
  l_X9_plans_24 j1 j2 (fun S27 =>
    j_X9_plans_174 S27) wq_fu 0 S2
def f_X9_plans (x1 : Int) (S : wq_St) : Option (Int × wq_St) :=
  wq_ix x1 8 fun t1 =>
  if wq_w (S 13 t1) = 0 then
    j_X9_plans_19 x1 (S 13 t1) 0 S
  else
    j_X9_plans_19 x1 (S 13 t1) (-1) S
def f_X9_foretells (x1 : Int) (S : wq_St) : Option (Int × wq_St) :=
  wq_bd (f_X9_plans x1 S) fun r1 S2 =>
  wq_gd (¬ wq_v 1000 = 0) <|
  some (wq_divL ((S2 0 37) + 999) 1000, S2)
def f_X9_pickedAt (x1 : Int) (x2 : Int) (x3 : Int) (S : wq_St) : Option (Int × wq_St) :=
  wq_ix ((3 * x1) + x2) 24 fun t1 =>
  wq_bd (f_X9_stepOf x2 S) fun r2 S3 =>
  wq_ix r2 3 fun t4 =>
  wq_bd (f_X9_valueAt (S 14 t1) (S3 31 t4) x3 S3) fun r5 S6 =>
  some (r5, S6)
def f_X9_holds (x1 : Int) (x2 : Int) (S : wq_St) : Option (Int × wq_St) :=
  wq_ix x2 48 fun t1 =>
  wq_ix x2 48 fun t2 =>
  wq_bd (f_X9_pickedAt x1 (S 17 t1) (S 18 t2) S) fun r3 S4 =>
  wq_ix x2 48 fun t5 =>
  if wq_w (S4 16 t5) = 0 then
    wq_ix x2 48 fun t14 =>
    if wq_w r3 = wq_w (S4 19 t14) then
      some (1, S4)
    else
      some (0, S4)
  else
    wq_ix x2 48 fun t6 =>
    if wq_w (S4 16 t6) = wq_w 1 then
      wq_ix x2 48 fun t13 =>
      if wq_w (S4 19 t13) ≤ wq_w r3 then
        some (0, S4)
      else
        some (1, S4)
    else
      wq_ix x2 48 fun t7 =>
      if wq_w (S4 16 t7) = wq_w 2 then
        wq_ix x2 48 fun t12 =>
        if wq_w r3 ≤ wq_w (S4 19 t12) then
          some (0, S4)
        else
          some (1, S4)
      else
        wq_ix x2 48 fun t8 =>
        wq_ix x2 48 fun t9 =>
        wq_bd (f_X9_pickedAt x1 (S4 20 t8) (S4 21 t9) S4) fun r10 S11 =>
        if wq_w r3 = wq_w r10 then
          some (1, S11)
        else
          some (0, S11)
def b_X9_holdsAt_8 (c1 : Int) (c2 : Int) (kx : Int → wq_St → Option (Int × wq_St)) (rec : Int → Int → wq_St → Option (Int × wq_St)) (y3 : Int) (y4 : Int) (S : wq_St) : Option (Int × wq_St) :=
  wq_ix c1 8 fun t1 =>
  if wq_w ((6 * c1) + (S 15 t1)) ≤ wq_w y4 then
    kx y3 S
  else
    if wq_w y3 = 0 then
      rec 0 (y4 + 1) S
    else
      wq_bd (f_X9_stepOfCondition y4 S) fun r2 S3 =>
      if wq_w r2 = wq_w c2 then
        wq_bd (f_X9_holds c1 y4 S3) fun r4 S5 =>
        if wq_w r4 = 0 then
          rec 0 (y4 + 1) S5
        else
          rec 1 (y4 + 1) S5
      else
        rec 1 (y4 + 1) S3
def l_X9_holdsAt_8 (c1 : Int) (c2 : Int) (kx : Int → wq_St → Option (Int × wq_St)) (n : Nat) (y3 : Int) (y4 : Int) (S : wq_St) : Option (Int × wq_St) :=
  wq_loop (fun (g : Int × Int × wq_St → Option (Int × wq_St)) (x : Int × Int × wq_St) => b_X9_holdsAt_8 c1 c2 kx (fun y3 y4 S => g (y3, y4, S)) x.1 x.2.1 x.2.2) n (y3, y4, S)
theorem l_X9_holdsAt_8_s (c1 : Int) (c2 : Int) (kx : Int → wq_St → Option (Int × wq_St)) (n : Nat) (y3 : Int) (y4 : Int) (S : wq_St) : l_X9_holdsAt_8 c1 c2 kx (n + 1) y3 y4 S = b_X9_holdsAt_8 c1 c2 kx (l_X9_holdsAt_8 c1 c2 kx n) y3 y4 S := rfl
theorem l_X9_holdsAt_8_0 (c1 : Int) (c2 : Int) (kx : Int → wq_St → Option (Int × wq_St)) (y3 : Int) (y4 : Int) (S : wq_St) : l_X9_holdsAt_8 c1 c2 kx 0 y3 y4 S = none := rfl
def f_X9_holdsAt (x1 : Int) (x2 : Int) (S : wq_St) : Option (Int × wq_St) :=
  l_X9_holdsAt_8 x1 x2 (fun u6 S7 =>
    wq_gd (u6 = 0 ∨ u6 = 1) <|
    some (u6, S7)) wq_fu 1 (6 * x1) S
def b_X9_minutesAt_131 (c2 : Int) (c3 : Int) (c5 : Int) (kx : Int → wq_St → Option (Int × wq_St)) (rec : Int → Int → wq_St → Option (Int × wq_St)) (y6 : Int) (y7 : Int) (S : wq_St) : Option (Int × wq_St) :=
  wq_ix c3 4 fun t14 =>
  if wq_w (S 2 t14) ≤ wq_w y7 then
    kx y6 S
  else
    wq_ix ((40 * c3) + y7) 160 fun t15 =>
    if wq_w (S 3 t15) = 0 then
      rec (y6 + 0) (y7 + 1) S
    else
      wq_ix c2 3 fun t16 =>
      wq_bd (f_X9_valueAt c3 y7 (S 28 t16) S) fun r17 S18 =>
      if wq_w r17 = wq_w c5 then
        rec (y6 + 1) (y7 + 1) S18
      else
        rec (y6 + 0) (y7 + 1) S18
def l_X9_minutesAt_131 (c2 : Int) (c3 : Int) (c5 : Int) (kx : Int → wq_St → Option (Int × wq_St)) (n : Nat) (y6 : Int) (y7 : Int) (S : wq_St) : Option (Int × wq_St) :=
  wq_loop (fun (g : Int × Int × wq_St → Option (Int × wq_St)) (x : Int × Int × wq_St) => b_X9_minutesAt_131 c2 c3 c5 kx (fun y6 y7 S => g (y6, y7, S)) x.1 x.2.1 x.2.2) n (y6, y7, S)
theorem l_X9_minutesAt_131_s (c2 : Int) (c3 : Int) (c5 : Int) (kx : Int → wq_St → Option (Int × wq_St)) (n : Nat) (y6 : Int) (y7 : Int) (S : wq_St) : l_X9_minutesAt_131 c2 c3 c5 kx (n + 1) y6 y7 S = b_X9_minutesAt_131 c2 c3 c5 kx (l_X9_minutesAt_131 c2 c3 c5 kx n) y6 y7 S := rfl
theorem l_X9_minutesAt_131_0 (c2 : Int) (c3 : Int) (c5 : Int) (kx : Int → wq_St → Option (Int × wq_St)) (y6 : Int) (y7 : Int) (S : wq_St) : l_X9_minutesAt_131 c2 c3 c5 kx 0 y6 y7 S = none := rfl
def j_X9_minutesAt_123 (j2 : Int) (j3 : Int) (z0 : Int) (S : wq_St) : Option (Int × wq_St) :=
  l_X9_minutesAt_131 j2 j3 z0 (fun u19 S20 =>
    some (u19, S20)) wq_fu 1 0 S
def f_X9_minutesAt (x1 : Int) (x2 : Int) (S : wq_St) : Option (Int × wq_St) :=
  wq_ix x2 3 fun t1 =>
  wq_ix ((3 * x1) + (S 27 t1)) 24 fun t2 =>
  wq_ix x2 3 fun t3 =>
  if wq_w (S 28 t3) = wq_w (-1) then
    wq_bd (f_X9_rowsOf (S 14 t2) S) fun r26 S27 =>
    some (r26, S27)
  else
    wq_ix x2 3 fun t4 =>
    wq_bd (f_X9_useOf x1 x2 (S 28 t4) S) fun r5 S6 =>
    wq_ix r5 48 fun t7 =>
    if wq_w (S6 16 t7) = 0 then
      wq_ix r5 48 fun t25 =>
      j_X9_minutesAt_123 x2 (S 14 t2) (S6 19 t25) S6
    else
      wq_ix r5 48 fun t8 =>
      wq_ix x2 3 fun t9 =>
      if wq_w (S6 17 t8) = wq_w (S6 27 t9) then
        wq_ix r5 48 fun t21 =>
        wq_ix r5 48 fun t22 =>
        wq_bd (f_X9_pickedAt x1 (S6 20 t21) (S6 21 t22) S6) fun r23 S24 =>
        j_X9_minutesAt_123 x2 (S 14 t2) r23 S24
      else
        wq_ix r5 48 fun t10 =>
        wq_ix r5 48 fun t11 =>
        wq_bd (f_X9_pickedAt x1 (S6 17 t10) (S6 18 t11) S6) fun r12 S13 =>
        j_X9_minutesAt_123 x2 (S 14 t2) r12 S13
def b_X9_runs_45 (c1 : Int) (c2 : Int) (kx : wq_St → Option (Int × wq_St)) (rec : Int → wq_St → Option (Int × wq_St)) (y3 : Int) (S : wq_St) : Option (Int × wq_St) :=
  if wq_w c2 ≤ 0 then
    kx S
  else
    if wq_w y3 < 0 then
      kx S
    else
      wq_ix y3 3 fun t5 =>
      wq_ix ((3 * c1) + (S 27 t5)) 24 fun t6 =>
      wq_ix y3 3 fun t7 =>
      wq_ix y3 3 fun t8 =>
      wq_lt (wq_set S 31 t8 ((S 31 t7) + 1)) fun S9 =>
      wq_ix y3 3 fun t10 =>
      wq_ix (S 14 t6) 4 fun t11 =>
      if wq_w (S9 31 t10) < wq_w (S9 2 t11) then
        wq_ix y3 3 fun t12 =>
        wq_ix ((40 * (S 14 t6)) + (S9 31 t12)) 160 fun t13 =>
        if wq_w (S9 3 t13) = 0 then
          rec y3 S9
        else
          wq_bd (f_X9_holdsAt c1 y3 S9) fun r14 S15 =>
          if wq_w r14 = 0 then
            rec y3 S15
          else
            if wq_w y3 = wq_w (c2 - 1) then
              wq_lt (wq_set S15 0 40 ((S15 0 40) + 1)) fun S20 =>
              wq_ix c1 8 fun t21 =>
              if wq_w (S20 22 t21) = wq_w (-1) then
                rec y3 (wq_set S20 0 41 ((S20 0 41) + 0))
              else
                wq_ix c1 8 fun t22 =>
                wq_ix c1 8 fun t23 =>
                wq_bd (f_X9_pickedAt c1 (S20 22 t22) (S20 23 t23) S20) fun r24 S25 =>
                rec y3 (wq_set S25 0 41 ((S20 0 41) + r24))
            else
              wq_bd (f_X9_minutesAt c1 (y3 + 1) S15) fun r16 S17 =>
              wq_lt (wq_set S17 0 39 ((S15 0 39) + r16)) fun S18 =>
              wq_ix (y3 + 1) 3 fun t19 =>
              rec (y3 + 1) (wq_set S18 31 t19 (-1))
      else
        rec (y3 + (-1)) S9
def l_X9_runs_45 (c1 : Int) (c2 : Int) (kx : wq_St → Option (Int × wq_St)) (n : Nat) (y3 : Int) (S : wq_St) : Option (Int × wq_St) :=
  wq_loop (fun (g : Int × wq_St → Option (Int × wq_St)) (x : Int × wq_St) => b_X9_runs_45 c1 c2 kx (fun y3 S => g (y3, S)) x.1 x.2) n (y3, S)
theorem l_X9_runs_45_s (c1 : Int) (c2 : Int) (kx : wq_St → Option (Int × wq_St)) (n : Nat) (y3 : Int) (S : wq_St) : l_X9_runs_45 c1 c2 kx (n + 1) y3 S = b_X9_runs_45 c1 c2 kx (l_X9_runs_45 c1 c2 kx n) y3 S := rfl
theorem l_X9_runs_45_0 (c1 : Int) (c2 : Int) (kx : wq_St → Option (Int × wq_St)) (y3 : Int) (S : wq_St) : l_X9_runs_45 c1 c2 kx 0 y3 S = none := rfl
def f_X9_runs (x1 : Int) (S : wq_St) : Option (Int × wq_St) :=
  wq_lt (wq_set S 0 39 0) fun S1 =>
  wq_lt (wq_set S1 0 40 0) fun S2 =>
  wq_lt (wq_set S2 0 41 0) fun S3 =>
  wq_ix x1 8 fun t4 =>
  if wq_w (S3 13 t4) ≤ 0 then
    l_X9_runs_45 x1 (S3 13 t4) (fun S26 =>
      some (0, S26)) wq_fu 0 S3
  else
    wq_bd (f_X9_minutesAt x1 0 S3) fun r27 S28 =>
    wq_lt (wq_set S28 0 39 r27) fun S29 =>
    wq_ix 0 3 fun t30 =>
    wq_lt (wq_set S29 31 t30 (-1)) fun S31 =>
    l_X9_runs_45 x1 (S3 13 t4) (fun S32 =>
      some (0, S32)) wq_fu 0 S31
def f_X9_planSource (x1 : Int) (x2 : Int) (S : wq_St) : Option (Int × wq_St) :=
  wq_bd (f_X9_isSource x1 x2 S) fun r1 S2 =>
  wq_bd (f_X9_asked r1 S2) fun r3 S4 =>
  if wq_w r3 = 0 then
    some (0, S4)
  else
    wq_bd (f_X9_plans x1 S4) fun r5 S6 =>
    wq_ix x2 3 fun t7 =>
    some (S6 27 t7, S6)
def f_X9_planWay (x1 : Int) (x2 : Int) (S : wq_St) : Option (Int × wq_St) :=
  wq_bd (f_X9_isSource x1 x2 S) fun r1 S2 =>
  wq_bd (f_X9_asked r1 S2) fun r3 S4 =>
  if wq_w r3 = 0 then
    some (0, S4)
  else
    wq_bd (f_X9_plans x1 S4) fun r5 S6 =>
    wq_ix x2 3 fun t7 =>
    some (S6 28 t7, S6)
def f_X9_foretold (x1 : Int) (S : wq_St) : Option (Int × wq_St) :=
  wq_bd (f_X9_isReport x1 S) fun r1 S2 =>
  wq_bd (f_X9_asked r1 S2) fun r3 S4 =>
  if wq_w r3 = 0 then
    some (0, S4)
  else
    wq_bd (f_X9_foretells x1 S4) fun r5 S6 =>
    some (r5, S6)
def f_X9_isRun (x1 : Int) (S : wq_St) : Option (Int × wq_St) :=
  wq_bd (f_X9_isReport x1 S) fun r1 S2 =>
  wq_bd (f_X9_asked r1 S2) fun r3 S4 =>
  if wq_w r3 = 0 then
    wq_gd (r3 = 0 ∨ r3 = 1) <|
    some (r3, S4)
  else
    wq_bd (f_X9_plans x1 S4) fun r5 S6 =>
    wq_bd (f_X9_runs x1 S6) fun r7 S8 =>
    wq_gd (r3 = 0 ∨ r3 = 1) <|
    some (r3, S8)
def f_X9_minutes (x1 : Int) (S : wq_St) : Option (Int × wq_St) :=
  wq_bd (f_X9_isRun x1 S) fun r1 S2 =>
  if wq_w r1 = 0 then
    some (0, S2)
  else
    some (S2 0 39, S2)
def f_X9_answer (x1 : Int) (S : wq_St) : Option (Int × wq_St) :=
  wq_bd (f_X9_isRun x1 S) fun r1 S2 =>
  if wq_w r1 = 0 then
    some (0, S2)
  else
    some (S2 0 40, S2)
def f_X9_sum (x1 : Int) (S : wq_St) : Option (Int × wq_St) :=
  wq_bd (f_X9_isRun x1 S) fun r1 S2 =>
  if wq_w r1 = 0 then
    some (0, S2)
  else
    some (S2 0 41, S2)
def f_X9_plainAnswer (x1 : Int) (S : wq_St) : Option (Int × wq_St) :=
  wq_bd (f_X9_answer x1 S) fun r1 S2 =>
  some (r1, S2)
def f_X9_plainSum (x1 : Int) (S : wq_St) : Option (Int × wq_St) :=
  wq_bd (f_X9_sum x1 S) fun r1 S2 =>
  some (r1, S2)
def b_X9_marks_2 (c1 : Int) (kx : wq_St → Option (Int × wq_St)) (rec : Int → wq_St → Option (Int × wq_St)) (y2 : Int) (S : wq_St) : Option (Int × wq_St) :=
  wq_ix c1 8 fun t1 =>
  if wq_w (S 13 t1) ≤ wq_w y2 then
    kx S
  else
    wq_ix ((3 * c1) + y2) 24 fun t2 =>
    wq_ix (S 14 t2) 4 fun t3 =>
    wq_lt (wq_set S 10 t3 1) fun S4 =>
    rec (y2 + 1) S4
def l_X9_marks_2 (c1 : Int) (kx : wq_St → Option (Int × wq_St)) (n : Nat) (y2 : Int) (S : wq_St) : Option (Int × wq_St) :=
  wq_loop (fun (g : Int × wq_St → Option (Int × wq_St)) (x : Int × wq_St) => b_X9_marks_2 c1 kx (fun y2 S => g (y2, S)) x.1 x.2) n (y2, S)
theorem l_X9_marks_2_s (c1 : Int) (kx : wq_St → Option (Int × wq_St)) (n : Nat) (y2 : Int) (S : wq_St) : l_X9_marks_2 c1 kx (n + 1) y2 S = b_X9_marks_2 c1 kx (l_X9_marks_2 c1 kx n) y2 S := rfl
theorem l_X9_marks_2_0 (c1 : Int) (kx : wq_St → Option (Int × wq_St)) (y2 : Int) (S : wq_St) : l_X9_marks_2 c1 kx 0 y2 S = none := rfl
def f_X9_marks (x1 : Int) (S : wq_St) : Option (Int × wq_St) :=
  l_X9_marks_2 x1 (fun S5 =>
    some (0, S5)) wq_fu 0 S
def j_X9_dueBehind_57 (kx : Int → wq_St → Option (Int × wq_St)) (rec : Int → Int → wq_St → Option (Int × wq_St)) (j1 : Int) (j2 : Int) (j3 : Int) (z0 : Int) (S : wq_St) : Option (Int × wq_St) :=
  wq_ix j3 8 fun t1 =>
  if wq_w (S 12 t1) = 0 then
    rec j2 (j3 + 1) S
  else
    if wq_w z0 = 0 then
      rec j2 (j3 + 1) S
    else
      if wq_w j2 = wq_w (-1) then
        rec j3 (j3 + 1) S
      else
        wq_ix j3 8 fun t2 =>
        wq_ix j2 8 fun t3 =>
        if wq_w (S 11 t2) ≤ wq_w (S 11 t3) then
          rec j2 (j3 + 1) S
        else
          rec j3 (j3 + 1) S
def j_X9_dueBehind_52 (kx : Int → wq_St → Option (Int × wq_St)) (rec : Int → Int → wq_St → Option (Int × wq_St)) (j1 : Int) (j2 : Int) (j3 : Int) (S : wq_St) : Option (Int × wq_St) :=
  j_X9_dueBehind_57 kx rec j1 j2 j3 1 S
def j_X9_dueBehind_56 (kx : Int → wq_St → Option (Int × wq_St)) (rec : Int → Int → wq_St → Option (Int × wq_St)) (j1 : Int) (j2 : Int) (j3 : Int) (S : wq_St) : Option (Int × wq_St) :=
  j_X9_dueBehind_57 kx rec j1 j2 j3 0 S
def b_X9_dueBehind_4 (c1 : Int) (kx : Int → wq_St → Option (Int × wq_St)) (rec : Int → Int → wq_St → Option (Int × wq_St)) (y2 : Int) (y3 : Int) (S : wq_St) : Option (Int × wq_St) :=
  if wq_w (S 0 28) ≤ wq_w y3 then
    kx y2 S
  else
    if wq_w c1 = wq_w (-1) then
      j_X9_dueBehind_52 kx rec c1 y2 y3 S
    else
      wq_ix y3 8 fun t4 =>
      wq_ix c1 8 fun t5 =>
      if wq_w (S 11 t4) < wq_w (S 11 t5) then
        j_X9_dueBehind_52 kx rec c1 y2 y3 S
      else
        wq_ix y3 8 fun t6 =>
        wq_ix c1 8 fun t7 =>
        if wq_w (S 11 t6) = wq_w (S 11 t7) then
          if wq_w y3 ≤ wq_w c1 then
            j_X9_dueBehind_56 kx rec c1 y2 y3 S
          else
            j_X9_dueBehind_52 kx rec c1 y2 y3 S
        else
          j_X9_dueBehind_56 kx rec c1 y2 y3 S
def l_X9_dueBehind_4 (c1 : Int) (kx : Int → wq_St → Option (Int × wq_St)) (n : Nat) (y2 : Int) (y3 : Int) (S : wq_St) : Option (Int × wq_St) :=
  wq_loop (fun (g : Int × Int × wq_St → Option (Int × wq_St)) (x : Int × Int × wq_St) => b_X9_dueBehind_4 c1 kx (fun y2 y3 S => g (y2, y3, S)) x.1 x.2.1 x.2.2) n (y2, y3, S)
theorem l_X9_dueBehind_4_s (c1 : Int) (kx : Int → wq_St → Option (Int × wq_St)) (n : Nat) (y2 : Int) (y3 : Int) (S : wq_St) : l_X9_dueBehind_4 c1 kx (n + 1) y2 y3 S = b_X9_dueBehind_4 c1 kx (l_X9_dueBehind_4 c1 kx n) y2 y3 S := rfl
theorem l_X9_dueBehind_4_0 (c1 : Int) (kx : Int → wq_St → Option (Int × wq_St)) (y2 : Int) (y3 : Int) (S : wq_St) : l_X9_dueBehind_4 c1 kx 0 y2 y3 S = none := rfl
def f_X9_dueBehind (x1 : Int) (S : wq_St) : Option (Int × wq_St) :=
  l_X9_dueBehind_4 x1 (fun u8 S9 =>
    some (u8, S9)) wq_fu (-1) 0 S
def b_X9_dusk_4 (kx : Int → wq_St → Option (Int × wq_St)) (rec : Int → Int → wq_St → Option (Int × wq_St)) (y1 : Int) (y2 : Int) (S : wq_St) : Option (Int × wq_St) :=
  if wq_w (S 0 5) ≤ wq_w y2 then
    kx y1 S
  else
    wq_ix y2 4 fun t1 =>
    if wq_w (S 10 t1) = 0 then
      rec (y1 + 0) (y2 + 1) S
    else
      wq_bd (f_X9_sample y2 (S 0 11) S) fun r2 S3 =>
      rec (y1 + r2) (y2 + 1) S3
def l_X9_dusk_4 (kx : Int → wq_St → Option (Int × wq_St)) (n : Nat) (y1 : Int) (y2 : Int) (S : wq_St) : Option (Int × wq_St) :=
  wq_loop (fun (g : Int × Int × wq_St → Option (Int × wq_St)) (x : Int × Int × wq_St) => b_X9_dusk_4 kx (fun y1 y2 S => g (y1, y2, S)) x.1 x.2.1 x.2.2) n (y1, y2, S)
theorem l_X9_dusk_4_s (kx : Int → wq_St → Option (Int × wq_St)) (n : Nat) (y1 : Int) (y2 : Int) (S : wq_St) : l_X9_dusk_4 kx (n + 1) y1 y2 S = b_X9_dusk_4 kx (l_X9_dusk_4 kx n) y1 y2 S := rfl
theorem l_X9_dusk_4_0 (kx : Int → wq_St → Option (Int × wq_St)) (y1 : Int) (y2 : Int) (S : wq_St) : l_X9_dusk_4 kx 0 y1 y2 S = none := rfl
def b_X9_dusk_45 (kx : Int → wq_St → Option (Int × wq_St)) (rec : Int → Int → wq_St → Option (Int × wq_St)) (y1 : Int) (y2 : Int) (S : wq_St) : Option (Int × wq_St) :=
  if wq_w (S 0 28) ≤ wq_w y2 then
    kx y1 S
  else
    wq_ix y2 8 fun t6 =>
    if wq_w (S 12 t6) = 0 then
      rec (y1 + 0) (y2 + 1) S
    else
      wq_bd (f_X9_foretells y2 S) fun r7 S8 =>
      rec (y1 + r7) (y2 + 1) S8
def l_X9_dusk_45 (kx : Int → wq_St → Option (Int × wq_St)) (n : Nat) (y1 : Int) (y2 : Int) (S : wq_St) : Option (Int × wq_St) :=
  wq_loop (fun (g : Int × Int × wq_St → Option (Int × wq_St)) (x : Int × Int × wq_St) => b_X9_dusk_45 kx (fun y1 y2 S => g (y1, y2, S)) x.1 x.2.1 x.2.2) n (y1, y2, S)
theorem l_X9_dusk_45_s (kx : Int → wq_St → Option (Int × wq_St)) (n : Nat) (y1 : Int) (y2 : Int) (S : wq_St) : l_X9_dusk_45 kx (n + 1) y1 y2 S = b_X9_dusk_45 kx (l_X9_dusk_45 kx n) y1 y2 S := rfl
theorem l_X9_dusk_45_0 (kx : Int → wq_St → Option (Int × wq_St)) (y1 : Int) (y2 : Int) (S : wq_St) : l_X9_dusk_45 kx 0 y1 y2 S = none := rfl
def f_X9_dusk (S : wq_St) : Option (Int × wq_St) :=
  l_X9_dusk_4 (fun u4 S5 =>
    l_X9_dusk_45 (fun u9 S10 =>
      some (u9, S10)) wq_fu u4 0 S5) wq_fu 0 0 S
def b_X9_night_57 (kx : wq_St → Option (Int × wq_St)) (rec : Int → wq_St → Option (Int × wq_St)) (y2 : Int) (S : wq_St) : Option (Int × wq_St) :=
  if wq_w (S 0 5) ≤ wq_w y2 then
    kx S
  else
    wq_ix y2 4 fun t9 =>
    if wq_w (S 10 t9) = 0 then
      rec (y2 + 1) S
    else
      wq_bd (f_X9_sample y2 (S 0 11) S) fun r10 S11 =>
      if wq_w (S11 0 31) < wq_w r10 then
        rec (y2 + 1) S11
      else
        wq_bd (f_X9_renews y2 (S11 0 11) S11) fun r12 S13 =>
        wq_bd (f_X9_sample y2 (S13 0 11) S13) fun r14 S15 =>
        wq_lt (wq_set S15 0 31 ((S13 0 31) - r14)) fun S16 =>
        wq_ix y2 4 fun t17 =>
        wq_lt (wq_set S16 10 t17 0) fun S18 =>
        rec (y2 + 1) S18
def l_X9_night_57 (kx : wq_St → Option (Int × wq_St)) (n : Nat) (y2 : Int) (S : wq_St) : Option (Int × wq_St) :=
  wq_loop (fun (g : Int × wq_St → Option (Int × wq_St)) (x : Int × wq_St) => b_X9_night_57 kx (fun y2 S => g (y2, S)) x.1 x.2) n (y2, S)
theorem l_X9_night_57_s (kx : wq_St → Option (Int × wq_St)) (n : Nat) (y2 : Int) (S : wq_St) : l_X9_night_57 kx (n + 1) y2 S = b_X9_night_57 kx (l_X9_night_57 kx n) y2 S := rfl
theorem l_X9_night_57_0 (kx : wq_St → Option (Int × wq_St)) (y2 : Int) (S : wq_St) : l_X9_night_57 kx 0 y2 S = none := rfl
def j_X9_night_261 (kx : Int → Int → wq_St → Option (Int × wq_St)) (rec : Int → Int → Int → Int → wq_St → Option (Int × wq_St)) (j2 : Int) (j4 : Int) (j5 : Int) (z0 : Int) (S : wq_St) : Option (Int × wq_St) :=
  wq_bd (f_X9_dueBehind j4 S) fun r33 S34 =>
  rec (wq_or j2 (wq_shl 1 j4)) (wq_or z0 (wq_shl 1 j4)) r33 j5 S34
def j_X9_night_185 (kx : Int → Int → wq_St → Option (Int × wq_St)) (rec : Int → Int → Int → Int → wq_St → Option (Int × wq_St)) (j2 : Int) (j3 : Int) (j4 : Int) (j6 : Int) (z0 : Int) (S : wq_St) : Option (Int × wq_St) :=
  if wq_w z0 = 0 then
    wq_lt (wq_set S 0 31 ((S 0 31) - (S 0 39))) fun S26 =>
    wq_ix j4 8 fun t27 =>
    wq_lt (wq_set S26 24 t27 (S26 0 40)) fun S28 =>
    wq_ix j4 8 fun t29 =>
    wq_lt (wq_set S28 25 t29 (S28 0 41)) fun S30 =>
    wq_ix j4 8 fun t31 =>
    wq_lt (wq_set S30 26 t31 (S30 0 29)) fun S32 =>
    if wq_w (2 * j6) < wq_w (S32 0 39) then
      j_X9_night_261 kx rec j2 j4 z0 j3 S32
    else
      if wq_w j6 ≤ wq_w (2 * (S32 0 39)) then
        wq_bd (f_X9_dueBehind j4 S32) fun r35 S36 =>
        rec (wq_or j2 (wq_shl 1 j4)) (wq_or j3 0) r35 z0 S36
      else
        j_X9_night_261 kx rec j2 j4 z0 j3 S32
  else
    rec j2 j3 j4 z0 S
def b_X9_night_144 (kx : Int → Int → wq_St → Option (Int × wq_St)) (rec : Int → Int → Int → Int → wq_St → Option (Int × wq_St)) (y2 : Int) (y3 : Int) (y4 : Int) (y5 : Int) (S : wq_St) : Option (Int × wq_St) :=
  if wq_w y4 = wq_w (-1) then
    kx y2 y3 S
  else
    if wq_w y5 = 0 then
      wq_bd (f_X9_foretells y4 S) fun r22 S23 =>
      wq_bd (f_X9_runs y4 S23) fun r24 S25 =>
      if wq_w (S25 0 39) ≤ wq_w (S25 0 31) then
        j_X9_night_185 kx rec y2 y3 y4 r22 0 S25
      else
        j_X9_night_185 kx rec y2 y3 y4 r22 1 S25
    else
      kx y2 y3 S
def l_X9_night_144 (kx : Int → Int → wq_St → Option (Int × wq_St)) (n : Nat) (y2 : Int) (y3 : Int) (y4 : Int) (y5 : Int) (S : wq_St) : Option (Int × wq_St) :=
  wq_loop (fun (g : Int × Int × Int × Int × wq_St → Option (Int × wq_St)) (x : Int × Int × Int × Int × wq_St) => b_X9_night_144 kx (fun y2 y3 y4 y5 S => g (y2, y3, y4, y5, S)) x.1 x.2.1 x.2.2.1 x.2.2.2.1 x.2.2.2.2) n (y2, y3, y4, y5, S)
theorem l_X9_night_144_s (kx : Int → Int → wq_St → Option (Int × wq_St)) (n : Nat) (y2 : Int) (y3 : Int) (y4 : Int) (y5 : Int) (S : wq_St) : l_X9_night_144 kx (n + 1) y2 y3 y4 y5 S = b_X9_night_144 kx (l_X9_night_144 kx n) y2 y3 y4 y5 S := rfl
theorem l_X9_night_144_0 (kx : Int → Int → wq_St → Option (Int × wq_St)) (y2 : Int) (y3 : Int) (y4 : Int) (y5 : Int) (S : wq_St) : l_X9_night_144 kx 0 y2 y3 y4 y5 S = none := rfl
def j_X9_night_402 (kx : Int → wq_St → Option (Int × wq_St)) (rec : Int → Int → wq_St → Option (Int × wq_St)) (j2 : Int) (j3 : Int) (j6 : Int) (j7 : Int) (j8 : Int) (S : wq_St) : Option (Int × wq_St) :=
  wq_ix j7 8 fun t43 =>
  if wq_w (S 12 t43) = 0 then
    wq_ix j7 8 fun t44 =>
    wq_lt (wq_set S 12 t44 0) fun S45 =>
    rec j6 (j7 + 1) S45
  else
    if wq_w j8 = 0 then
      wq_ix j7 8 fun t48 =>
      wq_lt (wq_set S 12 t48 1) fun S49 =>
      rec j6 (j7 + 1) S49
    else
      wq_ix j7 8 fun t46 =>
      wq_lt (wq_set S 12 t46 0) fun S47 =>
      rec j6 (j7 + 1) S47
def j_X9_night_396 (kx : Int → wq_St → Option (Int × wq_St)) (rec : Int → Int → wq_St → Option (Int × wq_St)) (j2 : Int) (j3 : Int) (j6 : Int) (j7 : Int) (j8 : Int) (S : wq_St) : Option (Int × wq_St) :=
  wq_bd (f_X9_marks j7 S) fun r50 S51 =>
  j_X9_night_402 kx rec j2 j3 j6 j7 j8 S51
def j_X9_night_386 (kx : Int → wq_St → Option (Int × wq_St)) (rec : Int → Int → wq_St → Option (Int × wq_St)) (j2 : Int) (j3 : Int) (j6 : Int) (j7 : Int) (j8 : Int) (S : wq_St) : Option (Int × wq_St) :=
  if wq_w (wq_and (wq_shr j3 j7) 1) = wq_w 1 then
    j_X9_night_396 kx rec j2 j3 j6 j7 j8 S
  else
    j_X9_night_402 kx rec j2 j3 j6 j7 j8 S
def j_X9_night_367 (kx : Int → wq_St → Option (Int × wq_St)) (rec : Int → Int → wq_St → Option (Int × wq_St)) (j2 : Int) (j3 : Int) (j6 : Int) (j7 : Int) (j8 : Int) (z0 : Int) (z1 : Int) (S : wq_St) : Option (Int × wq_St) :=
  wq_lt (wq_set S 0 32 (z1 + z0)) fun S41 =>
  wq_ix j7 8 fun t42 =>
  if wq_w (S41 12 t42) = 0 then
    j_X9_night_386 kx rec j2 j3 j6 j7 j8 S41
  else
    if wq_w j8 = 0 then
      j_X9_night_396 kx rec j2 j3 j6 j7 j8 S41
    else
      j_X9_night_386 kx rec j2 j3 j6 j7 j8 S41
def j_X9_night_366 (kx : Int → wq_St → Option (Int × wq_St)) (rec : Int → Int → wq_St → Option (Int × wq_St)) (j2 : Int) (j3 : Int) (j6 : Int) (j7 : Int) (j8 : Int) (z0 : Int) (S : wq_St) : Option (Int × wq_St) :=
  j_X9_night_367 kx rec j2 j3 j6 j7 j8 0 z0 S
def j_X9_night_333 (kx : Int → wq_St → Option (Int × wq_St)) (rec : Int → Int → wq_St → Option (Int × wq_St)) (j2 : Int) (j3 : Int) (j7 : Int) (j8 : Int) (z0 : Int) (z1 : Int) (S : wq_St) : Option (Int × wq_St) :=
  wq_ix j7 8 fun t40 =>
  if wq_w (S 12 t40) = 0 then
    j_X9_night_366 kx rec j2 j3 (z1 + z0) j7 j8 (S 0 32) S
  else
    if wq_w j8 = 0 then
      wq_ix j7 8 fun t52 =>
      j_X9_night_367 kx rec j2 j3 (z1 + z0) j7 j8 (S 11 t52) (S 0 32) S
    else
      j_X9_night_366 kx rec j2 j3 (z1 + z0) j7 j8 (S 0 32) S
def j_X9_night_319 (kx : Int → wq_St → Option (Int × wq_St)) (rec : Int → Int → wq_St → Option (Int × wq_St)) (j2 : Int) (j3 : Int) (j6 : Int) (j7 : Int) (z0 : Int) (S : wq_St) : Option (Int × wq_St) :=
  if wq_w z0 = 0 then
    j_X9_night_333 kx rec j2 j3 j7 z0 0 j6 S
  else
    j_X9_night_333 kx rec j2 j3 j7 z0 1 j6 S
def b_X9_night_295 (c2 : Int) (c3 : Int) (kx : Int → wq_St → Option (Int × wq_St)) (rec : Int → Int → wq_St → Option (Int × wq_St)) (y6 : Int) (y7 : Int) (S : wq_St) : Option (Int × wq_St) :=
  if wq_w (S 0 28) ≤ wq_w y7 then
    kx y6 S
  else
    if wq_w (wq_and (wq_shr c2 y7) 1) = wq_w 1 then
      j_X9_night_319 kx rec c2 c3 y6 y7 1 S
    else
      j_X9_night_319 kx rec c2 c3 y6 y7 0 S
def l_X9_night_295 (c2 : Int) (c3 : Int) (kx : Int → wq_St → Option (Int × wq_St)) (n : Nat) (y6 : Int) (y7 : Int) (S : wq_St) : Option (Int × wq_St) :=
  wq_loop (fun (g : Int × Int × wq_St → Option (Int × wq_St)) (x : Int × Int × wq_St) => b_X9_night_295 c2 c3 kx (fun y6 y7 S => g (y6, y7, S)) x.1 x.2.1 x.2.2) n (y6, y7, S)
theorem l_X9_night_295_s (c2 : Int) (c3 : Int) (kx : Int → wq_St → Option (Int × wq_St)) (n : Nat) (y6 : Int) (y7 : Int) (S : wq_St) : l_X9_night_295 c2 c3 kx (n + 1) y6 y7 S = b_X9_night_295 c2 c3 kx (l_X9_night_295 c2 c3 kx n) y6 y7 S := rfl
theorem l_X9_night_295_0 (c2 : Int) (c3 : Int) (kx : Int → wq_St → Option (Int × wq_St)) (y6 : Int) (y7 : Int) (S : wq_St) : l_X9_night_295 c2 c3 kx 0 y6 y7 S = none := rfl
def j_X9_night_289 (j2 : Int) (j3 : Int) (S : wq_St) : Option (Int × wq_St) :=
  l_X9_night_295 j2 j3 (fun u53 S54 =>
    wq_lt (wq_set S54 0 29 ((S54 0 29) + 1)) fun S55 =>
    some (u53, S55)) wq_fu 0 0 S
def j_X9_night_24 (j1 : Int) (z0 : Int) (z1 : Int) (S : wq_St) : Option (Int × wq_St) :=
  wq_bd (f_X9_asked_ z1 z0 S) fun r3 S4 =>
  if wq_w r3 = 0 then
    some (0, S4)
  else
    wq_bd (f_X9_dusk S4) fun r5 S6 =>
    wq_lt (wq_set S6 0 31 (r5 + j1)) fun S7 =>
    wq_lt (wq_set S7 0 30 ((S7 0 30) + (S7 0 31))) fun S8 =>
    l_X9_night_57 (fun S19 =>
      wq_bd (f_X9_dueBehind (-1) S19) fun r20 S21 =>
      l_X9_night_144 (fun u37 u38 S39 =>
        j_X9_night_289 u37 u38 S39) wq_fu 0 0 r20 0 S21) wq_fu 0 S8
def f_X9_night (x1 : Int) (S : wq_St) : Option (Int × wq_St) :=
  wq_bd (f_X9_in x1 0 1000 S) fun r1 S2 =>
  if wq_w 500 ≤ wq_w (S2 0 29) then
    j_X9_night_24 x1 0 r1 S2
  else
    j_X9_night_24 x1 1 r1 S2
def f_X9_nights (S : wq_St) : Option (Int × wq_St) :=
  wq_bd (f_X9_told (S 0 29) S) fun r1 S2 =>
  some (r1, S2)
def f_X9_paid (S : wq_St) : Option (Int × wq_St) :=
  wq_bd (f_X9_told (S 0 30) S) fun r1 S2 =>
  some (r1, S2)
def f_X9_left (S : wq_St) : Option (Int × wq_St) :=
  wq_bd (f_X9_told (S 0 31) S) fun r1 S2 =>
  some (r1, S2)
def f_X9_owed (S : wq_St) : Option (Int × wq_St) :=
  wq_bd (f_X9_told (S 0 32) S) fun r1 S2 =>
  some (r1, S2)
def f_X9_kept (x1 : Int) (S : wq_St) : Option (Int × wq_St) :=
  wq_bd (f_X9_isReport x1 S) fun r1 S2 =>
  wq_bd (f_X9_asked r1 S2) fun r3 S4 =>
  if wq_w r3 = 0 then
    some (0, S4)
  else
    wq_ix x1 8 fun t5 =>
    some (S4 24 t5, S4)
def f_X9_keptSum (x1 : Int) (S : wq_St) : Option (Int × wq_St) :=
  wq_bd (f_X9_isReport x1 S) fun r1 S2 =>
  wq_bd (f_X9_asked r1 S2) fun r3 S4 =>
  if wq_w r3 = 0 then
    some (0, S4)
  else
    wq_ix x1 8 fun t5 =>
    some (S4 25 t5, S4)
def f_X9_keptIn (x1 : Int) (S : wq_St) : Option (Int × wq_St) :=
  wq_bd (f_X9_isReport x1 S) fun r1 S2 =>
  wq_bd (f_X9_asked r1 S2) fun r3 S4 =>
  if wq_w r3 = 0 then
    some (0, S4)
  else
    wq_ix x1 8 fun t5 =>
    some (S4 26 t5, S4)
