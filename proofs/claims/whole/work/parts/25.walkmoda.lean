set_option maxHeartbeats 4000000 in
set_option maxRecDepth 100000 in
theorem ct_X9_thrown {l : Launch} {D : va_G} {Ar : Nat → ClassId} {b : Nat} {S S0 : wq_St} {r0 : Int} (h : f_X9_thrown S = some (r0, S0)) : wq_Ct l yX9_thrown (.code yX9_thrown cX9_thrown 1 ((Option.some Jvm.ClassFile.FieldType.int))) 1 D Ar (wq_EM Ar b) b 32 [.ref (b + 0)] S (some (.int (wq_I r0))) S0 := by
  refine wq_start "WharfQueryModel" [some (.ref (b + 0))] (by decide +kernel) rfl (Nat.le_of_ble_eq_true rfl) rfl ?_
  intro p e s m args below meth c F
  unfold f_X9_thrown at h
  refine wq_aload_n F dX9_thrown_0 rfl rfl rfl ?_
  refine wq_g_X9_108 F dX9_thrown_1 rfl ?_
  cases h
  exact wq_iret F rfl rfl dX9_thrown_4
set_option maxHeartbeats 4000000 in
set_option maxRecDepth 100000 in
theorem ct_X9_in {l : Launch} {D : va_G} {Ar : Nat → ClassId} {b : Nat} {x0 : Int} {x1 : Int} {x2 : Int} {S S0 : wq_St} {r0 : Int} (h : f_X9_in x0 x1 x2 S = some (r0, S0)) : wq_Ct l yX9_in (.code yX9_in cX9_in 3 ((Option.some Jvm.ClassFile.FieldType.boolean))) 1 D Ar (wq_EM Ar b) b 32 [.int (wq_I x0), .int (wq_I x1), .int (wq_I x2)] S (some (.int (wq_I r0))) S0 := by
  refine wq_start "WharfQueryModel" [some (.int (wq_I x0)), some (.int (wq_I x1)), some (.int (wq_I x2))] (by decide +kernel) rfl (Nat.le_of_ble_eq_true rfl) rfl ?_
  intro p e s m args below meth c F
  unfold f_X9_in at h
  refine wq_iload_n F dX9_in_0 rfl rfl rfl ?_
  refine wq_iload_n F dX9_in_1 rfl rfl rfl ?_
  refine wq_icmp_lt (tgt := 14) F dX9_in_2 (by decide) rfl (fun hc => ?_) (fun hc => ?_)
  · replace h := wq_ift hc h
    refine wq_iconst (n := 0) F dX9_in_14 rfl ?_
    cases h
    exact wq_zret F (by decide) rfl rfl dX9_in_15
  · replace h := wq_iff hc h
    refine wq_iload_n F dX9_in_5 rfl rfl rfl ?_
    refine wq_iload_n F dX9_in_6 rfl rfl rfl ?_
    refine wq_icmp_gt (tgt := 14) F dX9_in_7 (by decide) rfl (fun hc => ?_) (fun hc => ?_)
    · replace h := wq_ift hc h
      refine wq_iconst (n := 0) F dX9_in_14 rfl ?_
      cases h
      exact wq_zret F (by decide) rfl rfl dX9_in_15
    · replace h := wq_iff hc h
      refine wq_iconst (n := 1) F dX9_in_10 rfl ?_
      refine wq_goto (tgt := 15) F dX9_in_11 (by decide) ?_
      cases h
      exact wq_zret F (by decide) rfl rfl dX9_in_15
set_option maxHeartbeats 4000000 in
set_option maxRecDepth 100000 in
theorem ct_X9_asked {l : Launch} {D : va_G} {Ar : Nat → ClassId} {b : Nat} {x1 : Int} {S S0 : wq_St} {r0 : Int} (h : f_X9_asked x1 S = some (r0, S0)) : wq_Ct l yX9_asked (.code yX9_asked cX9_asked 2 ((Option.some Jvm.ClassFile.FieldType.boolean))) 1 D Ar (wq_EM Ar b) b 32 [.ref (b + 0), .int (wq_I x1)] S (some (.int (wq_I r0))) S0 := by
  refine wq_start "WharfQueryModel" [some (.ref (b + 0)), some (.int (wq_I x1))] (by decide +kernel) rfl (Nat.le_of_ble_eq_true rfl) rfl ?_
  intro p e s m args below meth c F
  unfold f_X9_asked at h
  refine wq_aload_n F dX9_asked_0 rfl rfl rfl ?_
  refine wq_iload_n F dX9_asked_1 rfl rfl rfl ?_
  refine wq_if_eq (tgt := 9) F dX9_asked_2 (by decide) rfl (fun hc => ?_) (fun hc => ?_)
  · replace h := wq_ift hc h
    refine wq_iconst (n := 1) F dX9_asked_9 rfl ?_
    refine wq_p_X9_108 F (fun _ h9 => h9) dX9_asked_10 rfl ?_
    obtain ⟨S1, eS1, h⟩ := wq_lt_some h
    refine wq_namS eS1 ?_
    refine wq_iload_n F dX9_asked_13 rfl rfl rfl ?_
    obtain ⟨hg, h⟩ := wq_gd_some h
    cases h
    exact wq_zret F hg rfl rfl dX9_asked_14
  · replace h := wq_iff hc h
    refine wq_iconst (n := 0) F dX9_asked_5 rfl ?_
    refine wq_goto (tgt := 10) F dX9_asked_6 (by decide) ?_
    refine wq_p_X9_108 F (fun _ h9 => h9) dX9_asked_10 rfl ?_
    obtain ⟨S2, eS2, h⟩ := wq_lt_some h
    refine wq_namS eS2 ?_
    refine wq_iload_n F dX9_asked_13 rfl rfl rfl ?_
    obtain ⟨hg, h⟩ := wq_gd_some h
    cases h
    exact wq_zret F hg rfl rfl dX9_asked_14
set_option maxHeartbeats 4000000 in
set_option maxRecDepth 100000 in
theorem ct_X9_asked_ {l : Launch} {D : va_G} {Ar : Nat → ClassId} {b : Nat} {x1 : Int} {x2 : Int} {S S0 : wq_St} {r0 : Int} (h : f_X9_asked_ x1 x2 S = some (r0, S0)) : wq_Ct l yX9_asked_ (.code yX9_asked_ cX9_asked_ 3 ((Option.some Jvm.ClassFile.FieldType.boolean))) 1 D Ar (wq_EM Ar b) b 32 [.ref (b + 0), .int (wq_I x1), .int (wq_I x2)] S (some (.int (wq_I r0))) S0 := by
  refine wq_start "WharfQueryModel" [some (.ref (b + 0)), some (.int (wq_I x1)), some (.int (wq_I x2))] (by decide +kernel) rfl (Nat.le_of_ble_eq_true rfl) rfl ?_
  intro p e s m args below meth c F
  unfold f_X9_asked_ at h
  refine wq_aload_n F dX9_asked__0 rfl rfl rfl ?_
  refine wq_iload_n F dX9_asked__1 rfl rfl rfl ?_
  refine wq_if_ne (tgt := 9) F dX9_asked__2 (by decide) rfl (fun hc => ?_) (fun hc => ?_)
  · replace h := wq_iff hc h
    refine wq_iload_n F dX9_asked__9 rfl rfl rfl ?_
    refine wq_if_eq (tgt := 17) F dX9_asked__10 (by decide) rfl (fun hc => ?_) (fun hc => ?_)
    · replace h := wq_ift hc h
      refine wq_iconst (n := 2) F dX9_asked__17 rfl ?_
      refine wq_p_X9_108 F (fun _ h9 => h9) dX9_asked__18 rfl ?_
      obtain ⟨S1, eS1, h⟩ := wq_lt_some h
      refine wq_namS eS1 ?_
      refine wq_aload_n F dX9_asked__21 rfl rfl rfl ?_
      refine wq_g_X9_108 F dX9_asked__22 rfl ?_
      refine wq_if_ne (tgt := 32) F dX9_asked__25 (by decide) rfl (fun hc => ?_) (fun hc => ?_)
      · replace h := wq_iff hc h
        refine wq_iconst (n := 0) F dX9_asked__32 rfl ?_
        cases h
        exact wq_zret F (by decide) rfl rfl dX9_asked__33
      · replace h := wq_ift hc h
        refine wq_iconst (n := 1) F dX9_asked__28 rfl ?_
        refine wq_goto (tgt := 33) F dX9_asked__29 (by decide) ?_
        cases h
        exact wq_zret F (by decide) rfl rfl dX9_asked__33
    · replace h := wq_iff hc h
      refine wq_iconst (n := 0) F dX9_asked__13 rfl ?_
      refine wq_goto (tgt := 18) F dX9_asked__14 (by decide) ?_
      refine wq_p_X9_108 F (fun _ h9 => h9) dX9_asked__18 rfl ?_
      obtain ⟨S2, eS2, h⟩ := wq_lt_some h
      refine wq_namS eS2 ?_
      refine wq_aload_n F dX9_asked__21 rfl rfl rfl ?_
      refine wq_g_X9_108 F dX9_asked__22 rfl ?_
      refine wq_if_ne (tgt := 32) F dX9_asked__25 (by decide) rfl (fun hc => ?_) (fun hc => ?_)
      · replace h := wq_iff hc h
        refine wq_iconst (n := 0) F dX9_asked__32 rfl ?_
        cases h
        exact wq_zret F (by decide) rfl rfl dX9_asked__33
      · replace h := wq_ift hc h
        refine wq_iconst (n := 1) F dX9_asked__28 rfl ?_
        refine wq_goto (tgt := 33) F dX9_asked__29 (by decide) ?_
        cases h
        exact wq_zret F (by decide) rfl rfl dX9_asked__33
  · replace h := wq_ift hc h
    refine wq_iconst (n := 1) F dX9_asked__5 rfl ?_
    refine wq_goto (tgt := 18) F dX9_asked__6 (by decide) ?_
    refine wq_p_X9_108 F (fun _ h9 => h9) dX9_asked__18 rfl ?_
    obtain ⟨S3, eS3, h⟩ := wq_lt_some h
    refine wq_namS eS3 ?_
    refine wq_aload_n F dX9_asked__21 rfl rfl rfl ?_
    refine wq_g_X9_108 F dX9_asked__22 rfl ?_
    refine wq_if_ne (tgt := 32) F dX9_asked__25 (by decide) rfl (fun hc => ?_) (fun hc => ?_)
    · replace h := wq_iff hc h
      refine wq_iconst (n := 0) F dX9_asked__32 rfl ?_
      cases h
      exact wq_zret F (by decide) rfl rfl dX9_asked__33
    · replace h := wq_ift hc h
      refine wq_iconst (n := 1) F dX9_asked__28 rfl ?_
      refine wq_goto (tgt := 33) F dX9_asked__29 (by decide) ?_
      cases h
      exact wq_zret F (by decide) rfl rfl dX9_asked__33
set_option maxHeartbeats 4000000 in
set_option maxRecDepth 100000 in
theorem ct_X9_asked__ {l : Launch} {D : va_G} {Ar : Nat → ClassId} {b : Nat} {x1 : Int} {x2 : Int} {x3 : Int} {S S0 : wq_St} {r0 : Int} (h : f_X9_asked__ x1 x2 x3 S = some (r0, S0)) : wq_Ct l yX9_asked__ (.code yX9_asked__ cX9_asked__ 4 ((Option.some Jvm.ClassFile.FieldType.boolean))) 1 D Ar (wq_EM Ar b) b 32 [.ref (b + 0), .int (wq_I x1), .int (wq_I x2), .int (wq_I x3)] S (some (.int (wq_I r0))) S0 := by
  refine wq_start "WharfQueryModel" [some (.ref (b + 0)), some (.int (wq_I x1)), some (.int (wq_I x2)), some (.int (wq_I x3))] (by decide +kernel) rfl (Nat.le_of_ble_eq_true rfl) rfl ?_
  intro p e s m args below meth c F
  unfold f_X9_asked__ at h
  refine wq_aload_n F dX9_asked___0 rfl rfl rfl ?_
  refine wq_iload_n F dX9_asked___1 rfl rfl rfl ?_
  refine wq_if_ne (tgt := 9) F dX9_asked___2 (by decide) rfl (fun hc => ?_) (fun hc => ?_)
  · replace h := wq_iff hc h
    refine wq_iload_n F dX9_asked___9 rfl rfl rfl ?_
    refine wq_if_ne (tgt := 17) F dX9_asked___10 (by decide) rfl (fun hc => ?_) (fun hc => ?_)
    · replace h := wq_iff hc h
      refine wq_iload_n F dX9_asked___17 rfl rfl rfl ?_
      refine wq_if_eq (tgt := 25) F dX9_asked___18 (by decide) rfl (fun hc => ?_) (fun hc => ?_)
      · replace h := wq_ift hc h
        refine wq_iconst (n := 3) F dX9_asked___25 rfl ?_
        refine wq_p_X9_108 F (fun _ h9 => h9) dX9_asked___26 rfl ?_
        obtain ⟨S1, eS1, h⟩ := wq_lt_some h
        refine wq_namS eS1 ?_
        refine wq_aload_n F dX9_asked___29 rfl rfl rfl ?_
        refine wq_g_X9_108 F dX9_asked___30 rfl ?_
        refine wq_if_ne (tgt := 40) F dX9_asked___33 (by decide) rfl (fun hc => ?_) (fun hc => ?_)
        · replace h := wq_iff hc h
          refine wq_iconst (n := 0) F dX9_asked___40 rfl ?_
          cases h
          exact wq_zret F (by decide) rfl rfl dX9_asked___41
        · replace h := wq_ift hc h
          refine wq_iconst (n := 1) F dX9_asked___36 rfl ?_
          refine wq_goto (tgt := 41) F dX9_asked___37 (by decide) ?_
          cases h
          exact wq_zret F (by decide) rfl rfl dX9_asked___41
      · replace h := wq_iff hc h
        refine wq_iconst (n := 0) F dX9_asked___21 rfl ?_
        refine wq_goto (tgt := 26) F dX9_asked___22 (by decide) ?_
        refine wq_p_X9_108 F (fun _ h9 => h9) dX9_asked___26 rfl ?_
        obtain ⟨S2, eS2, h⟩ := wq_lt_some h
        refine wq_namS eS2 ?_
        refine wq_aload_n F dX9_asked___29 rfl rfl rfl ?_
        refine wq_g_X9_108 F dX9_asked___30 rfl ?_
        refine wq_if_ne (tgt := 40) F dX9_asked___33 (by decide) rfl (fun hc => ?_) (fun hc => ?_)
        · replace h := wq_iff hc h
          refine wq_iconst (n := 0) F dX9_asked___40 rfl ?_
          cases h
          exact wq_zret F (by decide) rfl rfl dX9_asked___41
        · replace h := wq_ift hc h
          refine wq_iconst (n := 1) F dX9_asked___36 rfl ?_
          refine wq_goto (tgt := 41) F dX9_asked___37 (by decide) ?_
          cases h
          exact wq_zret F (by decide) rfl rfl dX9_asked___41
    · replace h := wq_ift hc h
      refine wq_iconst (n := 2) F dX9_asked___13 rfl ?_
      refine wq_goto (tgt := 26) F dX9_asked___14 (by decide) ?_
      refine wq_p_X9_108 F (fun _ h9 => h9) dX9_asked___26 rfl ?_
      obtain ⟨S3, eS3, h⟩ := wq_lt_some h
      refine wq_namS eS3 ?_
      refine wq_aload_n F dX9_asked___29 rfl rfl rfl ?_
      refine wq_g_X9_108 F dX9_asked___30 rfl ?_
      refine wq_if_ne (tgt := 40) F dX9_asked___33 (by decide) rfl (fun hc => ?_) (fun hc => ?_)
      · replace h := wq_iff hc h
        refine wq_iconst (n := 0) F dX9_asked___40 rfl ?_
        cases h
        exact wq_zret F (by decide) rfl rfl dX9_asked___41
      · replace h := wq_ift hc h
        refine wq_iconst (n := 1) F dX9_asked___36 rfl ?_
        refine wq_goto (tgt := 41) F dX9_asked___37 (by decide) ?_
        cases h
        exact wq_zret F (by decide) rfl rfl dX9_asked___41
  · replace h := wq_ift hc h
    refine wq_iconst (n := 1) F dX9_asked___5 rfl ?_
    refine wq_goto (tgt := 26) F dX9_asked___6 (by decide) ?_
    refine wq_p_X9_108 F (fun _ h9 => h9) dX9_asked___26 rfl ?_
    obtain ⟨S4, eS4, h⟩ := wq_lt_some h
    refine wq_namS eS4 ?_
    refine wq_aload_n F dX9_asked___29 rfl rfl rfl ?_
    refine wq_g_X9_108 F dX9_asked___30 rfl ?_
    refine wq_if_ne (tgt := 40) F dX9_asked___33 (by decide) rfl (fun hc => ?_) (fun hc => ?_)
    · replace h := wq_iff hc h
      refine wq_iconst (n := 0) F dX9_asked___40 rfl ?_
      cases h
      exact wq_zret F (by decide) rfl rfl dX9_asked___41
    · replace h := wq_ift hc h
      refine wq_iconst (n := 1) F dX9_asked___36 rfl ?_
      refine wq_goto (tgt := 41) F dX9_asked___37 (by decide) ?_
      cases h
      exact wq_zret F (by decide) rfl rfl dX9_asked___41
set_option maxHeartbeats 4000000 in
set_option maxRecDepth 100000 in
theorem ct_X9_told {l : Launch} {D : va_G} {Ar : Nat → ClassId} {b : Nat} {x1 : Int} {S S0 : wq_St} {r0 : Int} (h : f_X9_told x1 S = some (r0, S0)) : wq_Ct l yX9_told (.code yX9_told cX9_told 2 ((Option.some Jvm.ClassFile.FieldType.int))) 1 D Ar (wq_EM Ar b) b 32 [.ref (b + 0), .int (wq_I x1)] S (some (.int (wq_I r0))) S0 := by
  refine wq_start "WharfQueryModel" [some (.ref (b + 0)), some (.int (wq_I x1))] (by decide +kernel) rfl (Nat.le_of_ble_eq_true rfl) rfl ?_
  intro p e s m args below meth c F
  unfold f_X9_told at h
  refine wq_aload_n F dX9_told_0 rfl rfl rfl ?_
  refine wq_iconst (n := 0) F dX9_told_1 rfl ?_
  refine wq_p_X9_108 F (fun _ h9 => h9) dX9_told_2 rfl ?_
  obtain ⟨S1, eS1, h⟩ := wq_lt_some h
  refine wq_namS eS1 ?_
  refine wq_iload_n F dX9_told_5 rfl rfl rfl ?_
  cases h
  exact wq_iret F rfl rfl dX9_told_6
set_option maxHeartbeats 4000000 in
set_option maxRecDepth 100000 in
theorem ct_X9_isTable {l : Launch} {D : va_G} {Ar : Nat → ClassId} {b : Nat} {x1 : Int} {S S0 : wq_St} {r0 : Int} (h : f_X9_isTable x1 S = some (r0, S0)) : wq_Ct l yX9_isTable (.code yX9_isTable cX9_isTable 2 ((Option.some Jvm.ClassFile.FieldType.boolean))) 2 D Ar (wq_EM Ar b) b 32 [.ref (b + 0), .int (wq_I x1)] S (some (.int (wq_I r0))) S0 := by
  refine wq_start "WharfQueryModel" [some (.ref (b + 0)), some (.int (wq_I x1))] (by decide +kernel) rfl (Nat.le_of_ble_eq_true rfl) rfl ?_
  intro p e s m args below meth c F
  unfold f_X9_isTable at h
  refine wq_iload_n F dX9_isTable_0 rfl rfl rfl ?_
  refine wq_iconst (n := 0) F dX9_isTable_1 rfl ?_
  refine wq_aload_n F dX9_isTable_2 rfl rfl rfl ?_
  refine wq_g_X9_111 F dX9_isTable_3 rfl ?_
  refine wq_iconst (n := 1) F dX9_isTable_6 rfl ?_
  refine wq_isub F dX9_isTable_7 rfl ?_
  obtain ⟨r1, S2, h1r1, h⟩ := wq_bd_some h
  refine wq_callS (As := [.int (wq_I x1), .int (wq_I 0), .int (wq_I ((S 0 5) - 1))]) F lk_X9_114 (ct_X9_in h1r1) ⟨Nat.le_of_ble_eq_true rfl, Nat.le_of_ble_eq_true rfl⟩ ⟨Nat.le_of_ble_eq_true rfl, Nat.le_of_ble_eq_true rfl⟩ (fun _ h9 => h9) rfl rfl (Nat.le_of_ble_eq_true rfl) dX9_isTable_8 rfl ?_
  obtain ⟨hg, h⟩ := wq_gd_some h
  cases h
  exact wq_zret F hg rfl rfl dX9_isTable_11
set_option maxHeartbeats 4000000 in
set_option maxRecDepth 100000 in
theorem ct_X9_isColumn {l : Launch} {D : va_G} {Ar : Nat → ClassId} {b : Nat} {x1 : Int} {x2 : Int} {S S0 : wq_St} {r0 : Int} (h : f_X9_isColumn x1 x2 S = some (r0, S0)) : wq_Ct l yX9_isColumn (.code yX9_isColumn cX9_isColumn 3 ((Option.some Jvm.ClassFile.FieldType.boolean))) 3 D Ar (wq_EM Ar b) b 32 [.ref (b + 0), .int (wq_I x1), .int (wq_I x2)] S (some (.int (wq_I r0))) S0 := by
  refine wq_start "WharfQueryModel" [some (.ref (b + 0)), some (.int (wq_I x1)), some (.int (wq_I x2))] (by decide +kernel) rfl (Nat.le_of_ble_eq_true rfl) rfl ?_
  intro p e s m args below meth c F
  unfold f_X9_isColumn at h
  refine wq_aload_n F dX9_isColumn_0 rfl rfl rfl ?_
  refine wq_iload_n F dX9_isColumn_1 rfl rfl rfl ?_
  obtain ⟨r1, S2, h1r1, h⟩ := wq_bd_some h
  refine wq_callV (As := [.int (wq_I x1)]) F lk_X9_118 (ct_X9_isTable h1r1) ⟨Nat.le_of_ble_eq_true rfl, Nat.le_of_ble_eq_true rfl⟩ ⟨Nat.le_of_ble_eq_true rfl, Nat.le_of_ble_eq_true rfl⟩ (Nat.le_of_ble_eq_true rfl) rfl rfl (fun _ h9 => h9) rfl rfl (Nat.le_of_ble_eq_true rfl) dX9_isColumn_2 rfl ?_
  refine wq_if_eq (tgt := 28) F dX9_isColumn_5 (by decide) rfl (fun hc => ?_) (fun hc => ?_)
  · replace h := wq_ift hc h
    refine wq_iconst (n := 0) F dX9_isColumn_28 rfl ?_
    cases h
    exact wq_zret F (by decide) rfl rfl dX9_isColumn_29
  · replace h := wq_iff hc h
    refine wq_iload_n F dX9_isColumn_8 rfl rfl rfl ?_
    refine wq_iconst (n := 0) F dX9_isColumn_9 rfl ?_
    refine wq_aload_n F dX9_isColumn_10 rfl rfl rfl ?_
    refine wq_g_X9_7 F dX9_isColumn_11 rfl ?_
    refine wq_iload_n F dX9_isColumn_14 rfl rfl rfl ?_
    obtain ⟨t3, ht3, wt3, h⟩ := wq_ix_some h
    refine wq_iald F (Nat.le_of_ble_eq_true rfl) wq_EM_columns ht3 wt3 dX9_isColumn_15 rfl ?_
    refine wq_iconst (n := 1) F dX9_isColumn_16 rfl ?_
    refine wq_isub F dX9_isColumn_17 rfl ?_
    obtain ⟨r4, S5, h1r4, h⟩ := wq_bd_some h
    refine wq_callS (As := [.int (wq_I x2), .int (wq_I 0), .int (wq_I ((S2 1 t3) - 1))]) F lk_X9_114 (ct_X9_in h1r4) ⟨Nat.le_of_ble_eq_true rfl, Nat.le_of_ble_eq_true rfl⟩ ⟨Nat.le_of_ble_eq_true rfl, Nat.le_of_ble_eq_true rfl⟩ (fun _ h9 => h9) rfl rfl (Nat.le_of_ble_eq_true rfl) dX9_isColumn_18 rfl ?_
    refine wq_if_eq (tgt := 28) F dX9_isColumn_21 (by decide) rfl (fun hc => ?_) (fun hc => ?_)
    · replace h := wq_ift hc h
      refine wq_iconst (n := 0) F dX9_isColumn_28 rfl ?_
      cases h
      exact wq_zret F (by decide) rfl rfl dX9_isColumn_29
    · replace h := wq_iff hc h
      refine wq_iconst (n := 1) F dX9_isColumn_24 rfl ?_
      refine wq_goto (tgt := 29) F dX9_isColumn_25 (by decide) ?_
      cases h
      exact wq_zret F (by decide) rfl rfl dX9_isColumn_29
set_option maxHeartbeats 4000000 in
set_option maxRecDepth 100000 in
theorem ct_X9_isRow {l : Launch} {D : va_G} {Ar : Nat → ClassId} {b : Nat} {x1 : Int} {x2 : Int} {S S0 : wq_St} {r0 : Int} (h : f_X9_isRow x1 x2 S = some (r0, S0)) : wq_Ct l yX9_isRow (.code yX9_isRow cX9_isRow 3 ((Option.some Jvm.ClassFile.FieldType.boolean))) 3 D Ar (wq_EM Ar b) b 32 [.ref (b + 0), .int (wq_I x1), .int (wq_I x2)] S (some (.int (wq_I r0))) S0 := by
  refine wq_start "WharfQueryModel" [some (.ref (b + 0)), some (.int (wq_I x1)), some (.int (wq_I x2))] (by decide +kernel) rfl (Nat.le_of_ble_eq_true rfl) rfl ?_
  intro p e s m args below meth c F
  unfold f_X9_isRow at h
  refine wq_aload_n F dX9_isRow_0 rfl rfl rfl ?_
  refine wq_iload_n F dX9_isRow_1 rfl rfl rfl ?_
  obtain ⟨r1, S2, h1r1, h⟩ := wq_bd_some h
  refine wq_callV (As := [.int (wq_I x1)]) F lk_X9_118 (ct_X9_isTable h1r1) ⟨Nat.le_of_ble_eq_true rfl, Nat.le_of_ble_eq_true rfl⟩ ⟨Nat.le_of_ble_eq_true rfl, Nat.le_of_ble_eq_true rfl⟩ (Nat.le_of_ble_eq_true rfl) rfl rfl (fun _ h9 => h9) rfl rfl (Nat.le_of_ble_eq_true rfl) dX9_isRow_2 rfl ?_
  refine wq_if_eq (tgt := 42) F dX9_isRow_5 (by decide) rfl (fun hc => ?_) (fun hc => ?_)
  · replace h := wq_ift hc h
    refine wq_iconst (n := 0) F dX9_isRow_42 rfl ?_
    cases h
    exact wq_zret F (by decide) rfl rfl dX9_isRow_43
  · replace h := wq_iff hc h
    refine wq_iload_n F dX9_isRow_8 rfl rfl rfl ?_
    refine wq_iconst (n := 0) F dX9_isRow_9 rfl ?_
    refine wq_aload_n F dX9_isRow_10 rfl rfl rfl ?_
    refine wq_g_X9_13 F dX9_isRow_11 rfl ?_
    refine wq_iload_n F dX9_isRow_14 rfl rfl rfl ?_
    obtain ⟨t3, ht3, wt3, h⟩ := wq_ix_some h
    refine wq_iald F (Nat.le_of_ble_eq_true rfl) wq_EM_inserted ht3 wt3 dX9_isRow_15 rfl ?_
    refine wq_iconst (n := 1) F dX9_isRow_16 rfl ?_
    refine wq_isub F dX9_isRow_17 rfl ?_
    obtain ⟨r4, S5, h1r4, h⟩ := wq_bd_some h
    refine wq_callS (As := [.int (wq_I x2), .int (wq_I 0), .int (wq_I ((S2 2 t3) - 1))]) F lk_X9_114 (ct_X9_in h1r4) ⟨Nat.le_of_ble_eq_true rfl, Nat.le_of_ble_eq_true rfl⟩ ⟨Nat.le_of_ble_eq_true rfl, Nat.le_of_ble_eq_true rfl⟩ (fun _ h9 => h9) rfl rfl (Nat.le_of_ble_eq_true rfl) dX9_isRow_18 rfl ?_
    refine wq_if_eq (tgt := 42) F dX9_isRow_21 (by decide) rfl (fun hc => ?_) (fun hc => ?_)
    · replace h := wq_ift hc h
      refine wq_iconst (n := 0) F dX9_isRow_42 rfl ?_
      cases h
      exact wq_zret F (by decide) rfl rfl dX9_isRow_43
    · replace h := wq_iff hc h
      refine wq_aload_n F dX9_isRow_24 rfl rfl rfl ?_
      refine wq_g_X9_16 F dX9_isRow_25 rfl ?_
      refine wq_bipush (n := 40) F dX9_isRow_28 (by decide) rfl ?_
      refine wq_iload_n F dX9_isRow_30 rfl rfl rfl ?_
      refine wq_imul F dX9_isRow_31 rfl ?_
      refine wq_iload_n F dX9_isRow_32 rfl rfl rfl ?_
      refine wq_iadd F dX9_isRow_33 rfl ?_
      obtain ⟨t6, ht6, wt6, h⟩ := wq_ix_some h
      refine wq_zald F (Nat.le_of_ble_eq_true rfl) wq_EM_there ht6 wt6 dX9_isRow_34 rfl ?_
      refine wq_if_eq (tgt := 42) F dX9_isRow_35 (by decide) rfl (fun hc => ?_) (fun hc => ?_)
      · replace h := wq_ift hc h
        refine wq_iconst (n := 0) F dX9_isRow_42 rfl ?_
        cases h
        exact wq_zret F (by decide) rfl rfl dX9_isRow_43
      · replace h := wq_iff hc h
        refine wq_iconst (n := 1) F dX9_isRow_38 rfl ?_
        refine wq_goto (tgt := 43) F dX9_isRow_39 (by decide) ?_
        cases h
        exact wq_zret F (by decide) rfl rfl dX9_isRow_43
set_option maxHeartbeats 4000000 in
set_option maxRecDepth 100000 in
theorem ct_X9_isReport {l : Launch} {D : va_G} {Ar : Nat → ClassId} {b : Nat} {x1 : Int} {S S0 : wq_St} {r0 : Int} (h : f_X9_isReport x1 S = some (r0, S0)) : wq_Ct l yX9_isReport (.code yX9_isReport cX9_isReport 2 ((Option.some Jvm.ClassFile.FieldType.boolean))) 2 D Ar (wq_EM Ar b) b 32 [.ref (b + 0), .int (wq_I x1)] S (some (.int (wq_I r0))) S0 := by
  refine wq_start "WharfQueryModel" [some (.ref (b + 0)), some (.int (wq_I x1))] (by decide +kernel) rfl (Nat.le_of_ble_eq_true rfl) rfl ?_
  intro p e s m args below meth c F
  unfold f_X9_isReport at h
  refine wq_iload_n F dX9_isReport_0 rfl rfl rfl ?_
  refine wq_iconst (n := 0) F dX9_isReport_1 rfl ?_
  refine wq_aload_n F dX9_isReport_2 rfl rfl rfl ?_
  refine wq_g_X9_122 F dX9_isReport_3 rfl ?_
  refine wq_iconst (n := 1) F dX9_isReport_6 rfl ?_
  refine wq_isub F dX9_isReport_7 rfl ?_
  obtain ⟨r1, S2, h1r1, h⟩ := wq_bd_some h
  refine wq_callS (As := [.int (wq_I x1), .int (wq_I 0), .int (wq_I ((S 0 28) - 1))]) F lk_X9_114 (ct_X9_in h1r1) ⟨Nat.le_of_ble_eq_true rfl, Nat.le_of_ble_eq_true rfl⟩ ⟨Nat.le_of_ble_eq_true rfl, Nat.le_of_ble_eq_true rfl⟩ (fun _ h9 => h9) rfl rfl (Nat.le_of_ble_eq_true rfl) dX9_isReport_8 rfl ?_
  obtain ⟨hg, h⟩ := wq_gd_some h
  cases h
  exact wq_zret F hg rfl rfl dX9_isReport_11
set_option maxHeartbeats 4000000 in
set_option maxRecDepth 100000 in
theorem ct_X9_isSource {l : Launch} {D : va_G} {Ar : Nat → ClassId} {b : Nat} {x1 : Int} {x2 : Int} {S S0 : wq_St} {r0 : Int} (h : f_X9_isSource x1 x2 S = some (r0, S0)) : wq_Ct l yX9_isSource (.code yX9_isSource cX9_isSource 3 ((Option.some Jvm.ClassFile.FieldType.boolean))) 3 D Ar (wq_EM Ar b) b 32 [.ref (b + 0), .int (wq_I x1), .int (wq_I x2)] S (some (.int (wq_I r0))) S0 := by
  refine wq_start "WharfQueryModel" [some (.ref (b + 0)), some (.int (wq_I x1)), some (.int (wq_I x2))] (by decide +kernel) rfl (Nat.le_of_ble_eq_true rfl) rfl ?_
  intro p e s m args below meth c F
  unfold f_X9_isSource at h
  refine wq_aload_n F dX9_isSource_0 rfl rfl rfl ?_
  refine wq_iload_n F dX9_isSource_1 rfl rfl rfl ?_
  obtain ⟨r1, S2, h1r1, h⟩ := wq_bd_some h
  refine wq_callV (As := [.int (wq_I x1)]) F lk_X9_125 (ct_X9_isReport h1r1) ⟨Nat.le_of_ble_eq_true rfl, Nat.le_of_ble_eq_true rfl⟩ ⟨Nat.le_of_ble_eq_true rfl, Nat.le_of_ble_eq_true rfl⟩ (Nat.le_of_ble_eq_true rfl) rfl rfl (fun _ h9 => h9) rfl rfl (Nat.le_of_ble_eq_true rfl) dX9_isSource_2 rfl ?_
  refine wq_if_eq (tgt := 28) F dX9_isSource_5 (by decide) rfl (fun hc => ?_) (fun hc => ?_)
  · replace h := wq_ift hc h
    refine wq_iconst (n := 0) F dX9_isSource_28 rfl ?_
    cases h
    exact wq_zret F (by decide) rfl rfl dX9_isSource_29
  · replace h := wq_iff hc h
    refine wq_iload_n F dX9_isSource_8 rfl rfl rfl ?_
    refine wq_iconst (n := 0) F dX9_isSource_9 rfl ?_
    refine wq_aload_n F dX9_isSource_10 rfl rfl rfl ?_
    refine wq_g_X9_51 F dX9_isSource_11 rfl ?_
    refine wq_iload_n F dX9_isSource_14 rfl rfl rfl ?_
    obtain ⟨t3, ht3, wt3, h⟩ := wq_ix_some h
    refine wq_iald F (Nat.le_of_ble_eq_true rfl) wq_EM_sources ht3 wt3 dX9_isSource_15 rfl ?_
    refine wq_iconst (n := 1) F dX9_isSource_16 rfl ?_
    refine wq_isub F dX9_isSource_17 rfl ?_
    obtain ⟨r4, S5, h1r4, h⟩ := wq_bd_some h
    refine wq_callS (As := [.int (wq_I x2), .int (wq_I 0), .int (wq_I ((S2 13 t3) - 1))]) F lk_X9_114 (ct_X9_in h1r4) ⟨Nat.le_of_ble_eq_true rfl, Nat.le_of_ble_eq_true rfl⟩ ⟨Nat.le_of_ble_eq_true rfl, Nat.le_of_ble_eq_true rfl⟩ (fun _ h9 => h9) rfl rfl (Nat.le_of_ble_eq_true rfl) dX9_isSource_18 rfl ?_
    refine wq_if_eq (tgt := 28) F dX9_isSource_21 (by decide) rfl (fun hc => ?_) (fun hc => ?_)
    · replace h := wq_ift hc h
      refine wq_iconst (n := 0) F dX9_isSource_28 rfl ?_
      cases h
      exact wq_zret F (by decide) rfl rfl dX9_isSource_29
    · replace h := wq_iff hc h
      refine wq_iconst (n := 1) F dX9_isSource_24 rfl ?_
      refine wq_goto (tgt := 29) F dX9_isSource_25 (by decide) ?_
      cases h
      exact wq_zret F (by decide) rfl rfl dX9_isSource_29
set_option maxHeartbeats 4000000 in
set_option maxRecDepth 100000 in
theorem ct_X9_isColumnOf {l : Launch} {D : va_G} {Ar : Nat → ClassId} {b : Nat} {x1 : Int} {x2 : Int} {x3 : Int} {S S0 : wq_St} {r0 : Int} (h : f_X9_isColumnOf x1 x2 x3 S = some (r0, S0)) : wq_Ct l yX9_isColumnOf (.code yX9_isColumnOf cX9_isColumnOf 4 ((Option.some Jvm.ClassFile.FieldType.boolean))) 4 D Ar (wq_EM Ar b) b 32 [.ref (b + 0), .int (wq_I x1), .int (wq_I x2), .int (wq_I x3)] S (some (.int (wq_I r0))) S0 := by
  refine wq_start "WharfQueryModel" [some (.ref (b + 0)), some (.int (wq_I x1)), some (.int (wq_I x2)), some (.int (wq_I x3))] (by decide +kernel) rfl (Nat.le_of_ble_eq_true rfl) rfl ?_
  intro p e s m args below meth c F
  unfold f_X9_isColumnOf at h
  refine wq_aload_n F dX9_isColumnOf_0 rfl rfl rfl ?_
  refine wq_iload_n F dX9_isColumnOf_1 rfl rfl rfl ?_
  refine wq_iload_n F dX9_isColumnOf_2 rfl rfl rfl ?_
  obtain ⟨r1, S2, h1r1, h⟩ := wq_bd_some h
  refine wq_callV (As := [.int (wq_I x1), .int (wq_I x2)]) F lk_X9_128 (ct_X9_isSource h1r1) ⟨Nat.le_of_ble_eq_true rfl, Nat.le_of_ble_eq_true rfl⟩ ⟨Nat.le_of_ble_eq_true rfl, Nat.le_of_ble_eq_true rfl⟩ (Nat.le_of_ble_eq_true rfl) rfl rfl (fun _ h9 => h9) rfl rfl (Nat.le_of_ble_eq_true rfl) dX9_isColumnOf_3 rfl ?_
  refine wq_if_eq (tgt := 31) F dX9_isColumnOf_6 (by decide) rfl (fun hc => ?_) (fun hc => ?_)
  · replace h := wq_ift hc h
    refine wq_iconst (n := 0) F dX9_isColumnOf_31 rfl ?_
    cases h
    exact wq_zret F (by decide) rfl rfl dX9_isColumnOf_32
  · replace h := wq_iff hc h
    refine wq_aload_n F dX9_isColumnOf_9 rfl rfl rfl ?_
    refine wq_aload_n F dX9_isColumnOf_10 rfl rfl rfl ?_
    refine wq_g_X9_54 F dX9_isColumnOf_11 rfl ?_
    refine wq_iconst (n := 3) F dX9_isColumnOf_14 rfl ?_
    refine wq_iload_n F dX9_isColumnOf_15 rfl rfl rfl ?_
    refine wq_imul F dX9_isColumnOf_16 rfl ?_
    refine wq_iload_n F dX9_isColumnOf_17 rfl rfl rfl ?_
    refine wq_iadd F dX9_isColumnOf_18 rfl ?_
    obtain ⟨t3, ht3, wt3, h⟩ := wq_ix_some h
    refine wq_iald F (Nat.le_of_ble_eq_true rfl) wq_EM_tableOf ht3 wt3 dX9_isColumnOf_19 rfl ?_
    refine wq_iload_n F dX9_isColumnOf_20 rfl rfl rfl ?_
    obtain ⟨r4, S5, h1r4, h⟩ := wq_bd_some h
    refine wq_callV (As := [.int (wq_I (S2 14 t3)), .int (wq_I x3)]) F lk_X9_132 (ct_X9_isColumn h1r4) ⟨Nat.le_of_ble_eq_true rfl, Nat.le_of_ble_eq_true rfl⟩ ⟨Nat.le_of_ble_eq_true rfl, Nat.le_of_ble_eq_true rfl⟩ (Nat.le_of_ble_eq_true rfl) rfl rfl (fun _ h9 => h9) rfl rfl (Nat.le_of_ble_eq_true rfl) dX9_isColumnOf_21 rfl ?_
    refine wq_if_eq (tgt := 31) F dX9_isColumnOf_24 (by decide) rfl (fun hc => ?_) (fun hc => ?_)
    · replace h := wq_ift hc h
      refine wq_iconst (n := 0) F dX9_isColumnOf_31 rfl ?_
      cases h
      exact wq_zret F (by decide) rfl rfl dX9_isColumnOf_32
    · replace h := wq_iff hc h
      refine wq_iconst (n := 1) F dX9_isColumnOf_27 rfl ?_
      refine wq_goto (tgt := 32) F dX9_isColumnOf_28 (by decide) ?_
      cases h
      exact wq_zret F (by decide) rfl rfl dX9_isColumnOf_32
set_option maxHeartbeats 4000000 in
set_option maxRecDepth 100000 in
theorem tj_X9_addTable_20 {p : Program} {l : Launch} {e : Env} {s : State} {m : MethodId} {args : Array Value} {below : List Frame} {meth : Method} {c : Code} {D : va_G} {Ar : Nat → ClassId} {b : Nat} (F : wq_Fr p s m args meth c cX9_addTable 2 ((Option.some Jvm.ClassFile.FieldType.int)) "WharfQueryModel" D Ar) {r0 : Int} {S0 : wq_St} {j1 : Int} (z0 : Int) (z1 : Int) (S : wq_St) (h : j_X9_addTable_20 j1 z0 z1 S = some (r0, S0)) : wq_Z p l e (wq_rm 2 0 0) s m args below meth c D (wq_EM Ar b) b 32 2 (wq_Ab b 32) (MQ below (wq_Qc D (wq_EM Ar b) b 32 (some (.int (wq_I r0))) S0) args s 0 0 (wq_Ab b 32)) 0 0 20 [some (.ref (b + 0)), some (.int (wq_I j1))] [.int (wq_I z0), .int (wq_I z1), .ref (b + 0)] S := by
  unfold j_X9_addTable_20 at h
  obtain ⟨r3, S4, h1r3, h⟩ := wq_bd_some h
  refine wq_callV (As := [.int (wq_I z1), .int (wq_I z0)]) F lk_X9_135 (ct_X9_asked_ h1r3) ⟨Nat.le_of_ble_eq_true rfl, Nat.le_of_ble_eq_true rfl⟩ ⟨Nat.le_of_ble_eq_true rfl, Nat.le_of_ble_eq_true rfl⟩ (Nat.le_of_ble_eq_true rfl) rfl rfl (fun _ h9 => h9) rfl rfl (Nat.le_of_ble_eq_true rfl) dX9_addTable_20 rfl ?_
  refine wq_if_ne (tgt := 28) F dX9_addTable_23 (by decide) rfl (fun hc => ?_) (fun hc => ?_)
  · replace h := wq_iff hc h
    refine wq_aload_n F dX9_addTable_28 rfl rfl rfl ?_
    refine wq_g_X9_7 F dX9_addTable_29 rfl ?_
    refine wq_aload_n F dX9_addTable_32 rfl rfl rfl ?_
    refine wq_g_X9_111 F dX9_addTable_33 rfl ?_
    refine wq_iload_n F dX9_addTable_36 rfl rfl rfl ?_
    obtain ⟨t5, ht5, wt5, h⟩ := wq_ix_some h
    refine wq_iast F (Nat.le_of_ble_eq_true rfl) wq_EM_columns wq_EM_columns ht5 wt5 ⟨Nat.le_add_right _ _, Nat.add_lt_add_left (Nat.le_of_ble_eq_true rfl) b⟩ dX9_addTable_37 rfl ?_
    obtain ⟨S6, eS6, h⟩ := wq_lt_some h
    refine wq_namS eS6 ?_
    refine wq_aload_n F dX9_addTable_38 rfl rfl rfl ?_
    refine wq_dup1 F rfl dX9_addTable_39 rfl ?_
    refine wq_g_X9_111 F dX9_addTable_40 rfl ?_
    refine wq_iconst (n := 1) F dX9_addTable_43 rfl ?_
    refine wq_iadd F dX9_addTable_44 rfl ?_
    refine wq_p_X9_111 F (fun _ h9 => h9) dX9_addTable_45 rfl ?_
    obtain ⟨S7, eS7, h⟩ := wq_lt_some h
    refine wq_namS eS7 ?_
    refine wq_aload_n F dX9_addTable_48 rfl rfl rfl ?_
    refine wq_g_X9_111 F dX9_addTable_49 rfl ?_
    refine wq_iconst (n := 1) F dX9_addTable_52 rfl ?_
    refine wq_isub F dX9_addTable_53 rfl ?_
    cases h
    exact wq_iret F rfl rfl dX9_addTable_54
  · replace h := wq_ift hc h
    refine wq_iconst (n := 0) F dX9_addTable_26 rfl ?_
    cases h
    exact wq_iret F rfl rfl dX9_addTable_27
set_option maxHeartbeats 4000000 in
set_option maxRecDepth 100000 in
theorem ct_X9_addTable {l : Launch} {D : va_G} {Ar : Nat → ClassId} {b : Nat} {x1 : Int} {S S0 : wq_St} {r0 : Int} (h : f_X9_addTable x1 S = some (r0, S0)) : wq_Ct l yX9_addTable (.code yX9_addTable cX9_addTable 2 ((Option.some Jvm.ClassFile.FieldType.int))) 2 D Ar (wq_EM Ar b) b 32 [.ref (b + 0), .int (wq_I x1)] S (some (.int (wq_I r0))) S0 := by
  refine wq_start "WharfQueryModel" [some (.ref (b + 0)), some (.int (wq_I x1))] (by decide +kernel) rfl (Nat.le_of_ble_eq_true rfl) rfl ?_
  intro p e s m args below meth c F
  unfold f_X9_addTable at h
  refine wq_aload_n F dX9_addTable_0 rfl rfl rfl ?_
  refine wq_iload_n F dX9_addTable_1 rfl rfl rfl ?_
  refine wq_iconst (n := 1) F dX9_addTable_2 rfl ?_
  refine wq_iconst (n := 3) F dX9_addTable_3 rfl ?_
  obtain ⟨r1, S2, h1r1, h⟩ := wq_bd_some h
  refine wq_callS (As := [.int (wq_I x1), .int (wq_I 1), .int (wq_I 3)]) F lk_X9_114 (ct_X9_in h1r1) ⟨Nat.le_of_ble_eq_true rfl, Nat.le_of_ble_eq_true rfl⟩ ⟨Nat.le_of_ble_eq_true rfl, Nat.le_of_ble_eq_true rfl⟩ (fun _ h9 => h9) rfl rfl (Nat.le_of_ble_eq_true rfl) dX9_addTable_4 rfl ?_
  refine wq_aload_n F dX9_addTable_7 rfl rfl rfl ?_
  refine wq_g_X9_111 F dX9_addTable_8 rfl ?_
  refine wq_iconst (n := 4) F dX9_addTable_11 rfl ?_
  refine wq_icmp_ge (tgt := 19) F dX9_addTable_12 (by decide) rfl (fun hc => ?_) (fun hc => ?_)
  · replace h := wq_ift hc h
    refine wq_iconst (n := 0) F dX9_addTable_19 rfl ?_
    exact wq_lsub [some (.ref (b + 0)), some (.int (wq_I x1))] (by simp [wq_sub]) (tj_X9_addTable_20 F 0 r1 S2 h)
  · replace h := wq_iff hc h
    refine wq_iconst (n := 1) F dX9_addTable_15 rfl ?_
    refine wq_goto (tgt := 20) F dX9_addTable_16 (by decide) ?_
    exact wq_lsub [some (.ref (b + 0)), some (.int (wq_I x1))] (by simp [wq_sub]) (tj_X9_addTable_20 F 1 r1 S2 h)
set_option maxHeartbeats 4000000 in
set_option maxRecDepth 100000 in
theorem tj_X9_insert_107 {p : Program} {l : Launch} {e : Env} {s : State} {m : MethodId} {args : Array Value} {below : List Frame} {meth : Method} {c : Code} {D : va_G} {Ar : Nat → ClassId} {b : Nat} (F : wq_Fr p s m args meth c cX9_insert 8 ((Option.some Jvm.ClassFile.FieldType.int)) "WharfQueryModel" D Ar) {r0 : Int} {S0 : wq_St} {j1 : Int} {j2 : Int} {j3 : Int} {j4 : Int} (z0 : Int) (z1 : Int) (z2 : Int) (S : wq_St) (h : j_X9_insert_107 j1 j2 j3 j4 z0 z1 z2 S = some (r0, S0)) : wq_Z p l e (wq_rm 3 0 0) s m args below meth c D (wq_EM Ar b) b 32 8 (wq_Ab b 32) (MQ below (wq_Qc D (wq_EM Ar b) b 32 (some (.int (wq_I r0))) S0) args s 0 0 (wq_Ab b 32)) 0 0 107 [some (.ref (b + 0)), some (.int (wq_I j1)), some (.int (wq_I j2)), some (.int (wq_I j3)), some (.int (wq_I j4)), none, none, none] [.int (wq_I z0), .int (wq_I z1), .int (wq_I z2), .ref (b + 0)] S := by
  unfold j_X9_insert_107 at h
  obtain ⟨r3, S4, h1r3, h⟩ := wq_bd_some h
  refine wq_callV (As := [.int (wq_I z2), .int (wq_I z1), .int (wq_I z0)]) F lk_X9_139 (ct_X9_asked__ h1r3) ⟨Nat.le_of_ble_eq_true rfl, Nat.le_of_ble_eq_true rfl⟩ ⟨Nat.le_of_ble_eq_true rfl, Nat.le_of_ble_eq_true rfl⟩ (Nat.le_of_ble_eq_true rfl) rfl rfl (fun _ h9 => h9) rfl rfl (Nat.le_of_ble_eq_true rfl) dX9_insert_107 rfl ?_
  refine wq_if_ne (tgt := 115) F dX9_insert_110 (by decide) rfl (fun hc => ?_) (fun hc => ?_)
  · replace h := wq_iff hc h
    refine wq_bipush (n := 40) F dX9_insert_115 (by decide) rfl ?_
    refine wq_iload_n F dX9_insert_117 rfl rfl rfl ?_
    refine wq_imul F dX9_insert_118 rfl ?_
    refine wq_aload_n F dX9_insert_119 rfl rfl rfl ?_
    refine wq_g_X9_13 F dX9_insert_120 rfl ?_
    refine wq_iload_n F dX9_insert_123 rfl rfl rfl ?_
    obtain ⟨t5, ht5, wt5, h⟩ := wq_ix_some h
    refine wq_iald F (Nat.le_of_ble_eq_true rfl) wq_EM_inserted ht5 wt5 dX9_insert_124 rfl ?_
    refine wq_iadd F dX9_insert_125 rfl ?_
    refine wq_istore (L' := [some (.ref (b + 0)), some (.int (wq_I j1)), some (.int (wq_I j2)), some (.int (wq_I j3)), some (.int (wq_I j4)), none, none, some (.int (wq_I ((40 * j1) + (S4 2 t5))))]) F dX9_insert_126 (by decide) rfl rfl rfl ?_
    refine wq_aload_n F dX9_insert_128 rfl rfl rfl ?_
    refine wq_g_X9_16 F dX9_insert_129 rfl ?_
    refine wq_iload F dX9_insert_132 rfl rfl ?_
    refine wq_iconst (n := 1) F dX9_insert_134 rfl ?_
    obtain ⟨t6, ht6, wt6, h⟩ := wq_ix_some h
    refine wq_zast F (by decide) (Nat.le_of_ble_eq_true rfl) wq_EM_there wq_EM_there ht6 wt6 ⟨Nat.le_add_right _ _, Nat.add_lt_add_left (Nat.le_of_ble_eq_true rfl) b⟩ dX9_insert_135 rfl ?_
    obtain ⟨S7, eS7, h⟩ := wq_lt_some h
    refine wq_namS eS7 ?_
    refine wq_aload_n F dX9_insert_136 rfl rfl rfl ?_
    refine wq_g_X9_20 F dX9_insert_137 rfl ?_
    refine wq_iconst (n := 3) F dX9_insert_140 rfl ?_
    refine wq_iload F dX9_insert_141 rfl rfl ?_
    refine wq_imul F dX9_insert_143 rfl ?_
    refine wq_iload_n F dX9_insert_144 rfl rfl rfl ?_
    obtain ⟨t8, ht8, wt8, h⟩ := wq_ix_some h
    refine wq_iast F (Nat.le_of_ble_eq_true rfl) wq_EM_value wq_EM_value ht8 wt8 ⟨Nat.le_add_right _ _, Nat.add_lt_add_left (Nat.le_of_ble_eq_true rfl) b⟩ dX9_insert_145 rfl ?_
    obtain ⟨S9, eS9, h⟩ := wq_lt_some h
    refine wq_namS eS9 ?_
    refine wq_aload_n F dX9_insert_146 rfl rfl rfl ?_
    refine wq_g_X9_20 F dX9_insert_147 rfl ?_
    refine wq_iconst (n := 3) F dX9_insert_150 rfl ?_
    refine wq_iload F dX9_insert_151 rfl rfl ?_
    refine wq_imul F dX9_insert_153 rfl ?_
    refine wq_iconst (n := 1) F dX9_insert_154 rfl ?_
    refine wq_iadd F dX9_insert_155 rfl ?_
    refine wq_iload_n F dX9_insert_156 rfl rfl rfl ?_
    obtain ⟨t10, ht10, wt10, h⟩ := wq_ix_some h
    refine wq_iast F (Nat.le_of_ble_eq_true rfl) wq_EM_value wq_EM_value ht10 wt10 ⟨Nat.le_add_right _ _, Nat.add_lt_add_left (Nat.le_of_ble_eq_true rfl) b⟩ dX9_insert_157 rfl ?_
    obtain ⟨S11, eS11, h⟩ := wq_lt_some h
    refine wq_namS eS11 ?_
    refine wq_aload_n F dX9_insert_158 rfl rfl rfl ?_
    refine wq_g_X9_20 F dX9_insert_159 rfl ?_
    refine wq_iconst (n := 3) F dX9_insert_162 rfl ?_
    refine wq_iload F dX9_insert_163 rfl rfl ?_
    refine wq_imul F dX9_insert_165 rfl ?_
    refine wq_iconst (n := 2) F dX9_insert_166 rfl ?_
    refine wq_iadd F dX9_insert_167 rfl ?_
    refine wq_iload F dX9_insert_168 rfl rfl ?_
    obtain ⟨t12, ht12, wt12, h⟩ := wq_ix_some h
    refine wq_iast F (Nat.le_of_ble_eq_true rfl) wq_EM_value wq_EM_value ht12 wt12 ⟨Nat.le_add_right _ _, Nat.add_lt_add_left (Nat.le_of_ble_eq_true rfl) b⟩ dX9_insert_170 rfl ?_
    obtain ⟨S13, eS13, h⟩ := wq_lt_some h
    refine wq_namS eS13 ?_
    refine wq_aload_n F dX9_insert_171 rfl rfl rfl ?_
    refine wq_g_X9_13 F dX9_insert_172 rfl ?_
    refine wq_iload_n F dX9_insert_175 rfl rfl rfl ?_
    refine wq_dup211 F rfl rfl dX9_insert_176 rfl ?_
    obtain ⟨t14, ht14, wt14, h⟩ := wq_ix_some h
    refine wq_iald F (Nat.le_of_ble_eq_true rfl) wq_EM_inserted ht14 wt14 dX9_insert_177 rfl ?_
    refine wq_iconst (n := 1) F dX9_insert_178 rfl ?_
    refine wq_iadd F dX9_insert_179 rfl ?_
    obtain ⟨t15, ht15, wt15, h⟩ := wq_ix_some h
    refine wq_iast F (Nat.le_of_ble_eq_true rfl) wq_EM_inserted wq_EM_inserted ht15 wt15 ⟨Nat.le_add_right _ _, Nat.add_lt_add_left (Nat.le_of_ble_eq_true rfl) b⟩ dX9_insert_180 rfl ?_
    obtain ⟨S16, eS16, h⟩ := wq_lt_some h
    refine wq_namS eS16 ?_
    refine wq_aload_n F dX9_insert_181 rfl rfl rfl ?_
    refine wq_g_X9_13 F dX9_insert_182 rfl ?_
    refine wq_iload_n F dX9_insert_185 rfl rfl rfl ?_
    obtain ⟨t17, ht17, wt17, h⟩ := wq_ix_some h
    refine wq_iald F (Nat.le_of_ble_eq_true rfl) wq_EM_inserted ht17 wt17 dX9_insert_186 rfl ?_
    refine wq_iconst (n := 1) F dX9_insert_187 rfl ?_
    refine wq_isub F dX9_insert_188 rfl ?_
    cases h
    exact wq_iret F rfl rfl dX9_insert_189
  · replace h := wq_ift hc h
    refine wq_iconst (n := 0) F dX9_insert_113 rfl ?_
    cases h
    exact wq_iret F rfl rfl dX9_insert_114
set_option maxHeartbeats 4000000 in
set_option maxRecDepth 100000 in
theorem tj_X9_insert_106 {p : Program} {l : Launch} {e : Env} {s : State} {m : MethodId} {args : Array Value} {below : List Frame} {meth : Method} {c : Code} {D : va_G} {Ar : Nat → ClassId} {b : Nat} (F : wq_Fr p s m args meth c cX9_insert 8 ((Option.some Jvm.ClassFile.FieldType.int)) "WharfQueryModel" D Ar) {r0 : Int} {S0 : wq_St} {j1 : Int} {j2 : Int} {j3 : Int} {j4 : Int} (z0 : Int) (z1 : Int) (S : wq_St) (h : j_X9_insert_106 j1 j2 j3 j4 z0 z1 S = some (r0, S0)) : wq_Z p l e (wq_rm 3 0 0) s m args below meth c D (wq_EM Ar b) b 32 8 (wq_Ab b 32) (MQ below (wq_Qc D (wq_EM Ar b) b 32 (some (.int (wq_I r0))) S0) args s 0 0 (wq_Ab b 32)) 0 0 106 [some (.ref (b + 0)), some (.int (wq_I j1)), some (.int (wq_I j2)), some (.int (wq_I j3)), some (.int (wq_I j4)), none, none, none] [.int (wq_I z0), .int (wq_I z1), .ref (b + 0)] S := by
  unfold j_X9_insert_106 at h
  refine wq_iconst (n := 0) F dX9_insert_106 rfl ?_
  exact wq_lsub [some (.ref (b + 0)), some (.int (wq_I j1)), some (.int (wq_I j2)), some (.int (wq_I j3)), some (.int (wq_I j4)), none, none, none] (by simp [wq_sub]) (tj_X9_insert_107 F 0 z0 z1 S h)
set_option maxHeartbeats 4000000 in
set_option maxRecDepth 100000 in
theorem tj_X9_insert_79 {p : Program} {l : Launch} {e : Env} {s : State} {m : MethodId} {args : Array Value} {below : List Frame} {meth : Method} {c : Code} {D : va_G} {Ar : Nat → ClassId} {b : Nat} (F : wq_Fr p s m args meth c cX9_insert 8 ((Option.some Jvm.ClassFile.FieldType.int)) "WharfQueryModel" D Ar) {r0 : Int} {S0 : wq_St} {j1 : Int} {j2 : Int} {j3 : Int} {j4 : Int} {j5 : Int} (z0 : Int) (S : wq_St) (h : j_X9_insert_79 j1 j2 j3 j4 j5 z0 S = some (r0, S0)) : wq_Z p l e (wq_rm 3 0 0) s m args below meth c D (wq_EM Ar b) b 32 8 (wq_Ab b 32) (MQ below (wq_Qc D (wq_EM Ar b) b 32 (some (.int (wq_I r0))) S0) args s 0 0 (wq_Ab b 32)) 0 0 79 [some (.ref (b + 0)), some (.int (wq_I j1)), some (.int (wq_I j2)), some (.int (wq_I j3)), some (.int (wq_I j4)), some (.int (wq_I j5)), none, none] [.int (wq_I z0)] S := by
  unfold j_X9_insert_79 at h
  refine wq_istore (L' := [some (.ref (b + 0)), some (.int (wq_I j1)), some (.int (wq_I j2)), some (.int (wq_I j3)), some (.int (wq_I j4)), some (.int (wq_I j5)), some (.int (wq_I z0)), none]) F dX9_insert_79 (by decide) rfl rfl rfl ?_
  refine wq_aload_n F dX9_insert_81 rfl rfl rfl ?_
  refine wq_iload F dX9_insert_82 rfl rfl ?_
  refine wq_iload F dX9_insert_84 rfl rfl ?_
  refine wq_iload F dX9_insert_86 rfl rfl ?_
  refine wq_if_eq (tgt := 106) F dX9_insert_88 (by decide) rfl (fun hc => ?_) (fun hc => ?_)
  · replace h := wq_ift hc h
    exact wq_lsub [some (.ref (b + 0)), some (.int (wq_I j1)), some (.int (wq_I j2)), some (.int (wq_I j3)), some (.int (wq_I j4)), none, none, none] (by simp [wq_sub]) (tj_X9_insert_106 F z0 j5 S h)
  · replace h := wq_iff hc h
    refine wq_aload_n F dX9_insert_91 rfl rfl rfl ?_
    refine wq_g_X9_13 F dX9_insert_92 rfl ?_
    refine wq_iload_n F dX9_insert_95 rfl rfl rfl ?_
    obtain ⟨t18, ht18, wt18, h⟩ := wq_ix_some h
    refine wq_iald F (Nat.le_of_ble_eq_true rfl) wq_EM_inserted ht18 wt18 dX9_insert_96 rfl ?_
    refine wq_bipush (n := 40) F dX9_insert_97 (by decide) rfl ?_
    refine wq_icmp_ge (tgt := 106) F dX9_insert_99 (by decide) rfl (fun hc => ?_) (fun hc => ?_)
    · replace h := wq_ift hc h
      exact wq_lsub [some (.ref (b + 0)), some (.int (wq_I j1)), some (.int (wq_I j2)), some (.int (wq_I j3)), some (.int (wq_I j4)), none, none, none] (by simp [wq_sub]) (tj_X9_insert_106 F z0 j5 S h)
    · replace h := wq_iff hc h
      refine wq_iconst (n := 1) F dX9_insert_102 rfl ?_
      refine wq_goto (tgt := 107) F dX9_insert_103 (by decide) ?_
      exact wq_lsub [some (.ref (b + 0)), some (.int (wq_I j1)), some (.int (wq_I j2)), some (.int (wq_I j3)), some (.int (wq_I j4)), none, none, none] (by simp [wq_sub]) (tj_X9_insert_107 F 1 z0 j5 S h)
set_option maxHeartbeats 4000000 in
set_option maxRecDepth 100000 in
theorem tj_X9_insert_78 {p : Program} {l : Launch} {e : Env} {s : State} {m : MethodId} {args : Array Value} {below : List Frame} {meth : Method} {c : Code} {D : va_G} {Ar : Nat → ClassId} {b : Nat} (F : wq_Fr p s m args meth c cX9_insert 8 ((Option.some Jvm.ClassFile.FieldType.int)) "WharfQueryModel" D Ar) {r0 : Int} {S0 : wq_St} {j1 : Int} {j2 : Int} {j3 : Int} {j4 : Int} {j5 : Int} (S : wq_St) (h : j_X9_insert_78 j1 j2 j3 j4 j5 S = some (r0, S0)) : wq_Z p l e (wq_rm 3 0 0) s m args below meth c D (wq_EM Ar b) b 32 8 (wq_Ab b 32) (MQ below (wq_Qc D (wq_EM Ar b) b 32 (some (.int (wq_I r0))) S0) args s 0 0 (wq_Ab b 32)) 0 0 78 [some (.ref (b + 0)), some (.int (wq_I j1)), some (.int (wq_I j2)), some (.int (wq_I j3)), some (.int (wq_I j4)), some (.int (wq_I j5)), none, none] [] S := by
  unfold j_X9_insert_78 at h
  refine wq_iconst (n := 0) F dX9_insert_78 rfl ?_
  exact wq_lsub [some (.ref (b + 0)), some (.int (wq_I j1)), some (.int (wq_I j2)), some (.int (wq_I j3)), some (.int (wq_I j4)), some (.int (wq_I j5)), none, none] (by simp [wq_sub]) (tj_X9_insert_79 F 0 S h)
set_option maxHeartbeats 4000000 in
set_option maxRecDepth 100000 in
theorem tj_X9_insert_68 {p : Program} {l : Launch} {e : Env} {s : State} {m : MethodId} {args : Array Value} {below : List Frame} {meth : Method} {c : Code} {D : va_G} {Ar : Nat → ClassId} {b : Nat} (F : wq_Fr p s m args meth c cX9_insert 8 ((Option.some Jvm.ClassFile.FieldType.int)) "WharfQueryModel" D Ar) {r0 : Int} {S0 : wq_St} {j1 : Int} {j2 : Int} {j3 : Int} {j4 : Int} {j5 : Int} (z0 : Int) (z1 : Int) (z2 : Int) (S : wq_St) (h : j_X9_insert_68 j1 j2 j3 j4 j5 z0 z1 z2 S = some (r0, S0)) : wq_Z p l e (wq_rm 3 0 0) s m args below meth c D (wq_EM Ar b) b 32 8 (wq_Ab b 32) (MQ below (wq_Qc D (wq_EM Ar b) b 32 (some (.int (wq_I r0))) S0) args s 0 0 (wq_Ab b 32)) 0 0 68 [some (.ref (b + 0)), some (.int (wq_I j1)), some (.int (wq_I j2)), some (.int (wq_I j3)), some (.int (wq_I j4)), some (.int (wq_I j5)), none, none] [.int (wq_I z0), .int (wq_I z1), .int (wq_I z2)] S := by
  unfold j_X9_insert_68 at h
  obtain ⟨r25, S26, h1r25, h⟩ := wq_bd_some h
  refine wq_callS (As := [.int (wq_I z2), .int (wq_I z1), .int (wq_I z0)]) F lk_X9_114 (ct_X9_in h1r25) ⟨Nat.le_of_ble_eq_true rfl, Nat.le_of_ble_eq_true rfl⟩ ⟨Nat.le_of_ble_eq_true rfl, Nat.le_of_ble_eq_true rfl⟩ (fun _ h9 => h9) rfl rfl (Nat.le_of_ble_eq_true rfl) dX9_insert_68 rfl ?_
  refine wq_if_eq (tgt := 78) F dX9_insert_71 (by decide) rfl (fun hc => ?_) (fun hc => ?_)
  · replace h := wq_ift hc h
    exact wq_lsub [some (.ref (b + 0)), some (.int (wq_I j1)), some (.int (wq_I j2)), some (.int (wq_I j3)), some (.int (wq_I j4)), some (.int (wq_I j5)), none, none] (by simp [wq_sub]) (tj_X9_insert_78 F S26 h)
  · replace h := wq_iff hc h
    refine wq_iconst (n := 1) F dX9_insert_74 rfl ?_
    refine wq_goto (tgt := 79) F dX9_insert_75 (by decide) ?_
    exact wq_lsub [some (.ref (b + 0)), some (.int (wq_I j1)), some (.int (wq_I j2)), some (.int (wq_I j3)), some (.int (wq_I j4)), some (.int (wq_I j5)), none, none] (by simp [wq_sub]) (tj_X9_insert_79 F 1 S26 h)
set_option maxHeartbeats 4000000 in
set_option maxRecDepth 100000 in
theorem tj_X9_insert_42 {p : Program} {l : Launch} {e : Env} {s : State} {m : MethodId} {args : Array Value} {below : List Frame} {meth : Method} {c : Code} {D : va_G} {Ar : Nat → ClassId} {b : Nat} (F : wq_Fr p s m args meth c cX9_insert 8 ((Option.some Jvm.ClassFile.FieldType.int)) "WharfQueryModel" D Ar) {r0 : Int} {S0 : wq_St} {j1 : Int} {j2 : Int} {j3 : Int} {j4 : Int} {j5 : Int} (z0 : Int) (z1 : Int) (z2 : Int) (S : wq_St) (h : j_X9_insert_42 j1 j2 j3 j4 j5 z0 z1 z2 S = some (r0, S0)) : wq_Z p l e (wq_rm 3 0 0) s m args below meth c D (wq_EM Ar b) b 32 8 (wq_Ab b 32) (MQ below (wq_Qc D (wq_EM Ar b) b 32 (some (.int (wq_I r0))) S0) args s 0 0 (wq_Ab b 32)) 0 0 42 [some (.ref (b + 0)), some (.int (wq_I j1)), some (.int (wq_I j2)), some (.int (wq_I j3)), some (.int (wq_I j4)), some (.int (wq_I j5)), none, none] [.int (wq_I z0), .int (wq_I z1), .int (wq_I z2)] S := by
  unfold j_X9_insert_42 at h
  obtain ⟨r22, S23, h1r22, h⟩ := wq_bd_some h
  refine wq_callS (As := [.int (wq_I z2), .int (wq_I z1), .int (wq_I z0)]) F lk_X9_114 (ct_X9_in h1r22) ⟨Nat.le_of_ble_eq_true rfl, Nat.le_of_ble_eq_true rfl⟩ ⟨Nat.le_of_ble_eq_true rfl, Nat.le_of_ble_eq_true rfl⟩ (fun _ h9 => h9) rfl rfl (Nat.le_of_ble_eq_true rfl) dX9_insert_42 rfl ?_
  refine wq_if_eq (tgt := 78) F dX9_insert_45 (by decide) rfl (fun hc => ?_) (fun hc => ?_)
  · replace h := wq_ift hc h
    exact wq_lsub [some (.ref (b + 0)), some (.int (wq_I j1)), some (.int (wq_I j2)), some (.int (wq_I j3)), some (.int (wq_I j4)), some (.int (wq_I j5)), none, none] (by simp [wq_sub]) (tj_X9_insert_78 F S23 h)
  · replace h := wq_iff hc h
    refine wq_iload F dX9_insert_48 rfl rfl ?_
    refine wq_iconst (n := 0) F dX9_insert_50 rfl ?_
    refine wq_aload_n F dX9_insert_51 rfl rfl rfl ?_
    refine wq_g_X9_7 F dX9_insert_52 rfl ?_
    refine wq_iload_n F dX9_insert_55 rfl rfl rfl ?_
    obtain ⟨t24, ht24, wt24, h⟩ := wq_ix_some h
    refine wq_iald F (Nat.le_of_ble_eq_true rfl) wq_EM_columns ht24 wt24 dX9_insert_56 rfl ?_
    refine wq_iconst (n := 2) F dX9_insert_57 rfl ?_
    refine wq_icmp_le (tgt := 67) F dX9_insert_58 (by decide) rfl (fun hc => ?_) (fun hc => ?_)
    · replace h := wq_ift hc h
      refine wq_iconst (n := 0) F dX9_insert_67 rfl ?_
      exact wq_lsub [some (.ref (b + 0)), some (.int (wq_I j1)), some (.int (wq_I j2)), some (.int (wq_I j3)), some (.int (wq_I j4)), some (.int (wq_I j5)), none, none] (by simp [wq_sub]) (tj_X9_insert_68 F 0 0 j4 S23 h)
    · replace h := wq_iff hc h
      refine wq_sipush (n := 999) F dX9_insert_61 (by decide) rfl ?_
      refine wq_goto (tgt := 68) F dX9_insert_64 (by decide) ?_
      exact wq_lsub [some (.ref (b + 0)), some (.int (wq_I j1)), some (.int (wq_I j2)), some (.int (wq_I j3)), some (.int (wq_I j4)), some (.int (wq_I j5)), none, none] (by simp [wq_sub]) (tj_X9_insert_68 F 999 0 j4 S23 h)
set_option maxHeartbeats 4000000 in
set_option maxRecDepth 100000 in
theorem ct_X9_insert {l : Launch} {D : va_G} {Ar : Nat → ClassId} {b : Nat} {x1 : Int} {x2 : Int} {x3 : Int} {x4 : Int} {S S0 : wq_St} {r0 : Int} (h : f_X9_insert x1 x2 x3 x4 S = some (r0, S0)) : wq_Ct l yX9_insert (.code yX9_insert cX9_insert 8 ((Option.some Jvm.ClassFile.FieldType.int))) 3 D Ar (wq_EM Ar b) b 32 [.ref (b + 0), .int (wq_I x1), .int (wq_I x2), .int (wq_I x3), .int (wq_I x4)] S (some (.int (wq_I r0))) S0 := by
  refine wq_start "WharfQueryModel" [some (.ref (b + 0)), some (.int (wq_I x1)), some (.int (wq_I x2)), some (.int (wq_I x3)), some (.int (wq_I x4)), none, none, none] (by decide +kernel) rfl (Nat.le_of_ble_eq_true rfl) rfl ?_
  intro p e s m args below meth c F
  unfold f_X9_insert at h
  refine wq_aload_n F dX9_insert_0 rfl rfl rfl ?_
  refine wq_iload_n F dX9_insert_1 rfl rfl rfl ?_
  obtain ⟨r1, S2, h1r1, h⟩ := wq_bd_some h
  refine wq_callV (As := [.int (wq_I x1)]) F lk_X9_118 (ct_X9_isTable h1r1) ⟨Nat.le_of_ble_eq_true rfl, Nat.le_of_ble_eq_true rfl⟩ ⟨Nat.le_of_ble_eq_true rfl, Nat.le_of_ble_eq_true rfl⟩ (Nat.le_of_ble_eq_true rfl) rfl rfl (fun _ h9 => h9) rfl rfl (Nat.le_of_ble_eq_true rfl) dX9_insert_2 rfl ?_
  refine wq_istore (L' := [some (.ref (b + 0)), some (.int (wq_I x1)), some (.int (wq_I x2)), some (.int (wq_I x3)), some (.int (wq_I x4)), some (.int (wq_I r1)), none, none]) F dX9_insert_5 (by decide) rfl rfl rfl ?_
  refine wq_iload F dX9_insert_7 rfl rfl ?_
  refine wq_if_eq (tgt := 78) F dX9_insert_9 (by decide) rfl (fun hc => ?_) (fun hc => ?_)
  · replace h := wq_ift hc h
    exact wq_lsub [some (.ref (b + 0)), some (.int (wq_I x1)), some (.int (wq_I x2)), some (.int (wq_I x3)), some (.int (wq_I x4)), some (.int (wq_I r1)), none, none] (by simp [wq_sub]) (tj_X9_insert_78 F S2 h)
  · replace h := wq_iff hc h
    refine wq_iload_n F dX9_insert_12 rfl rfl rfl ?_
    refine wq_iconst (n := 0) F dX9_insert_13 rfl ?_
    refine wq_sipush (n := 999) F dX9_insert_14 (by decide) rfl ?_
    obtain ⟨r19, S20, h1r19, h⟩ := wq_bd_some h
    refine wq_callS (As := [.int (wq_I x2), .int (wq_I 0), .int (wq_I 999)]) F lk_X9_114 (ct_X9_in h1r19) ⟨Nat.le_of_ble_eq_true rfl, Nat.le_of_ble_eq_true rfl⟩ ⟨Nat.le_of_ble_eq_true rfl, Nat.le_of_ble_eq_true rfl⟩ (fun _ h9 => h9) rfl rfl (Nat.le_of_ble_eq_true rfl) dX9_insert_17 rfl ?_
    refine wq_if_eq (tgt := 78) F dX9_insert_20 (by decide) rfl (fun hc => ?_) (fun hc => ?_)
    · replace h := wq_ift hc h
      exact wq_lsub [some (.ref (b + 0)), some (.int (wq_I x1)), some (.int (wq_I x2)), some (.int (wq_I x3)), some (.int (wq_I x4)), some (.int (wq_I r1)), none, none] (by simp [wq_sub]) (tj_X9_insert_78 F S20 h)
    · replace h := wq_iff hc h
      refine wq_iload_n F dX9_insert_23 rfl rfl rfl ?_
      refine wq_iconst (n := 0) F dX9_insert_24 rfl ?_
      refine wq_aload_n F dX9_insert_25 rfl rfl rfl ?_
      refine wq_g_X9_7 F dX9_insert_26 rfl ?_
      refine wq_iload_n F dX9_insert_29 rfl rfl rfl ?_
      obtain ⟨t21, ht21, wt21, h⟩ := wq_ix_some h
      refine wq_iald F (Nat.le_of_ble_eq_true rfl) wq_EM_columns ht21 wt21 dX9_insert_30 rfl ?_
      refine wq_iconst (n := 1) F dX9_insert_31 rfl ?_
      refine wq_icmp_le (tgt := 41) F dX9_insert_32 (by decide) rfl (fun hc => ?_) (fun hc => ?_)
      · replace h := wq_ift hc h
        refine wq_iconst (n := 0) F dX9_insert_41 rfl ?_
        exact wq_lsub [some (.ref (b + 0)), some (.int (wq_I x1)), some (.int (wq_I x2)), some (.int (wq_I x3)), some (.int (wq_I x4)), some (.int (wq_I r1)), none, none] (by simp [wq_sub]) (tj_X9_insert_42 F 0 0 x3 S20 h)
      · replace h := wq_iff hc h
        refine wq_sipush (n := 999) F dX9_insert_35 (by decide) rfl ?_
        refine wq_goto (tgt := 42) F dX9_insert_38 (by decide) ?_
        exact wq_lsub [some (.ref (b + 0)), some (.int (wq_I x1)), some (.int (wq_I x2)), some (.int (wq_I x3)), some (.int (wq_I x4)), some (.int (wq_I r1)), none, none] (by simp [wq_sub]) (tj_X9_insert_42 F 999 0 x3 S20 h)
set_option maxHeartbeats 4000000 in
set_option maxRecDepth 100000 in
theorem tb_X9_rowsOf_7 {p : Program} {l : Launch} {e : Env} {s : State} {m : MethodId} {args : Array Value} {below : List Frame} {meth : Method} {c : Code} {D : va_G} {Ar : Nat → ClassId} {b : Nat} (F : wq_Fr p s m args meth c cX9_rowsOf 4 ((Option.some Jvm.ClassFile.FieldType.int)) "WharfQueryModel" D Ar) {r0 : Int} {S0 : wq_St} {c1 : Int} {kx : Int → wq_St → Option (Int × wq_St)} (hkx : ∀ (u2 : Int) (S : wq_St), kx u2 S = some (r0, S0) → wq_Z p l e (wq_rm 1 0 0) s m args below meth c D (wq_EM Ar b) b 32 4 (wq_Ab b 32) (MQ below (wq_Qc D (wq_EM Ar b) b 32 (some (.int (wq_I r0))) S0) args s 0 0 (wq_Ab b 32)) 0 0 45 [none, none, some (.int (wq_I u2)), none] [] S) {rec : Int → Int → wq_St → Option (Int × wq_St)} (hrec : ∀ (y2 : Int) (y3 : Int) (S : wq_St), rec y2 y3 S = some (r0, S0) → wq_Z p l e (wq_rm 1 0 0) s m args below meth c D (wq_EM Ar b) b 32 4 (wq_Ab b 32) (MQ below (wq_Qc D (wq_EM Ar b) b 32 (some (.int (wq_I r0))) S0) args s 0 0 (wq_Ab b 32)) 0 0 7 [some (.ref (b + 0)), some (.int (wq_I c1)), some (.int (wq_I y2)), some (.int (wq_I y3))] [] S) (y2 : Int) (y3 : Int) (S : wq_St) (h : b_X9_rowsOf_7 c1 kx rec y2 y3 S = some (r0, S0)) : wq_Z p l e (wq_rm 1 0 0) s m args below meth c D (wq_EM Ar b) b 32 4 (wq_Ab b 32) (MQ below (wq_Qc D (wq_EM Ar b) b 32 (some (.int (wq_I r0))) S0) args s 0 0 (wq_Ab b 32)) 0 0 7 [some (.ref (b + 0)), some (.int (wq_I c1)), some (.int (wq_I y2)), some (.int (wq_I y3))] [] S := by
  unfold b_X9_rowsOf_7 at h
  refine wq_iload_n F dX9_rowsOf_7 rfl rfl rfl ?_
  refine wq_bipush (n := 40) F dX9_rowsOf_8 (by decide) rfl ?_
  refine wq_iload_n F dX9_rowsOf_10 rfl rfl rfl ?_
  refine wq_imul F dX9_rowsOf_11 rfl ?_
  refine wq_aload_n F dX9_rowsOf_12 rfl rfl rfl ?_
  refine wq_g_X9_13 F dX9_rowsOf_13 rfl ?_
  refine wq_iload_n F dX9_rowsOf_16 rfl rfl rfl ?_
  obtain ⟨t1, ht1, wt1, h⟩ := wq_ix_some h
  refine wq_iald F (Nat.le_of_ble_eq_true rfl) wq_EM_inserted ht1 wt1 dX9_rowsOf_17 rfl ?_
  refine wq_iadd F dX9_rowsOf_18 rfl ?_
  refine wq_icmp_ge (tgt := 45) F dX9_rowsOf_19 (by decide) rfl (fun hc => ?_) (fun hc => ?_)
  · replace h := wq_ift hc h
    exact wq_lsub [none, none, some (.int (wq_I y2)), none] (by simp [wq_sub]) (hkx y2 S h)
  · replace h := wq_iff hc h
    refine wq_iload_n F dX9_rowsOf_22 rfl rfl rfl ?_
    refine wq_aload_n F dX9_rowsOf_23 rfl rfl rfl ?_
    refine wq_g_X9_16 F dX9_rowsOf_24 rfl ?_
    refine wq_iload_n F dX9_rowsOf_27 rfl rfl rfl ?_
    obtain ⟨t2, ht2, wt2, h⟩ := wq_ix_some h
    refine wq_zald F (Nat.le_of_ble_eq_true rfl) wq_EM_there ht2 wt2 dX9_rowsOf_28 rfl ?_
    refine wq_if_eq (tgt := 36) F dX9_rowsOf_29 (by decide) rfl (fun hc => ?_) (fun hc => ?_)
    · replace h := wq_ift hc h
      refine wq_iconst (n := 0) F dX9_rowsOf_36 rfl ?_
      refine wq_iadd F dX9_rowsOf_37 rfl ?_
      refine wq_istore_n (L' := [some (.ref (b + 0)), some (.int (wq_I c1)), some (.int (wq_I (y2 + 0))), some (.int (wq_I y3))]) F dX9_rowsOf_38 rfl (by decide) rfl rfl rfl ?_
      refine wq_iinc (L' := [some (.ref (b + 0)), some (.int (wq_I c1)), some (.int (wq_I (y2 + 0))), some (.int (wq_I (y3 + 1)))]) F dX9_rowsOf_39 rfl (by decide) rfl rfl rfl ?_
      refine wq_goto (tgt := 7) F dX9_rowsOf_42 (by decide) ?_
      exact wq_lsub [some (.ref (b + 0)), some (.int (wq_I c1)), some (.int (wq_I (y2 + 0))), some (.int (wq_I (y3 + 1)))] (by simp [wq_sub]) (hrec (y2 + 0) (y3 + 1) S h)
    · replace h := wq_iff hc h
      refine wq_iconst (n := 1) F dX9_rowsOf_32 rfl ?_
      refine wq_goto (tgt := 37) F dX9_rowsOf_33 (by decide) ?_
      refine wq_iadd F dX9_rowsOf_37 rfl ?_
      refine wq_istore_n (L' := [some (.ref (b + 0)), some (.int (wq_I c1)), some (.int (wq_I (y2 + 1))), some (.int (wq_I y3))]) F dX9_rowsOf_38 rfl (by decide) rfl rfl rfl ?_
      refine wq_iinc (L' := [some (.ref (b + 0)), some (.int (wq_I c1)), some (.int (wq_I (y2 + 1))), some (.int (wq_I (y3 + 1)))]) F dX9_rowsOf_39 rfl (by decide) rfl rfl rfl ?_
      refine wq_goto (tgt := 7) F dX9_rowsOf_42 (by decide) ?_
      exact wq_lsub [some (.ref (b + 0)), some (.int (wq_I c1)), some (.int (wq_I (y2 + 1))), some (.int (wq_I (y3 + 1)))] (by simp [wq_sub]) (hrec (y2 + 1) (y3 + 1) S h)
set_option maxHeartbeats 4000000 in
set_option maxRecDepth 100000 in
theorem tl_X9_rowsOf_7 {p : Program} {l : Launch} {e : Env} {s : State} {m : MethodId} {args : Array Value} {below : List Frame} {meth : Method} {c : Code} {D : va_G} {Ar : Nat → ClassId} {b : Nat} (F : wq_Fr p s m args meth c cX9_rowsOf 4 ((Option.some Jvm.ClassFile.FieldType.int)) "WharfQueryModel" D Ar) {r0 : Int} {S0 : wq_St} {c1 : Int} {kx : Int → wq_St → Option (Int × wq_St)} (hkx : ∀ (u2 : Int) (S : wq_St), kx u2 S = some (r0, S0) → wq_Z p l e (wq_rm 1 0 0) s m args below meth c D (wq_EM Ar b) b 32 4 (wq_Ab b 32) (MQ below (wq_Qc D (wq_EM Ar b) b 32 (some (.int (wq_I r0))) S0) args s 0 0 (wq_Ab b 32)) 0 0 45 [none, none, some (.int (wq_I u2)), none] [] S) (n : Nat) (y2 : Int) (y3 : Int) (S : wq_St) (h : l_X9_rowsOf_7 c1 kx n y2 y3 S = some (r0, S0)) : wq_Z p l e (wq_rm 1 0 0) s m args below meth c D (wq_EM Ar b) b 32 4 (wq_Ab b 32) (MQ below (wq_Qc D (wq_EM Ar b) b 32 (some (.int (wq_I r0))) S0) args s 0 0 (wq_Ab b 32)) 0 0 7 [some (.ref (b + 0)), some (.int (wq_I c1)), some (.int (wq_I y2)), some (.int (wq_I y3))] [] S :=
  wq_loop_ind (f := fun (g : Int × Int × wq_St → Option (Int × wq_St)) (x : Int × Int × wq_St) => b_X9_rowsOf_7 c1 kx (fun y2 y3 S => g (y2, y3, S)) x.1 x.2.1 x.2.2) (P := (fun x : Int × Int × wq_St => wq_Z p l e (wq_rm 1 0 0) s m args below meth c D (wq_EM Ar b) b 32 4 (wq_Ab b 32) (MQ below (wq_Qc D (wq_EM Ar b) b 32 (some (.int (wq_I r0))) S0) args s 0 0 (wq_Ab b 32)) 0 0 7 [some (.ref (b + 0)), some (.int (wq_I c1)), some (.int (wq_I (x.1))), some (.int (wq_I (x.2.1)))] [] x.2.2)) (fun g hg x hx => tb_X9_rowsOf_7 F hkx (fun y2 y3 S h => hg (y2, y3, S) h) x.1 x.2.1 x.2.2 hx) n (y2, y3, S) h
set_option maxHeartbeats 4000000 in
set_option maxRecDepth 100000 in
theorem ct_X9_rowsOf {l : Launch} {D : va_G} {Ar : Nat → ClassId} {b : Nat} {x1 : Int} {S S0 : wq_St} {r0 : Int} (h : f_X9_rowsOf x1 S = some (r0, S0)) : wq_Ct l yX9_rowsOf (.code yX9_rowsOf cX9_rowsOf 4 ((Option.some Jvm.ClassFile.FieldType.int))) 1 D Ar (wq_EM Ar b) b 32 [.ref (b + 0), .int (wq_I x1)] S (some (.int (wq_I r0))) S0 := by
  refine wq_start "WharfQueryModel" [some (.ref (b + 0)), some (.int (wq_I x1)), none, none] (by decide +kernel) rfl (Nat.le_of_ble_eq_true rfl) rfl ?_
  intro p e s m args below meth c F
  unfold f_X9_rowsOf at h
  refine wq_iconst (n := 0) F dX9_rowsOf_0 rfl ?_
  refine wq_istore_n (L' := [some (.ref (b + 0)), some (.int (wq_I x1)), some (.int (wq_I 0)), none]) F dX9_rowsOf_1 rfl (by decide) rfl rfl rfl ?_
  refine wq_bipush (n := 40) F dX9_rowsOf_2 (by decide) rfl ?_
  refine wq_iload_n F dX9_rowsOf_4 rfl rfl rfl ?_
  refine wq_imul F dX9_rowsOf_5 rfl ?_
  refine wq_istore_n (L' := [some (.ref (b + 0)), some (.int (wq_I x1)), some (.int (wq_I 0)), some (.int (wq_I (40 * x1)))]) F dX9_rowsOf_6 rfl (by decide) rfl rfl rfl ?_
  refine wq_lsub [some (.ref (b + 0)), some (.int (wq_I x1)), some (.int (wq_I 0)), some (.int (wq_I (40 * x1)))] (by simp [wq_sub]) (tl_X9_rowsOf_7 F (fun u3 S4 h => ?_) wq_fu 0 (40 * x1) S h)
  refine wq_iload_n F dX9_rowsOf_45 rfl rfl rfl ?_
  cases h
  exact wq_iret F rfl rfl dX9_rowsOf_46
set_option maxHeartbeats 4000000 in
set_option maxRecDepth 100000 in
theorem ct_X9_delete {l : Launch} {D : va_G} {Ar : Nat → ClassId} {b : Nat} {x1 : Int} {x2 : Int} {S S0 : wq_St} {r0 : Int} (h : f_X9_delete x1 x2 S = some (r0, S0)) : wq_Ct l yX9_delete (.code yX9_delete cX9_delete 3 ((Option.some Jvm.ClassFile.FieldType.int))) 4 D Ar (wq_EM Ar b) b 32 [.ref (b + 0), .int (wq_I x1), .int (wq_I x2)] S (some (.int (wq_I r0))) S0 := by
  refine wq_start "WharfQueryModel" [some (.ref (b + 0)), some (.int (wq_I x1)), some (.int (wq_I x2))] (by decide +kernel) rfl (Nat.le_of_ble_eq_true rfl) rfl ?_
  intro p e s m args below meth c F
  unfold f_X9_delete at h
  refine wq_aload_n F dX9_delete_0 rfl rfl rfl ?_
  refine wq_aload_n F dX9_delete_1 rfl rfl rfl ?_
  refine wq_iload_n F dX9_delete_2 rfl rfl rfl ?_
  refine wq_iload_n F dX9_delete_3 rfl rfl rfl ?_
  obtain ⟨r1, S2, h1r1, h⟩ := wq_bd_some h
  refine wq_callV (As := [.int (wq_I x1), .int (wq_I x2)]) F lk_X9_142 (ct_X9_isRow h1r1) ⟨Nat.le_of_ble_eq_true rfl, Nat.le_of_ble_eq_true rfl⟩ ⟨Nat.le_of_ble_eq_true rfl, Nat.le_of_ble_eq_true rfl⟩ (Nat.le_of_ble_eq_true rfl) rfl rfl (fun _ h9 => h9) rfl rfl (Nat.le_of_ble_eq_true rfl) dX9_delete_4 rfl ?_
  obtain ⟨r3, S4, h1r3, h⟩ := wq_bd_some h
  refine wq_callV (As := [.int (wq_I r1)]) F lk_X9_145 (ct_X9_asked h1r3) ⟨Nat.le_of_ble_eq_true rfl, Nat.le_of_ble_eq_true rfl⟩ ⟨Nat.le_of_ble_eq_true rfl, Nat.le_of_ble_eq_true rfl⟩ (Nat.le_of_ble_eq_true rfl) rfl rfl (fun _ h9 => h9) rfl rfl (Nat.le_of_ble_eq_true rfl) dX9_delete_7 rfl ?_
  refine wq_if_ne (tgt := 15) F dX9_delete_10 (by decide) rfl (fun hc => ?_) (fun hc => ?_)
  · replace h := wq_iff hc h
    refine wq_aload_n F dX9_delete_15 rfl rfl rfl ?_
    refine wq_g_X9_16 F dX9_delete_16 rfl ?_
    refine wq_bipush (n := 40) F dX9_delete_19 (by decide) rfl ?_
    refine wq_iload_n F dX9_delete_21 rfl rfl rfl ?_
    refine wq_imul F dX9_delete_22 rfl ?_
    refine wq_iload_n F dX9_delete_23 rfl rfl rfl ?_
    refine wq_iadd F dX9_delete_24 rfl ?_
    refine wq_iconst (n := 0) F dX9_delete_25 rfl ?_
    obtain ⟨t5, ht5, wt5, h⟩ := wq_ix_some h
    refine wq_zast F (by decide) (Nat.le_of_ble_eq_true rfl) wq_EM_there wq_EM_there ht5 wt5 ⟨Nat.le_add_right _ _, Nat.add_lt_add_left (Nat.le_of_ble_eq_true rfl) b⟩ dX9_delete_26 rfl ?_
    obtain ⟨S6, eS6, h⟩ := wq_lt_some h
    refine wq_namS eS6 ?_
    refine wq_aload_n F dX9_delete_27 rfl rfl rfl ?_
    refine wq_iload_n F dX9_delete_28 rfl rfl rfl ?_
    obtain ⟨r7, S8, h1r7, h⟩ := wq_bd_some h
    refine wq_callV (As := [.int (wq_I x1)]) F lk_X9_148 (ct_X9_rowsOf h1r7) ⟨Nat.le_of_ble_eq_true rfl, Nat.le_of_ble_eq_true rfl⟩ ⟨Nat.le_of_ble_eq_true rfl, Nat.le_of_ble_eq_true rfl⟩ (Nat.le_of_ble_eq_true rfl) rfl rfl (fun _ h9 => h9) rfl rfl (Nat.le_of_ble_eq_true rfl) dX9_delete_29 rfl ?_
    cases h
    exact wq_iret F rfl rfl dX9_delete_32
  · replace h := wq_ift hc h
    refine wq_iconst (n := 0) F dX9_delete_13 rfl ?_
    cases h
    exact wq_iret F rfl rfl dX9_delete_14
set_option maxHeartbeats 4000000 in
set_option maxRecDepth 100000 in
theorem ct_X9_setIndex {l : Launch} {D : va_G} {Ar : Nat → ClassId} {b : Nat} {x1 : Int} {x2 : Int} {x3 : Int} {S S0 : wq_St} {r0 : Int} (h : f_X9_setIndex x1 x2 x3 S = some (r0, S0)) : wq_Ct l yX9_setIndex (.code yX9_setIndex cX9_setIndex 5 ((Option.some Jvm.ClassFile.FieldType.boolean))) 4 D Ar (wq_EM Ar b) b 32 [.ref (b + 0), .int (wq_I x1), .int (wq_I x2), .int (wq_I x3)] S (some (.int (wq_I r0))) S0 := by
  refine wq_start "WharfQueryModel" [some (.ref (b + 0)), some (.int (wq_I x1)), some (.int (wq_I x2)), some (.int (wq_I x3)), none] (by decide +kernel) rfl (Nat.le_of_ble_eq_true rfl) rfl ?_
  intro p e s m args below meth c F
  unfold f_X9_setIndex at h
  refine wq_aload_n F dX9_setIndex_0 rfl rfl rfl ?_
  refine wq_aload_n F dX9_setIndex_1 rfl rfl rfl ?_
  refine wq_iload_n F dX9_setIndex_2 rfl rfl rfl ?_
  refine wq_iload_n F dX9_setIndex_3 rfl rfl rfl ?_
  obtain ⟨r1, S2, h1r1, h⟩ := wq_bd_some h
  refine wq_callV (As := [.int (wq_I x1), .int (wq_I x2)]) F lk_X9_132 (ct_X9_isColumn h1r1) ⟨Nat.le_of_ble_eq_true rfl, Nat.le_of_ble_eq_true rfl⟩ ⟨Nat.le_of_ble_eq_true rfl, Nat.le_of_ble_eq_true rfl⟩ (Nat.le_of_ble_eq_true rfl) rfl rfl (fun _ h9 => h9) rfl rfl (Nat.le_of_ble_eq_true rfl) dX9_setIndex_4 rfl ?_
  obtain ⟨r3, S4, h1r3, h⟩ := wq_bd_some h
  refine wq_callV (As := [.int (wq_I r1)]) F lk_X9_145 (ct_X9_asked h1r3) ⟨Nat.le_of_ble_eq_true rfl, Nat.le_of_ble_eq_true rfl⟩ ⟨Nat.le_of_ble_eq_true rfl, Nat.le_of_ble_eq_true rfl⟩ (Nat.le_of_ble_eq_true rfl) rfl rfl (fun _ h9 => h9) rfl rfl (Nat.le_of_ble_eq_true rfl) dX9_setIndex_7 rfl ?_
  refine wq_if_ne (tgt := 15) F dX9_setIndex_10 (by decide) rfl (fun hc => ?_) (fun hc => ?_)
  · replace h := wq_iff hc h
    refine wq_aload_n F dX9_setIndex_15 rfl rfl rfl ?_
    refine wq_g_X9_23 F dX9_setIndex_16 rfl ?_
    refine wq_iconst (n := 3) F dX9_setIndex_19 rfl ?_
    refine wq_iload_n F dX9_setIndex_20 rfl rfl rfl ?_
    refine wq_imul F dX9_setIndex_21 rfl ?_
    refine wq_iload_n F dX9_setIndex_22 rfl rfl rfl ?_
    refine wq_iadd F dX9_setIndex_23 rfl ?_
    obtain ⟨t5, ht5, wt5, h⟩ := wq_ix_some h
    refine wq_zald F (Nat.le_of_ble_eq_true rfl) wq_EM_index ht5 wt5 dX9_setIndex_24 rfl ?_
    refine wq_istore (L' := [some (.ref (b + 0)), some (.int (wq_I x1)), some (.int (wq_I x2)), some (.int (wq_I x3)), some (.int (wq_I (S4 5 t5)))]) F dX9_setIndex_25 (by decide) rfl rfl rfl ?_
    refine wq_aload_n F dX9_setIndex_27 rfl rfl rfl ?_
    refine wq_g_X9_23 F dX9_setIndex_28 rfl ?_
    refine wq_iconst (n := 3) F dX9_setIndex_31 rfl ?_
    refine wq_iload_n F dX9_setIndex_32 rfl rfl rfl ?_
    refine wq_imul F dX9_setIndex_33 rfl ?_
    refine wq_iload_n F dX9_setIndex_34 rfl rfl rfl ?_
    refine wq_iadd F dX9_setIndex_35 rfl ?_
    refine wq_iload_n F dX9_setIndex_36 rfl rfl rfl ?_
    obtain ⟨t6, ht6, wt6, h⟩ := wq_ix_some h
    obtain ⟨hg, h⟩ := wq_gd_some h
    refine wq_zast F hg (Nat.le_of_ble_eq_true rfl) wq_EM_index wq_EM_index ht6 wt6 ⟨Nat.le_add_right _ _, Nat.add_lt_add_left (Nat.le_of_ble_eq_true rfl) b⟩ dX9_setIndex_37 rfl ?_
    obtain ⟨S7, eS7, h⟩ := wq_lt_some h
    refine wq_namS eS7 ?_
    refine wq_iload F dX9_setIndex_38 rfl rfl ?_
    obtain ⟨hg, h⟩ := wq_gd_some h
    cases h
    exact wq_zret F hg rfl rfl dX9_setIndex_40
  · replace h := wq_ift hc h
    refine wq_iconst (n := 0) F dX9_setIndex_13 rfl ?_
    cases h
    exact wq_zret F (by decide) rfl rfl dX9_setIndex_14
set_option maxHeartbeats 4000000 in
set_option maxRecDepth 100000 in
theorem ct_X9_rows {l : Launch} {D : va_G} {Ar : Nat → ClassId} {b : Nat} {x1 : Int} {S S0 : wq_St} {r0 : Int} (h : f_X9_rows x1 S = some (r0, S0)) : wq_Ct l yX9_rows (.code yX9_rows cX9_rows 2 ((Option.some Jvm.ClassFile.FieldType.int))) 3 D Ar (wq_EM Ar b) b 32 [.ref (b + 0), .int (wq_I x1)] S (some (.int (wq_I r0))) S0 := by
  refine wq_start "WharfQueryModel" [some (.ref (b + 0)), some (.int (wq_I x1))] (by decide +kernel) rfl (Nat.le_of_ble_eq_true rfl) rfl ?_
  intro p e s m args below meth c F
  unfold f_X9_rows at h
  refine wq_aload_n F dX9_rows_0 rfl rfl rfl ?_
  refine wq_aload_n F dX9_rows_1 rfl rfl rfl ?_
  refine wq_iload_n F dX9_rows_2 rfl rfl rfl ?_
  obtain ⟨r1, S2, h1r1, h⟩ := wq_bd_some h
  refine wq_callV (As := [.int (wq_I x1)]) F lk_X9_118 (ct_X9_isTable h1r1) ⟨Nat.le_of_ble_eq_true rfl, Nat.le_of_ble_eq_true rfl⟩ ⟨Nat.le_of_ble_eq_true rfl, Nat.le_of_ble_eq_true rfl⟩ (Nat.le_of_ble_eq_true rfl) rfl rfl (fun _ h9 => h9) rfl rfl (Nat.le_of_ble_eq_true rfl) dX9_rows_3 rfl ?_
  obtain ⟨r3, S4, h1r3, h⟩ := wq_bd_some h
  refine wq_callV (As := [.int (wq_I r1)]) F lk_X9_145 (ct_X9_asked h1r3) ⟨Nat.le_of_ble_eq_true rfl, Nat.le_of_ble_eq_true rfl⟩ ⟨Nat.le_of_ble_eq_true rfl, Nat.le_of_ble_eq_true rfl⟩ (Nat.le_of_ble_eq_true rfl) rfl rfl (fun _ h9 => h9) rfl rfl (Nat.le_of_ble_eq_true rfl) dX9_rows_6 rfl ?_
  refine wq_if_eq (tgt := 20) F dX9_rows_9 (by decide) rfl (fun hc => ?_) (fun hc => ?_)
  · replace h := wq_ift hc h
    refine wq_iconst (n := 0) F dX9_rows_20 rfl ?_
    cases h
    exact wq_iret F rfl rfl dX9_rows_21
  · replace h := wq_iff hc h
    refine wq_aload_n F dX9_rows_12 rfl rfl rfl ?_
    refine wq_iload_n F dX9_rows_13 rfl rfl rfl ?_
    obtain ⟨r5, S6, h1r5, h⟩ := wq_bd_some h
    refine wq_callV (As := [.int (wq_I x1)]) F lk_X9_148 (ct_X9_rowsOf h1r5) ⟨Nat.le_of_ble_eq_true rfl, Nat.le_of_ble_eq_true rfl⟩ ⟨Nat.le_of_ble_eq_true rfl, Nat.le_of_ble_eq_true rfl⟩ (Nat.le_of_ble_eq_true rfl) rfl rfl (fun _ h9 => h9) rfl rfl (Nat.le_of_ble_eq_true rfl) dX9_rows_14 rfl ?_
    refine wq_goto (tgt := 21) F dX9_rows_17 (by decide) ?_
    cases h
    exact wq_iret F rfl rfl dX9_rows_21
set_option maxHeartbeats 4000000 in
set_option maxRecDepth 100000 in
theorem ct_X9_valueAt {l : Launch} {D : va_G} {Ar : Nat → ClassId} {b : Nat} {x1 : Int} {x2 : Int} {x3 : Int} {S S0 : wq_St} {r0 : Int} (h : f_X9_valueAt x1 x2 x3 S = some (r0, S0)) : wq_Ct l yX9_valueAt (.code yX9_valueAt cX9_valueAt 4 ((Option.some Jvm.ClassFile.FieldType.int))) 1 D Ar (wq_EM Ar b) b 32 [.ref (b + 0), .int (wq_I x1), .int (wq_I x2), .int (wq_I x3)] S (some (.int (wq_I r0))) S0 := by
  refine wq_start "WharfQueryModel" [some (.ref (b + 0)), some (.int (wq_I x1)), some (.int (wq_I x2)), some (.int (wq_I x3))] (by decide +kernel) rfl (Nat.le_of_ble_eq_true rfl) rfl ?_
  intro p e s m args below meth c F
  unfold f_X9_valueAt at h
  refine wq_aload_n F dX9_valueAt_0 rfl rfl rfl ?_
  refine wq_g_X9_20 F dX9_valueAt_1 rfl ?_
  refine wq_iconst (n := 3) F dX9_valueAt_4 rfl ?_
  refine wq_bipush (n := 40) F dX9_valueAt_5 (by decide) rfl ?_
  refine wq_iload_n F dX9_valueAt_7 rfl rfl rfl ?_
  refine wq_imul F dX9_valueAt_8 rfl ?_
  refine wq_iload_n F dX9_valueAt_9 rfl rfl rfl ?_
  refine wq_iadd F dX9_valueAt_10 rfl ?_
  refine wq_imul F dX9_valueAt_11 rfl ?_
  refine wq_iload_n F dX9_valueAt_12 rfl rfl rfl ?_
  refine wq_iadd F dX9_valueAt_13 rfl ?_
  obtain ⟨t1, ht1, wt1, h⟩ := wq_ix_some h
  refine wq_iald F (Nat.le_of_ble_eq_true rfl) wq_EM_value ht1 wt1 dX9_valueAt_14 rfl ?_
  cases h
  exact wq_iret F rfl rfl dX9_valueAt_15
set_option maxHeartbeats 4000000 in
set_option maxRecDepth 100000 in
theorem ct_X9_value {l : Launch} {D : va_G} {Ar : Nat → ClassId} {b : Nat} {x1 : Int} {x2 : Int} {x3 : Int} {S S0 : wq_St} {r0 : Int} (h : f_X9_value x1 x2 x3 S = some (r0, S0)) : wq_Ct l yX9_value (.code yX9_value cX9_value 5 ((Option.some Jvm.ClassFile.FieldType.int))) 4 D Ar (wq_EM Ar b) b 32 [.ref (b + 0), .int (wq_I x1), .int (wq_I x2), .int (wq_I x3)] S (some (.int (wq_I r0))) S0 := by
  refine wq_start "WharfQueryModel" [some (.ref (b + 0)), some (.int (wq_I x1)), some (.int (wq_I x2)), some (.int (wq_I x3)), none] (by decide +kernel) rfl (Nat.le_of_ble_eq_true rfl) rfl ?_
  intro p e s m args below meth c F
  unfold f_X9_value at h
  refine wq_aload_n F dX9_value_0 rfl rfl rfl ?_
  refine wq_iload_n F dX9_value_1 rfl rfl rfl ?_
  refine wq_iload_n F dX9_value_2 rfl rfl rfl ?_
  obtain ⟨r1, S2, h1r1, h⟩ := wq_bd_some h
  refine wq_callV (As := [.int (wq_I x1), .int (wq_I x3)]) F lk_X9_132 (ct_X9_isColumn h1r1) ⟨Nat.le_of_ble_eq_true rfl, Nat.le_of_ble_eq_true rfl⟩ ⟨Nat.le_of_ble_eq_true rfl, Nat.le_of_ble_eq_true rfl⟩ (Nat.le_of_ble_eq_true rfl) rfl rfl (fun _ h9 => h9) rfl rfl (Nat.le_of_ble_eq_true rfl) dX9_value_3 rfl ?_
  refine wq_if_eq (tgt := 22) F dX9_value_6 (by decide) rfl (fun hc => ?_) (fun hc => ?_)
  · replace h := wq_ift hc h
    refine wq_iconst (n := 0) F dX9_value_22 rfl ?_
    refine wq_istore (L' := [some (.ref (b + 0)), some (.int (wq_I x1)), some (.int (wq_I x2)), some (.int (wq_I x3)), some (.int (wq_I 0))]) F dX9_value_23 (by decide) rfl rfl rfl ?_
    refine wq_aload_n F dX9_value_25 rfl rfl rfl ?_
    refine wq_iload F dX9_value_26 rfl rfl ?_
    obtain ⟨r3, S4, h1r3, h⟩ := wq_bd_some h
    refine wq_callV (As := [.int (wq_I 0)]) F lk_X9_145 (ct_X9_asked h1r3) ⟨Nat.le_of_ble_eq_true rfl, Nat.le_of_ble_eq_true rfl⟩ ⟨Nat.le_of_ble_eq_true rfl, Nat.le_of_ble_eq_true rfl⟩ (Nat.le_of_ble_eq_true rfl) rfl rfl (fun _ h9 => h9) rfl rfl (Nat.le_of_ble_eq_true rfl) dX9_value_28 rfl ?_
    refine wq_if_eq (tgt := 44) F dX9_value_31 (by decide) rfl (fun hc => ?_) (fun hc => ?_)
    · replace h := wq_ift hc h
      refine wq_iconst (n := 0) F dX9_value_44 rfl ?_
      cases h
      exact wq_iret F rfl rfl dX9_value_45
    · replace h := wq_iff hc h
      refine wq_aload_n F dX9_value_34 rfl rfl rfl ?_
      refine wq_iload_n F dX9_value_35 rfl rfl rfl ?_
      refine wq_iload_n F dX9_value_36 rfl rfl rfl ?_
      refine wq_iload_n F dX9_value_37 rfl rfl rfl ?_
      obtain ⟨r5, S6, h1r5, h⟩ := wq_bd_some h
      refine wq_callV (As := [.int (wq_I x1), .int (wq_I x2), .int (wq_I x3)]) F lk_X9_152 (ct_X9_valueAt h1r5) ⟨Nat.le_of_ble_eq_true rfl, Nat.le_of_ble_eq_true rfl⟩ ⟨Nat.le_of_ble_eq_true rfl, Nat.le_of_ble_eq_true rfl⟩ (Nat.le_of_ble_eq_true rfl) rfl rfl (fun _ h9 => h9) rfl rfl (Nat.le_of_ble_eq_true rfl) dX9_value_38 rfl ?_
      refine wq_goto (tgt := 45) F dX9_value_41 (by decide) ?_
      cases h
      exact wq_iret F rfl rfl dX9_value_45
  · replace h := wq_iff hc h
    refine wq_aload_n F dX9_value_9 rfl rfl rfl ?_
    refine wq_iload_n F dX9_value_10 rfl rfl rfl ?_
    refine wq_iload_n F dX9_value_11 rfl rfl rfl ?_
    obtain ⟨r7, S8, h1r7, h⟩ := wq_bd_some h
    refine wq_callV (As := [.int (wq_I x1), .int (wq_I x2)]) F lk_X9_142 (ct_X9_isRow h1r7) ⟨Nat.le_of_ble_eq_true rfl, Nat.le_of_ble_eq_true rfl⟩ ⟨Nat.le_of_ble_eq_true rfl, Nat.le_of_ble_eq_true rfl⟩ (Nat.le_of_ble_eq_true rfl) rfl rfl (fun _ h9 => h9) rfl rfl (Nat.le_of_ble_eq_true rfl) dX9_value_12 rfl ?_
    refine wq_if_eq (tgt := 22) F dX9_value_15 (by decide) rfl (fun hc => ?_) (fun hc => ?_)
    · replace h := wq_ift hc h
      refine wq_iconst (n := 0) F dX9_value_22 rfl ?_
      refine wq_istore (L' := [some (.ref (b + 0)), some (.int (wq_I x1)), some (.int (wq_I x2)), some (.int (wq_I x3)), some (.int (wq_I 0))]) F dX9_value_23 (by decide) rfl rfl rfl ?_
      refine wq_aload_n F dX9_value_25 rfl rfl rfl ?_
      refine wq_iload F dX9_value_26 rfl rfl ?_
      obtain ⟨r9, S10, h1r9, h⟩ := wq_bd_some h
      refine wq_callV (As := [.int (wq_I 0)]) F lk_X9_145 (ct_X9_asked h1r9) ⟨Nat.le_of_ble_eq_true rfl, Nat.le_of_ble_eq_true rfl⟩ ⟨Nat.le_of_ble_eq_true rfl, Nat.le_of_ble_eq_true rfl⟩ (Nat.le_of_ble_eq_true rfl) rfl rfl (fun _ h9 => h9) rfl rfl (Nat.le_of_ble_eq_true rfl) dX9_value_28 rfl ?_
      refine wq_if_eq (tgt := 44) F dX9_value_31 (by decide) rfl (fun hc => ?_) (fun hc => ?_)
      · replace h := wq_ift hc h
        refine wq_iconst (n := 0) F dX9_value_44 rfl ?_
        cases h
        exact wq_iret F rfl rfl dX9_value_45
      · replace h := wq_iff hc h
        refine wq_aload_n F dX9_value_34 rfl rfl rfl ?_
        refine wq_iload_n F dX9_value_35 rfl rfl rfl ?_
        refine wq_iload_n F dX9_value_36 rfl rfl rfl ?_
        refine wq_iload_n F dX9_value_37 rfl rfl rfl ?_
        obtain ⟨r11, S12, h1r11, h⟩ := wq_bd_some h
        refine wq_callV (As := [.int (wq_I x1), .int (wq_I x2), .int (wq_I x3)]) F lk_X9_152 (ct_X9_valueAt h1r11) ⟨Nat.le_of_ble_eq_true rfl, Nat.le_of_ble_eq_true rfl⟩ ⟨Nat.le_of_ble_eq_true rfl, Nat.le_of_ble_eq_true rfl⟩ (Nat.le_of_ble_eq_true rfl) rfl rfl (fun _ h9 => h9) rfl rfl (Nat.le_of_ble_eq_true rfl) dX9_value_38 rfl ?_
        refine wq_goto (tgt := 45) F dX9_value_41 (by decide) ?_
        cases h
        exact wq_iret F rfl rfl dX9_value_45
    · replace h := wq_iff hc h
      refine wq_iconst (n := 1) F dX9_value_18 rfl ?_
      refine wq_goto (tgt := 23) F dX9_value_19 (by decide) ?_
      refine wq_istore (L' := [some (.ref (b + 0)), some (.int (wq_I x1)), some (.int (wq_I x2)), some (.int (wq_I x3)), some (.int (wq_I 1))]) F dX9_value_23 (by decide) rfl rfl rfl ?_
      refine wq_aload_n F dX9_value_25 rfl rfl rfl ?_
      refine wq_iload F dX9_value_26 rfl rfl ?_
      obtain ⟨r13, S14, h1r13, h⟩ := wq_bd_some h
      refine wq_callV (As := [.int (wq_I 1)]) F lk_X9_145 (ct_X9_asked h1r13) ⟨Nat.le_of_ble_eq_true rfl, Nat.le_of_ble_eq_true rfl⟩ ⟨Nat.le_of_ble_eq_true rfl, Nat.le_of_ble_eq_true rfl⟩ (Nat.le_of_ble_eq_true rfl) rfl rfl (fun _ h9 => h9) rfl rfl (Nat.le_of_ble_eq_true rfl) dX9_value_28 rfl ?_
      refine wq_if_eq (tgt := 44) F dX9_value_31 (by decide) rfl (fun hc => ?_) (fun hc => ?_)
      · replace h := wq_ift hc h
        refine wq_iconst (n := 0) F dX9_value_44 rfl ?_
        cases h
        exact wq_iret F rfl rfl dX9_value_45
      · replace h := wq_iff hc h
        refine wq_aload_n F dX9_value_34 rfl rfl rfl ?_
        refine wq_iload_n F dX9_value_35 rfl rfl rfl ?_
        refine wq_iload_n F dX9_value_36 rfl rfl rfl ?_
        refine wq_iload_n F dX9_value_37 rfl rfl rfl ?_
        obtain ⟨r15, S16, h1r15, h⟩ := wq_bd_some h
        refine wq_callV (As := [.int (wq_I x1), .int (wq_I x2), .int (wq_I x3)]) F lk_X9_152 (ct_X9_valueAt h1r15) ⟨Nat.le_of_ble_eq_true rfl, Nat.le_of_ble_eq_true rfl⟩ ⟨Nat.le_of_ble_eq_true rfl, Nat.le_of_ble_eq_true rfl⟩ (Nat.le_of_ble_eq_true rfl) rfl rfl (fun _ h9 => h9) rfl rfl (Nat.le_of_ble_eq_true rfl) dX9_value_38 rfl ?_
        refine wq_goto (tgt := 45) F dX9_value_41 (by decide) ?_
        cases h
        exact wq_iret F rfl rfl dX9_value_45
set_option maxHeartbeats 4000000 in
set_option maxRecDepth 100000 in
theorem ct_X9_sample {l : Launch} {D : va_G} {Ar : Nat → ClassId} {b : Nat} {x1 : Int} {x2 : Int} {S S0 : wq_St} {r0 : Int} (h : f_X9_sample x1 x2 S = some (r0, S0)) : wq_Ct l yX9_sample (.code yX9_sample cX9_sample 3 ((Option.some Jvm.ClassFile.FieldType.int))) 2 D Ar (wq_EM Ar b) b 32 [.ref (b + 0), .int (wq_I x1), .int (wq_I x2)] S (some (.int (wq_I r0))) S0 := by
  refine wq_start "WharfQueryModel" [some (.ref (b + 0)), some (.int (wq_I x1)), some (.int (wq_I x2))] (by decide +kernel) rfl (Nat.le_of_ble_eq_true rfl) rfl ?_
  intro p e s m args below meth c F
  unfold f_X9_sample at h
  refine wq_aload_n F dX9_sample_0 rfl rfl rfl ?_
  refine wq_iload_n F dX9_sample_1 rfl rfl rfl ?_
  obtain ⟨r1, S2, h1r1, h⟩ := wq_bd_some h
  refine wq_callV (As := [.int (wq_I x1)]) F lk_X9_148 (ct_X9_rowsOf h1r1) ⟨Nat.le_of_ble_eq_true rfl, Nat.le_of_ble_eq_true rfl⟩ ⟨Nat.le_of_ble_eq_true rfl, Nat.le_of_ble_eq_true rfl⟩ (Nat.le_of_ble_eq_true rfl) rfl rfl (fun _ h9 => h9) rfl rfl (Nat.le_of_ble_eq_true rfl) dX9_sample_2 rfl ?_
  refine wq_iload_n F dX9_sample_5 rfl rfl rfl ?_
  refine wq_iadd F dX9_sample_6 rfl ?_
  refine wq_iconst (n := 1) F dX9_sample_7 rfl ?_
  refine wq_isub F dX9_sample_8 rfl ?_
  refine wq_iload_n F dX9_sample_9 rfl rfl rfl ?_
  obtain ⟨hg, h⟩ := wq_gd_some h
  refine wq_idiv (hy := hg) F dX9_sample_10 rfl ?_
  cases h
  exact wq_iret F rfl rfl dX9_sample_11
set_option maxHeartbeats 4000000 in
set_option maxRecDepth 100000 in
theorem tb_X9_isSampled_6 {p : Program} {l : Launch} {e : Env} {s : State} {m : MethodId} {args : Array Value} {below : List Frame} {meth : Method} {c : Code} {D : va_G} {Ar : Nat → ClassId} {b : Nat} (F : wq_Fr p s m args meth c cX9_isSampled 6 ((Option.some Jvm.ClassFile.FieldType.boolean)) "WharfQueryModel" D Ar) {r0 : Int} {S0 : wq_St} {c1 : Int} {c2 : Int} {c3 : Int} {kx : Int → wq_St → Option (Int × wq_St)} (hkx : ∀ (u4 : Int) (S : wq_St), kx u4 S = some (r0, S0) → wq_Z p l e (wq_rm 1 0 0) s m args below meth c D (wq_EM Ar b) b 32 6 (wq_Ab b 32) (MQ below (wq_Qc D (wq_EM Ar b) b 32 (some (.int (wq_I r0))) S0) args s 0 0 (wq_Ab b 32)) 0 0 43 [some (.ref (b + 0)), some (.int (wq_I c1)), some (.int (wq_I c2)), some (.int (wq_I c3)), some (.int (wq_I u4)), none] [] S) {rec : Int → Int → wq_St → Option (Int × wq_St)} (hrec : ∀ (y4 : Int) (y5 : Int) (S : wq_St), rec y4 y5 S = some (r0, S0) → wq_Z p l e (wq_rm 1 0 0) s m args below meth c D (wq_EM Ar b) b 32 6 (wq_Ab b 32) (MQ below (wq_Qc D (wq_EM Ar b) b 32 (some (.int (wq_I r0))) S0) args s 0 0 (wq_Ab b 32)) 0 0 6 [some (.ref (b + 0)), some (.int (wq_I c1)), some (.int (wq_I c2)), some (.int (wq_I c3)), some (.int (wq_I y4)), some (.int (wq_I y5))] [] S) (y4 : Int) (y5 : Int) (S : wq_St) (h : b_X9_isSampled_6 c1 c2 c3 kx rec y4 y5 S = some (r0, S0)) : wq_Z p l e (wq_rm 1 0 0) s m args below meth c D (wq_EM Ar b) b 32 6 (wq_Ab b 32) (MQ below (wq_Qc D (wq_EM Ar b) b 32 (some (.int (wq_I r0))) S0) args s 0 0 (wq_Ab b 32)) 0 0 6 [some (.ref (b + 0)), some (.int (wq_I c1)), some (.int (wq_I c2)), some (.int (wq_I c3)), some (.int (wq_I y4)), some (.int (wq_I y5))] [] S := by
  unfold b_X9_isSampled_6 at h
  refine wq_iload F dX9_isSampled_6 rfl rfl ?_
  refine wq_iload_n F dX9_isSampled_8 rfl rfl rfl ?_
  refine wq_icmp_ge (tgt := 43) F dX9_isSampled_9 (by decide) rfl (fun hc => ?_) (fun hc => ?_)
  · replace h := wq_ift hc h
    exact wq_lsub [some (.ref (b + 0)), some (.int (wq_I c1)), some (.int (wq_I c2)), some (.int (wq_I c3)), some (.int (wq_I y4)), none] (by simp [wq_sub]) (hkx y4 S h)
  · replace h := wq_iff hc h
    refine wq_iload F dX9_isSampled_12 rfl rfl ?_
    refine wq_aload_n F dX9_isSampled_14 rfl rfl rfl ?_
    refine wq_g_X9_16 F dX9_isSampled_15 rfl ?_
    refine wq_bipush (n := 40) F dX9_isSampled_18 (by decide) rfl ?_
    refine wq_iload_n F dX9_isSampled_20 rfl rfl rfl ?_
    refine wq_imul F dX9_isSampled_21 rfl ?_
    refine wq_iload F dX9_isSampled_22 rfl rfl ?_
    refine wq_iadd F dX9_isSampled_24 rfl ?_
    obtain ⟨t1, ht1, wt1, h⟩ := wq_ix_some h
    refine wq_zald F (Nat.le_of_ble_eq_true rfl) wq_EM_there ht1 wt1 dX9_isSampled_25 rfl ?_
    refine wq_if_eq (tgt := 33) F dX9_isSampled_26 (by decide) rfl (fun hc => ?_) (fun hc => ?_)
    · replace h := wq_ift hc h
      refine wq_iconst (n := 0) F dX9_isSampled_33 rfl ?_
      refine wq_iadd F dX9_isSampled_34 rfl ?_
      refine wq_istore (L' := [some (.ref (b + 0)), some (.int (wq_I c1)), some (.int (wq_I c2)), some (.int (wq_I c3)), some (.int (wq_I (y4 + 0))), some (.int (wq_I y5))]) F dX9_isSampled_35 (by decide) rfl rfl rfl ?_
      refine wq_iinc (L' := [some (.ref (b + 0)), some (.int (wq_I c1)), some (.int (wq_I c2)), some (.int (wq_I c3)), some (.int (wq_I (y4 + 0))), some (.int (wq_I (y5 + 1)))]) F dX9_isSampled_37 rfl (by decide) rfl rfl rfl ?_
      refine wq_goto (tgt := 6) F dX9_isSampled_40 (by decide) ?_
      exact wq_lsub [some (.ref (b + 0)), some (.int (wq_I c1)), some (.int (wq_I c2)), some (.int (wq_I c3)), some (.int (wq_I (y4 + 0))), some (.int (wq_I (y5 + 1)))] (by simp [wq_sub]) (hrec (y4 + 0) (y5 + 1) S h)
    · replace h := wq_iff hc h
      refine wq_iconst (n := 1) F dX9_isSampled_29 rfl ?_
      refine wq_goto (tgt := 34) F dX9_isSampled_30 (by decide) ?_
      refine wq_iadd F dX9_isSampled_34 rfl ?_
      refine wq_istore (L' := [some (.ref (b + 0)), some (.int (wq_I c1)), some (.int (wq_I c2)), some (.int (wq_I c3)), some (.int (wq_I (y4 + 1))), some (.int (wq_I y5))]) F dX9_isSampled_35 (by decide) rfl rfl rfl ?_
      refine wq_iinc (L' := [some (.ref (b + 0)), some (.int (wq_I c1)), some (.int (wq_I c2)), some (.int (wq_I c3)), some (.int (wq_I (y4 + 1))), some (.int (wq_I (y5 + 1)))]) F dX9_isSampled_37 rfl (by decide) rfl rfl rfl ?_
      refine wq_goto (tgt := 6) F dX9_isSampled_40 (by decide) ?_
      exact wq_lsub [some (.ref (b + 0)), some (.int (wq_I c1)), some (.int (wq_I c2)), some (.int (wq_I c3)), some (.int (wq_I (y4 + 1))), some (.int (wq_I (y5 + 1)))] (by simp [wq_sub]) (hrec (y4 + 1) (y5 + 1) S h)
set_option maxHeartbeats 4000000 in
set_option maxRecDepth 100000 in
theorem tl_X9_isSampled_6 {p : Program} {l : Launch} {e : Env} {s : State} {m : MethodId} {args : Array Value} {below : List Frame} {meth : Method} {c : Code} {D : va_G} {Ar : Nat → ClassId} {b : Nat} (F : wq_Fr p s m args meth c cX9_isSampled 6 ((Option.some Jvm.ClassFile.FieldType.boolean)) "WharfQueryModel" D Ar) {r0 : Int} {S0 : wq_St} {c1 : Int} {c2 : Int} {c3 : Int} {kx : Int → wq_St → Option (Int × wq_St)} (hkx : ∀ (u4 : Int) (S : wq_St), kx u4 S = some (r0, S0) → wq_Z p l e (wq_rm 1 0 0) s m args below meth c D (wq_EM Ar b) b 32 6 (wq_Ab b 32) (MQ below (wq_Qc D (wq_EM Ar b) b 32 (some (.int (wq_I r0))) S0) args s 0 0 (wq_Ab b 32)) 0 0 43 [some (.ref (b + 0)), some (.int (wq_I c1)), some (.int (wq_I c2)), some (.int (wq_I c3)), some (.int (wq_I u4)), none] [] S) (n : Nat) (y4 : Int) (y5 : Int) (S : wq_St) (h : l_X9_isSampled_6 c1 c2 c3 kx n y4 y5 S = some (r0, S0)) : wq_Z p l e (wq_rm 1 0 0) s m args below meth c D (wq_EM Ar b) b 32 6 (wq_Ab b 32) (MQ below (wq_Qc D (wq_EM Ar b) b 32 (some (.int (wq_I r0))) S0) args s 0 0 (wq_Ab b 32)) 0 0 6 [some (.ref (b + 0)), some (.int (wq_I c1)), some (.int (wq_I c2)), some (.int (wq_I c3)), some (.int (wq_I y4)), some (.int (wq_I y5))] [] S :=
  wq_loop_ind (f := fun (g : Int × Int × wq_St → Option (Int × wq_St)) (x : Int × Int × wq_St) => b_X9_isSampled_6 c1 c2 c3 kx (fun y4 y5 S => g (y4, y5, S)) x.1 x.2.1 x.2.2) (P := (fun x : Int × Int × wq_St => wq_Z p l e (wq_rm 1 0 0) s m args below meth c D (wq_EM Ar b) b 32 6 (wq_Ab b 32) (MQ below (wq_Qc D (wq_EM Ar b) b 32 (some (.int (wq_I r0))) S0) args s 0 0 (wq_Ab b 32)) 0 0 6 [some (.ref (b + 0)), some (.int (wq_I c1)), some (.int (wq_I c2)), some (.int (wq_I c3)), some (.int (wq_I (x.1))), some (.int (wq_I (x.2.1)))] [] x.2.2)) (fun g hg x hx => tb_X9_isSampled_6 F hkx (fun y4 y5 S h => hg (y4, y5, S) h) x.1 x.2.1 x.2.2 hx) n (y4, y5, S) h
set_option maxHeartbeats 4000000 in
set_option maxRecDepth 100000 in
theorem ct_X9_isSampled {l : Launch} {D : va_G} {Ar : Nat → ClassId} {b : Nat} {x1 : Int} {x2 : Int} {x3 : Int} {S S0 : wq_St} {r0 : Int} (h : f_X9_isSampled x1 x2 x3 S = some (r0, S0)) : wq_Ct l yX9_isSampled (.code yX9_isSampled cX9_isSampled 6 ((Option.some Jvm.ClassFile.FieldType.boolean))) 1 D Ar (wq_EM Ar b) b 32 [.ref (b + 0), .int (wq_I x1), .int (wq_I x2), .int (wq_I x3)] S (some (.int (wq_I r0))) S0 := by
  refine wq_start "WharfQueryModel" [some (.ref (b + 0)), some (.int (wq_I x1)), some (.int (wq_I x2)), some (.int (wq_I x3)), none, none] (by decide +kernel) rfl (Nat.le_of_ble_eq_true rfl) rfl ?_
  intro p e s m args below meth c F
  unfold f_X9_isSampled at h
  refine wq_iconst (n := 0) F dX9_isSampled_0 rfl ?_
  refine wq_istore (L' := [some (.ref (b + 0)), some (.int (wq_I x1)), some (.int (wq_I x2)), some (.int (wq_I x3)), some (.int (wq_I 0)), none]) F dX9_isSampled_1 (by decide) rfl rfl rfl ?_
  refine wq_iconst (n := 0) F dX9_isSampled_3 rfl ?_
  refine wq_istore (L' := [some (.ref (b + 0)), some (.int (wq_I x1)), some (.int (wq_I x2)), some (.int (wq_I x3)), some (.int (wq_I 0)), some (.int (wq_I 0))]) F dX9_isSampled_4 (by decide) rfl rfl rfl ?_
  refine wq_lsub [some (.ref (b + 0)), some (.int (wq_I x1)), some (.int (wq_I x2)), some (.int (wq_I x3)), some (.int (wq_I 0)), some (.int (wq_I 0))] (by simp [wq_sub]) (tl_X9_isSampled_6 F (fun u2 S3 h => ?_) wq_fu 0 0 S h)
  refine wq_aload_n F dX9_isSampled_43 rfl rfl rfl ?_
  refine wq_g_X9_16 F dX9_isSampled_44 rfl ?_
  refine wq_bipush (n := 40) F dX9_isSampled_47 (by decide) rfl ?_
  refine wq_iload_n F dX9_isSampled_49 rfl rfl rfl ?_
  refine wq_imul F dX9_isSampled_50 rfl ?_
  refine wq_iload_n F dX9_isSampled_51 rfl rfl rfl ?_
  refine wq_iadd F dX9_isSampled_52 rfl ?_
  obtain ⟨t4, ht4, wt4, h⟩ := wq_ix_some h
  refine wq_zald F (Nat.le_of_ble_eq_true rfl) wq_EM_there ht4 wt4 dX9_isSampled_53 rfl ?_
  refine wq_if_eq (tgt := 68) F dX9_isSampled_54 (by decide) rfl (fun hc => ?_) (fun hc => ?_)
  · replace h := wq_ift hc h
    refine wq_iconst (n := 0) F dX9_isSampled_68 rfl ?_
    cases h
    exact wq_zret F (by decide) rfl rfl dX9_isSampled_69
  · replace h := wq_iff hc h
    refine wq_iload F dX9_isSampled_57 rfl rfl ?_
    refine wq_iload_n F dX9_isSampled_59 rfl rfl rfl ?_
    obtain ⟨hg, h⟩ := wq_gd_some h
    refine wq_irem (hy := hg) F dX9_isSampled_60 rfl ?_
    refine wq_if_ne (tgt := 68) F dX9_isSampled_61 (by decide) rfl (fun hc => ?_) (fun hc => ?_)
    · replace h := wq_iff hc h
      refine wq_iconst (n := 0) F dX9_isSampled_68 rfl ?_
      cases h
      exact wq_zret F (by decide) rfl rfl dX9_isSampled_69
    · replace h := wq_ift hc h
      refine wq_iconst (n := 1) F dX9_isSampled_64 rfl ?_
      refine wq_goto (tgt := 69) F dX9_isSampled_65 (by decide) ?_
      cases h
      exact wq_zret F (by decide) rfl rfl dX9_isSampled_69
set_option maxHeartbeats 4000000 in
set_option maxRecDepth 100000 in
theorem tb_X9_renews_173 {p : Program} {l : Launch} {e : Env} {s : State} {m : MethodId} {args : Array Value} {below : List Frame} {meth : Method} {c : Code} {D : va_G} {Ar : Nat → ClassId} {b : Nat} (F : wq_Fr p s m args meth c cX9_renews 10 ((Option.none : Option Jvm.ClassFile.FieldType)) "WharfQueryModel" D Ar) {r0 : Int} {S0 : wq_St} {c1 : Int} {c2 : Int} {c3 : Int} {c4 : Int} {c5 : Int} {c6 : Int} {c7 : Int} {kx : Int → wq_St → Option (Int × wq_St)} (hkx : ∀ (u8 : Int) (S : wq_St), kx u8 S = some (r0, S0) → wq_Z p l e (wq_rm 2 0 0) s m args below meth c D (wq_EM Ar b) b 32 10 (wq_Ab b 32) (MQ below (wq_Qc D (wq_EM Ar b) b 32 none S0) args s 0 0 (wq_Ab b 32)) 0 0 222 [some (.ref (b + 0)), some (.int (wq_I c1)), some (.int (wq_I c2)), some (.int (wq_I c3)), some (.int (wq_I c4)), some (.int (wq_I c5)), some (.int (wq_I c6)), none, some (.int (wq_I u8)), none] [] S) {rec : Int → Int → wq_St → Option (Int × wq_St)} (hrec : ∀ (y8 : Int) (y9 : Int) (S : wq_St), rec y8 y9 S = some (r0, S0) → wq_Z p l e (wq_rm 2 0 0) s m args below meth c D (wq_EM Ar b) b 32 10 (wq_Ab b 32) (MQ below (wq_Qc D (wq_EM Ar b) b 32 none S0) args s 0 0 (wq_Ab b 32)) 0 0 173 [some (.ref (b + 0)), some (.int (wq_I c1)), some (.int (wq_I c2)), some (.int (wq_I c3)), some (.int (wq_I c4)), some (.int (wq_I c5)), some (.int (wq_I c6)), some (.int (wq_I c7)), some (.int (wq_I y8)), some (.int (wq_I y9))] [] S) (y8 : Int) (y9 : Int) (S : wq_St) (h : b_X9_renews_173 c1 c2 c3 c4 c5 c6 c7 kx rec y8 y9 S = some (r0, S0)) : wq_Z p l e (wq_rm 2 0 0) s m args below meth c D (wq_EM Ar b) b 32 10 (wq_Ab b 32) (MQ below (wq_Qc D (wq_EM Ar b) b 32 none S0) args s 0 0 (wq_Ab b 32)) 0 0 173 [some (.ref (b + 0)), some (.int (wq_I c1)), some (.int (wq_I c2)), some (.int (wq_I c3)), some (.int (wq_I c4)), some (.int (wq_I c5)), some (.int (wq_I c6)), some (.int (wq_I c7)), some (.int (wq_I y8)), some (.int (wq_I y9))] [] S := by
  unfold b_X9_renews_173 at h
  refine wq_iload F dX9_renews_173 rfl rfl ?_
  refine wq_iload F dX9_renews_175 rfl rfl ?_
  refine wq_icmp_ge (tgt := 222) F dX9_renews_177 (by decide) rfl (fun hc => ?_) (fun hc => ?_)
  · replace h := wq_ift hc h
    exact wq_lsub [some (.ref (b + 0)), some (.int (wq_I c1)), some (.int (wq_I c2)), some (.int (wq_I c3)), some (.int (wq_I c4)), some (.int (wq_I c5)), some (.int (wq_I c6)), none, some (.int (wq_I y8)), none] (by simp [wq_sub]) (hkx y8 S h)
  · replace h := wq_iff hc h
    refine wq_iload F dX9_renews_180 rfl rfl ?_
    refine wq_if_eq (tgt := 213) F dX9_renews_182 (by decide) rfl (fun hc => ?_) (fun hc => ?_)
    · replace h := wq_ift hc h
      refine wq_iconst (n := 0) F dX9_renews_213 rfl ?_
      refine wq_istore (L' := [some (.ref (b + 0)), some (.int (wq_I c1)), some (.int (wq_I c2)), some (.int (wq_I c3)), some (.int (wq_I c4)), some (.int (wq_I c5)), some (.int (wq_I c6)), some (.int (wq_I c7)), some (.int (wq_I 0)), some (.int (wq_I y9))]) F dX9_renews_214 (by decide) rfl rfl rfl ?_
      refine wq_iinc (L' := [some (.ref (b + 0)), some (.int (wq_I c1)), some (.int (wq_I c2)), some (.int (wq_I c3)), some (.int (wq_I c4)), some (.int (wq_I c5)), some (.int (wq_I c6)), some (.int (wq_I c7)), some (.int (wq_I 0)), some (.int (wq_I (y9 + 1)))]) F dX9_renews_216 rfl (by decide) rfl rfl rfl ?_
      refine wq_goto (tgt := 173) F dX9_renews_219 (by decide) ?_
      exact wq_lsub [some (.ref (b + 0)), some (.int (wq_I c1)), some (.int (wq_I c2)), some (.int (wq_I c3)), some (.int (wq_I c4)), some (.int (wq_I c5)), some (.int (wq_I c6)), some (.int (wq_I c7)), some (.int (wq_I 0)), some (.int (wq_I (y9 + 1)))] (by simp [wq_sub]) (hrec 0 (y9 + 1) S h)
    · replace h := wq_iff hc h
      refine wq_aload_n F dX9_renews_185 rfl rfl rfl ?_
      refine wq_iload_n F dX9_renews_186 rfl rfl rfl ?_
      refine wq_iload F dX9_renews_187 rfl rfl ?_
      refine wq_iload_n F dX9_renews_189 rfl rfl rfl ?_
      obtain ⟨r21, S22, h1r21, h⟩ := wq_bd_some h
      refine wq_callV (As := [.int (wq_I c1), .int (wq_I y9), .int (wq_I c2)]) F lk_X9_156 (ct_X9_isSampled h1r21) ⟨Nat.le_of_ble_eq_true rfl, Nat.le_of_ble_eq_true rfl⟩ ⟨Nat.le_of_ble_eq_true rfl, Nat.le_of_ble_eq_true rfl⟩ (Nat.le_of_ble_eq_true rfl) rfl rfl (fun _ h9 => h9) rfl rfl (Nat.le_of_ble_eq_true rfl) dX9_renews_190 rfl ?_
      refine wq_if_eq (tgt := 209) F dX9_renews_193 (by decide) rfl (fun hc => ?_) (fun hc => ?_)
      · replace h := wq_ift hc h
        refine wq_iconst (n := 1) F dX9_renews_209 rfl ?_
        refine wq_goto (tgt := 214) F dX9_renews_210 (by decide) ?_
        refine wq_istore (L' := [some (.ref (b + 0)), some (.int (wq_I c1)), some (.int (wq_I c2)), some (.int (wq_I c3)), some (.int (wq_I c4)), some (.int (wq_I c5)), some (.int (wq_I c6)), some (.int (wq_I c7)), some (.int (wq_I 1)), some (.int (wq_I y9))]) F dX9_renews_214 (by decide) rfl rfl rfl ?_
        refine wq_iinc (L' := [some (.ref (b + 0)), some (.int (wq_I c1)), some (.int (wq_I c2)), some (.int (wq_I c3)), some (.int (wq_I c4)), some (.int (wq_I c5)), some (.int (wq_I c6)), some (.int (wq_I c7)), some (.int (wq_I 1)), some (.int (wq_I (y9 + 1)))]) F dX9_renews_216 rfl (by decide) rfl rfl rfl ?_
        refine wq_goto (tgt := 173) F dX9_renews_219 (by decide) ?_
        exact wq_lsub [some (.ref (b + 0)), some (.int (wq_I c1)), some (.int (wq_I c2)), some (.int (wq_I c3)), some (.int (wq_I c4)), some (.int (wq_I c5)), some (.int (wq_I c6)), some (.int (wq_I c7)), some (.int (wq_I 1)), some (.int (wq_I (y9 + 1)))] (by simp [wq_sub]) (hrec 1 (y9 + 1) S22 h)
      · replace h := wq_iff hc h
        refine wq_aload_n F dX9_renews_196 rfl rfl rfl ?_
        refine wq_iload_n F dX9_renews_197 rfl rfl rfl ?_
        refine wq_iload F dX9_renews_198 rfl rfl ?_
        refine wq_iload_n F dX9_renews_200 rfl rfl rfl ?_
        obtain ⟨r23, S24, h1r23, h⟩ := wq_bd_some h
        refine wq_callV (As := [.int (wq_I c1), .int (wq_I y9), .int (wq_I c3)]) F lk_X9_152 (ct_X9_valueAt h1r23) ⟨Nat.le_of_ble_eq_true rfl, Nat.le_of_ble_eq_true rfl⟩ ⟨Nat.le_of_ble_eq_true rfl, Nat.le_of_ble_eq_true rfl⟩ (Nat.le_of_ble_eq_true rfl) rfl rfl (fun _ h9 => h9) rfl rfl (Nat.le_of_ble_eq_true rfl) dX9_renews_201 rfl ?_
        refine wq_iload F dX9_renews_204 rfl rfl ?_
        refine wq_icmp_eq (tgt := 213) F dX9_renews_206 (by decide) rfl (fun hc => ?_) (fun hc => ?_)
        · replace h := wq_ift hc h
          refine wq_iconst (n := 0) F dX9_renews_213 rfl ?_
          refine wq_istore (L' := [some (.ref (b + 0)), some (.int (wq_I c1)), some (.int (wq_I c2)), some (.int (wq_I c3)), some (.int (wq_I c4)), some (.int (wq_I c5)), some (.int (wq_I c6)), some (.int (wq_I c7)), some (.int (wq_I 0)), some (.int (wq_I y9))]) F dX9_renews_214 (by decide) rfl rfl rfl ?_
          refine wq_iinc (L' := [some (.ref (b + 0)), some (.int (wq_I c1)), some (.int (wq_I c2)), some (.int (wq_I c3)), some (.int (wq_I c4)), some (.int (wq_I c5)), some (.int (wq_I c6)), some (.int (wq_I c7)), some (.int (wq_I 0)), some (.int (wq_I (y9 + 1)))]) F dX9_renews_216 rfl (by decide) rfl rfl rfl ?_
          refine wq_goto (tgt := 173) F dX9_renews_219 (by decide) ?_
          exact wq_lsub [some (.ref (b + 0)), some (.int (wq_I c1)), some (.int (wq_I c2)), some (.int (wq_I c3)), some (.int (wq_I c4)), some (.int (wq_I c5)), some (.int (wq_I c6)), some (.int (wq_I c7)), some (.int (wq_I 0)), some (.int (wq_I (y9 + 1)))] (by simp [wq_sub]) (hrec 0 (y9 + 1) S24 h)
        · replace h := wq_iff hc h
          refine wq_iconst (n := 1) F dX9_renews_209 rfl ?_
          refine wq_goto (tgt := 214) F dX9_renews_210 (by decide) ?_
          refine wq_istore (L' := [some (.ref (b + 0)), some (.int (wq_I c1)), some (.int (wq_I c2)), some (.int (wq_I c3)), some (.int (wq_I c4)), some (.int (wq_I c5)), some (.int (wq_I c6)), some (.int (wq_I c7)), some (.int (wq_I 1)), some (.int (wq_I y9))]) F dX9_renews_214 (by decide) rfl rfl rfl ?_
          refine wq_iinc (L' := [some (.ref (b + 0)), some (.int (wq_I c1)), some (.int (wq_I c2)), some (.int (wq_I c3)), some (.int (wq_I c4)), some (.int (wq_I c5)), some (.int (wq_I c6)), some (.int (wq_I c7)), some (.int (wq_I 1)), some (.int (wq_I (y9 + 1)))]) F dX9_renews_216 rfl (by decide) rfl rfl rfl ?_
          refine wq_goto (tgt := 173) F dX9_renews_219 (by decide) ?_
          exact wq_lsub [some (.ref (b + 0)), some (.int (wq_I c1)), some (.int (wq_I c2)), some (.int (wq_I c3)), some (.int (wq_I c4)), some (.int (wq_I c5)), some (.int (wq_I c6)), some (.int (wq_I c7)), some (.int (wq_I 1)), some (.int (wq_I (y9 + 1)))] (by simp [wq_sub]) (hrec 1 (y9 + 1) S24 h)
set_option maxHeartbeats 4000000 in
set_option maxRecDepth 100000 in
theorem tl_X9_renews_173 {p : Program} {l : Launch} {e : Env} {s : State} {m : MethodId} {args : Array Value} {below : List Frame} {meth : Method} {c : Code} {D : va_G} {Ar : Nat → ClassId} {b : Nat} (F : wq_Fr p s m args meth c cX9_renews 10 ((Option.none : Option Jvm.ClassFile.FieldType)) "WharfQueryModel" D Ar) {r0 : Int} {S0 : wq_St} {c1 : Int} {c2 : Int} {c3 : Int} {c4 : Int} {c5 : Int} {c6 : Int} {c7 : Int} {kx : Int → wq_St → Option (Int × wq_St)} (hkx : ∀ (u8 : Int) (S : wq_St), kx u8 S = some (r0, S0) → wq_Z p l e (wq_rm 2 0 0) s m args below meth c D (wq_EM Ar b) b 32 10 (wq_Ab b 32) (MQ below (wq_Qc D (wq_EM Ar b) b 32 none S0) args s 0 0 (wq_Ab b 32)) 0 0 222 [some (.ref (b + 0)), some (.int (wq_I c1)), some (.int (wq_I c2)), some (.int (wq_I c3)), some (.int (wq_I c4)), some (.int (wq_I c5)), some (.int (wq_I c6)), none, some (.int (wq_I u8)), none] [] S) (n : Nat) (y8 : Int) (y9 : Int) (S : wq_St) (h : l_X9_renews_173 c1 c2 c3 c4 c5 c6 c7 kx n y8 y9 S = some (r0, S0)) : wq_Z p l e (wq_rm 2 0 0) s m args below meth c D (wq_EM Ar b) b 32 10 (wq_Ab b 32) (MQ below (wq_Qc D (wq_EM Ar b) b 32 none S0) args s 0 0 (wq_Ab b 32)) 0 0 173 [some (.ref (b + 0)), some (.int (wq_I c1)), some (.int (wq_I c2)), some (.int (wq_I c3)), some (.int (wq_I c4)), some (.int (wq_I c5)), some (.int (wq_I c6)), some (.int (wq_I c7)), some (.int (wq_I y8)), some (.int (wq_I y9))] [] S :=
  wq_loop_ind (f := fun (g : Int × Int × wq_St → Option (Int × wq_St)) (x : Int × Int × wq_St) => b_X9_renews_173 c1 c2 c3 c4 c5 c6 c7 kx (fun y8 y9 S => g (y8, y9, S)) x.1 x.2.1 x.2.2) (P := (fun x : Int × Int × wq_St => wq_Z p l e (wq_rm 2 0 0) s m args below meth c D (wq_EM Ar b) b 32 10 (wq_Ab b 32) (MQ below (wq_Qc D (wq_EM Ar b) b 32 none S0) args s 0 0 (wq_Ab b 32)) 0 0 173 [some (.ref (b + 0)), some (.int (wq_I c1)), some (.int (wq_I c2)), some (.int (wq_I c3)), some (.int (wq_I c4)), some (.int (wq_I c5)), some (.int (wq_I c6)), some (.int (wq_I c7)), some (.int (wq_I (x.1))), some (.int (wq_I (x.2.1)))] [] x.2.2)) (fun g hg x hx => tb_X9_renews_173 F hkx (fun y8 y9 S h => hg (y8, y9, S) h) x.1 x.2.1 x.2.2 hx) n (y8, y9, S) h
set_option maxHeartbeats 4000000 in
set_option maxRecDepth 100000 in
theorem tj_X9_renews_163 {p : Program} {l : Launch} {e : Env} {s : State} {m : MethodId} {args : Array Value} {below : List Frame} {meth : Method} {c : Code} {D : va_G} {Ar : Nat → ClassId} {b : Nat} (F : wq_Fr p s m args meth c cX9_renews 10 ((Option.none : Option Jvm.ClassFile.FieldType)) "WharfQueryModel" D Ar) {r0 : Int} {S0 : wq_St} {kx : wq_St → Option (Int × wq_St)} {rec : Int → Int → wq_St → Option (Int × wq_St)} {j1 : Int} {j2 : Int} {j3 : Int} {j4 : Int} {j6 : Int} {j7 : Int} (hkx : ∀ (S : wq_St), kx S = some (r0, S0) → wq_Z p l e (wq_rm 2 0 0) s m args below meth c D (wq_EM Ar b) b 32 10 (wq_Ab b 32) (MQ below (wq_Qc D (wq_EM Ar b) b 32 none S0) args s 0 0 (wq_Ab b 32)) 0 0 248 [some (.ref (b + 0)), some (.int (wq_I j1)), some (.int (wq_I j2)), some (.int (wq_I j3)), some (.int (wq_I j4)), none, none, none, none, none] [] S) (hrec : ∀ (y5 : Int) (y6 : Int) (S : wq_St), rec y5 y6 S = some (r0, S0) → wq_Z p l e (wq_rm 2 0 0) s m args below meth c D (wq_EM Ar b) b 32 10 (wq_Ab b 32) (MQ below (wq_Qc D (wq_EM Ar b) b 32 none S0) args s 0 0 (wq_Ab b 32)) 0 0 60 [some (.ref (b + 0)), some (.int (wq_I j1)), some (.int (wq_I j2)), some (.int (wq_I j3)), some (.int (wq_I j4)), some (.int (wq_I y5)), some (.int (wq_I y6)), none, none, none] [] S) (z0 : Int) (z1 : Int) (S : wq_St) (h : j_X9_renews_163 kx rec j1 j2 j3 j4 j6 j7 z0 z1 S = some (r0, S0)) : wq_Z p l e (wq_rm 2 0 0) s m args below meth c D (wq_EM Ar b) b 32 10 (wq_Ab b 32) (MQ below (wq_Qc D (wq_EM Ar b) b 32 none S0) args s 0 0 (wq_Ab b 32)) 0 0 163 [some (.ref (b + 0)), some (.int (wq_I j1)), some (.int (wq_I j2)), some (.int (wq_I j3)), some (.int (wq_I j4)), none, some (.int (wq_I j6)), some (.int (wq_I j7)), none, none] [.int (wq_I z0), .int (wq_I z1), .ref (b + 9)] S := by
  unfold j_X9_renews_163 at h
  obtain ⟨t19, ht19, wt19, h⟩ := wq_ix_some h
  refine wq_iast F (Nat.le_of_ble_eq_true rfl) wq_EM_greatest wq_EM_greatest ht19 wt19 ⟨Nat.le_add_right _ _, Nat.add_lt_add_left (Nat.le_of_ble_eq_true rfl) b⟩ dX9_renews_163 rfl ?_
  obtain ⟨S20, eS20, h⟩ := wq_lt_some h
  refine wq_namS eS20 ?_
  refine wq_iconst (n := 1) F dX9_renews_164 rfl ?_
  refine wq_istore (L' := [some (.ref (b + 0)), some (.int (wq_I j1)), some (.int (wq_I j2)), some (.int (wq_I j3)), some (.int (wq_I j4)), some (.int (wq_I 1)), some (.int (wq_I j6)), some (.int (wq_I j7)), none, none]) F dX9_renews_165 (by decide) rfl rfl rfl ?_
  refine wq_iconst (n := 1) F dX9_renews_167 rfl ?_
  refine wq_istore (L' := [some (.ref (b + 0)), some (.int (wq_I j1)), some (.int (wq_I j2)), some (.int (wq_I j3)), some (.int (wq_I j4)), some (.int (wq_I 1)), some (.int (wq_I j6)), some (.int (wq_I j7)), some (.int (wq_I 1)), none]) F dX9_renews_168 (by decide) rfl rfl rfl ?_
  refine wq_iconst (n := 0) F dX9_renews_170 rfl ?_
  refine wq_istore (L' := [some (.ref (b + 0)), some (.int (wq_I j1)), some (.int (wq_I j2)), some (.int (wq_I j3)), some (.int (wq_I j4)), some (.int (wq_I 1)), some (.int (wq_I j6)), some (.int (wq_I j7)), some (.int (wq_I 1)), some (.int (wq_I 0))]) F dX9_renews_171 (by decide) rfl rfl rfl ?_
  refine wq_lsub [some (.ref (b + 0)), some (.int (wq_I j1)), some (.int (wq_I j2)), some (.int (wq_I j3)), some (.int (wq_I j4)), some (.int (wq_I 1)), some (.int (wq_I j6)), some (.int (wq_I j7)), some (.int (wq_I 1)), some (.int (wq_I 0))] (by simp [wq_sub]) (tl_X9_renews_173 F (fun u25 S26 h => ?_) wq_fu 1 0 S20 h)
  refine wq_aload_n F dX9_renews_222 rfl rfl rfl ?_
  refine wq_g_X9_29 F dX9_renews_223 rfl ?_
  refine wq_iload F dX9_renews_226 rfl rfl ?_
  refine wq_dup211 F rfl rfl dX9_renews_228 rfl ?_
  obtain ⟨t27, ht27, wt27, h⟩ := wq_ix_some h
  refine wq_iald F (Nat.le_of_ble_eq_true rfl) wq_EM_unlike ht27 wt27 dX9_renews_229 rfl ?_
  refine wq_iload F dX9_renews_230 rfl rfl ?_
  refine wq_if_eq (tgt := 239) F dX9_renews_232 (by decide) rfl (fun hc => ?_) (fun hc => ?_)
  · replace h := wq_ift hc h
    refine wq_iconst (n := 0) F dX9_renews_239 rfl ?_
    refine wq_iadd F dX9_renews_240 rfl ?_
    obtain ⟨t28, ht28, wt28, h⟩ := wq_ix_some h
    refine wq_iast F (Nat.le_of_ble_eq_true rfl) wq_EM_unlike wq_EM_unlike ht28 wt28 ⟨Nat.le_add_right _ _, Nat.add_lt_add_left (Nat.le_of_ble_eq_true rfl) b⟩ dX9_renews_241 rfl ?_
    obtain ⟨S29, eS29, h⟩ := wq_lt_some h
    refine wq_namS eS29 ?_
    refine wq_iinc (L' := [some (.ref (b + 0)), some (.int (wq_I j1)), some (.int (wq_I j2)), some (.int (wq_I j3)), some (.int (wq_I j4)), some (.int (wq_I 1)), some (.int (wq_I (j6 + 1))), none, some (.int (wq_I u25)), none]) F dX9_renews_242 rfl (by decide) rfl rfl rfl ?_
    refine wq_goto (tgt := 60) F dX9_renews_245 (by decide) ?_
    exact wq_lsub [some (.ref (b + 0)), some (.int (wq_I j1)), some (.int (wq_I j2)), some (.int (wq_I j3)), some (.int (wq_I j4)), some (.int (wq_I 1)), some (.int (wq_I (j6 + 1))), none, none, none] (by simp [wq_sub]) (hrec 1 (j6 + 1) S29 h)
  · replace h := wq_iff hc h
    refine wq_iload_n F dX9_renews_235 rfl rfl rfl ?_
    refine wq_goto (tgt := 240) F dX9_renews_236 (by decide) ?_
    refine wq_iadd F dX9_renews_240 rfl ?_
    obtain ⟨t30, ht30, wt30, h⟩ := wq_ix_some h
    refine wq_iast F (Nat.le_of_ble_eq_true rfl) wq_EM_unlike wq_EM_unlike ht30 wt30 ⟨Nat.le_add_right _ _, Nat.add_lt_add_left (Nat.le_of_ble_eq_true rfl) b⟩ dX9_renews_241 rfl ?_
    obtain ⟨S31, eS31, h⟩ := wq_lt_some h
    refine wq_namS eS31 ?_
    refine wq_iinc (L' := [some (.ref (b + 0)), some (.int (wq_I j1)), some (.int (wq_I j2)), some (.int (wq_I j3)), some (.int (wq_I j4)), some (.int (wq_I 1)), some (.int (wq_I (j6 + 1))), none, some (.int (wq_I u25)), none]) F dX9_renews_242 rfl (by decide) rfl rfl rfl ?_
    refine wq_goto (tgt := 60) F dX9_renews_245 (by decide) ?_
    exact wq_lsub [some (.ref (b + 0)), some (.int (wq_I j1)), some (.int (wq_I j2)), some (.int (wq_I j3)), some (.int (wq_I j4)), some (.int (wq_I 1)), some (.int (wq_I (j6 + 1))), none, none, none] (by simp [wq_sub]) (hrec 1 (j6 + 1) S31 h)
set_option maxHeartbeats 4000000 in
set_option maxRecDepth 100000 in
theorem tj_X9_renews_151 {p : Program} {l : Launch} {e : Env} {s : State} {m : MethodId} {args : Array Value} {below : List Frame} {meth : Method} {c : Code} {D : va_G} {Ar : Nat → ClassId} {b : Nat} (F : wq_Fr p s m args meth c cX9_renews 10 ((Option.none : Option Jvm.ClassFile.FieldType)) "WharfQueryModel" D Ar) {r0 : Int} {S0 : wq_St} {kx : wq_St → Option (Int × wq_St)} {rec : Int → Int → wq_St → Option (Int × wq_St)} {j1 : Int} {j2 : Int} {j3 : Int} {j4 : Int} {j6 : Int} {j7 : Int} (hkx : ∀ (S : wq_St), kx S = some (r0, S0) → wq_Z p l e (wq_rm 2 0 0) s m args below meth c D (wq_EM Ar b) b 32 10 (wq_Ab b 32) (MQ below (wq_Qc D (wq_EM Ar b) b 32 none S0) args s 0 0 (wq_Ab b 32)) 0 0 248 [some (.ref (b + 0)), some (.int (wq_I j1)), some (.int (wq_I j2)), some (.int (wq_I j3)), some (.int (wq_I j4)), none, none, none, none, none] [] S) (hrec : ∀ (y5 : Int) (y6 : Int) (S : wq_St), rec y5 y6 S = some (r0, S0) → wq_Z p l e (wq_rm 2 0 0) s m args below meth c D (wq_EM Ar b) b 32 10 (wq_Ab b 32) (MQ below (wq_Qc D (wq_EM Ar b) b 32 none S0) args s 0 0 (wq_Ab b 32)) 0 0 60 [some (.ref (b + 0)), some (.int (wq_I j1)), some (.int (wq_I j2)), some (.int (wq_I j3)), some (.int (wq_I j4)), some (.int (wq_I y5)), some (.int (wq_I y6)), none, none, none] [] S) (z0 : Int) (S : wq_St) (h : j_X9_renews_151 kx rec j1 j2 j3 j4 j6 j7 z0 S = some (r0, S0)) : wq_Z p l e (wq_rm 2 0 0) s m args below meth c D (wq_EM Ar b) b 32 10 (wq_Ab b 32) (MQ below (wq_Qc D (wq_EM Ar b) b 32 none S0) args s 0 0 (wq_Ab b 32)) 0 0 151 [some (.ref (b + 0)), some (.int (wq_I j1)), some (.int (wq_I j2)), some (.int (wq_I j3)), some (.int (wq_I j4)), none, some (.int (wq_I j6)), some (.int (wq_I j7)), none, none] [.int (wq_I z0), .ref (b + 9)] S := by
  unfold j_X9_renews_151 at h
  refine wq_iload F dX9_renews_151 rfl rfl ?_
  refine wq_goto (tgt := 163) F dX9_renews_153 (by decide) ?_
  exact wq_lsub [some (.ref (b + 0)), some (.int (wq_I j1)), some (.int (wq_I j2)), some (.int (wq_I j3)), some (.int (wq_I j4)), none, some (.int (wq_I j6)), some (.int (wq_I j7)), none, none] (by simp [wq_sub]) (tj_X9_renews_163 F hkx hrec j7 z0 S h)
set_option maxHeartbeats 4000000 in
set_option maxRecDepth 100000 in
theorem tj_X9_renews_127 {p : Program} {l : Launch} {e : Env} {s : State} {m : MethodId} {args : Array Value} {below : List Frame} {meth : Method} {c : Code} {D : va_G} {Ar : Nat → ClassId} {b : Nat} (F : wq_Fr p s m args meth c cX9_renews 10 ((Option.none : Option Jvm.ClassFile.FieldType)) "WharfQueryModel" D Ar) {r0 : Int} {S0 : wq_St} {kx : wq_St → Option (Int × wq_St)} {rec : Int → Int → wq_St → Option (Int × wq_St)} {j1 : Int} {j2 : Int} {j3 : Int} {j4 : Int} {j5 : Int} {j6 : Int} {j7 : Int} (hkx : ∀ (S : wq_St), kx S = some (r0, S0) → wq_Z p l e (wq_rm 2 0 0) s m args below meth c D (wq_EM Ar b) b 32 10 (wq_Ab b 32) (MQ below (wq_Qc D (wq_EM Ar b) b 32 none S0) args s 0 0 (wq_Ab b 32)) 0 0 248 [some (.ref (b + 0)), some (.int (wq_I j1)), some (.int (wq_I j2)), some (.int (wq_I j3)), some (.int (wq_I j4)), none, none, none, none, none] [] S) (hrec : ∀ (y5 : Int) (y6 : Int) (S : wq_St), rec y5 y6 S = some (r0, S0) → wq_Z p l e (wq_rm 2 0 0) s m args below meth c D (wq_EM Ar b) b 32 10 (wq_Ab b 32) (MQ below (wq_Qc D (wq_EM Ar b) b 32 none S0) args s 0 0 (wq_Ab b 32)) 0 0 60 [some (.ref (b + 0)), some (.int (wq_I j1)), some (.int (wq_I j2)), some (.int (wq_I j3)), some (.int (wq_I j4)), some (.int (wq_I y5)), some (.int (wq_I y6)), none, none, none] [] S) (z0 : Int) (z1 : Int) (S : wq_St) (h : j_X9_renews_127 kx rec j1 j2 j3 j4 j5 j6 j7 z0 z1 S = some (r0, S0)) : wq_Z p l e (wq_rm 2 0 0) s m args below meth c D (wq_EM Ar b) b 32 10 (wq_Ab b 32) (MQ below (wq_Qc D (wq_EM Ar b) b 32 none S0) args s 0 0 (wq_Ab b 32)) 0 0 127 [some (.ref (b + 0)), some (.int (wq_I j1)), some (.int (wq_I j2)), some (.int (wq_I j3)), some (.int (wq_I j4)), some (.int (wq_I j5)), some (.int (wq_I j6)), some (.int (wq_I j7)), none, none] [.int (wq_I z0), .int (wq_I z1), .ref (b + 8)] S := by
  unfold j_X9_renews_127 at h
  obtain ⟨t17, ht17, wt17, h⟩ := wq_ix_some h
  refine wq_iast F (Nat.le_of_ble_eq_true rfl) wq_EM_least wq_EM_least ht17 wt17 ⟨Nat.le_add_right _ _, Nat.add_lt_add_left (Nat.le_of_ble_eq_true rfl) b⟩ dX9_renews_127 rfl ?_
  obtain ⟨S18, eS18, h⟩ := wq_lt_some h
  refine wq_namS eS18 ?_
  refine wq_aload_n F dX9_renews_128 rfl rfl rfl ?_
  refine wq_g_X9_35 F dX9_renews_129 rfl ?_
  refine wq_iload F dX9_renews_132 rfl rfl ?_
  refine wq_iload F dX9_renews_134 rfl rfl ?_
  refine wq_if_eq (tgt := 151) F dX9_renews_136 (by decide) rfl (fun hc => ?_) (fun hc => ?_)
  · replace h := wq_ift hc h
    exact wq_lsub [some (.ref (b + 0)), some (.int (wq_I j1)), some (.int (wq_I j2)), some (.int (wq_I j3)), some (.int (wq_I j4)), none, some (.int (wq_I j6)), some (.int (wq_I j7)), none, none] (by simp [wq_sub]) (tj_X9_renews_151 F hkx hrec j4 S18 h)
  · replace h := wq_iff hc h
    refine wq_iload F dX9_renews_139 rfl rfl ?_
    refine wq_aload_n F dX9_renews_141 rfl rfl rfl ?_
    refine wq_g_X9_35 F dX9_renews_142 rfl ?_
    refine wq_iload F dX9_renews_145 rfl rfl ?_
    obtain ⟨t32, ht32, wt32, h⟩ := wq_ix_some h
    refine wq_iald F (Nat.le_of_ble_eq_true rfl) wq_EM_greatest ht32 wt32 dX9_renews_147 rfl ?_
    refine wq_icmp_le (tgt := 156) F dX9_renews_148 (by decide) rfl (fun hc => ?_) (fun hc => ?_)
    · replace h := wq_ift hc h
      refine wq_aload_n F dX9_renews_156 rfl rfl rfl ?_
      refine wq_g_X9_35 F dX9_renews_157 rfl ?_
      refine wq_iload F dX9_renews_160 rfl rfl ?_
      obtain ⟨t33, ht33, wt33, h⟩ := wq_ix_some h
      refine wq_iald F (Nat.le_of_ble_eq_true rfl) wq_EM_greatest ht33 wt33 dX9_renews_162 rfl ?_
      exact wq_lsub [some (.ref (b + 0)), some (.int (wq_I j1)), some (.int (wq_I j2)), some (.int (wq_I j3)), some (.int (wq_I j4)), none, some (.int (wq_I j6)), some (.int (wq_I j7)), none, none] (by simp [wq_sub]) (tj_X9_renews_163 F hkx hrec (S18 9 t33) j4 S18 h)
    · replace h := wq_iff hc h
      exact wq_lsub [some (.ref (b + 0)), some (.int (wq_I j1)), some (.int (wq_I j2)), some (.int (wq_I j3)), some (.int (wq_I j4)), none, some (.int (wq_I j6)), some (.int (wq_I j7)), none, none] (by simp [wq_sub]) (tj_X9_renews_151 F hkx hrec j4 S18 h)
set_option maxHeartbeats 4000000 in
set_option maxRecDepth 100000 in
theorem tj_X9_renews_115 {p : Program} {l : Launch} {e : Env} {s : State} {m : MethodId} {args : Array Value} {below : List Frame} {meth : Method} {c : Code} {D : va_G} {Ar : Nat → ClassId} {b : Nat} (F : wq_Fr p s m args meth c cX9_renews 10 ((Option.none : Option Jvm.ClassFile.FieldType)) "WharfQueryModel" D Ar) {r0 : Int} {S0 : wq_St} {kx : wq_St → Option (Int × wq_St)} {rec : Int → Int → wq_St → Option (Int × wq_St)} {j1 : Int} {j2 : Int} {j3 : Int} {j4 : Int} {j5 : Int} {j6 : Int} {j7 : Int} (hkx : ∀ (S : wq_St), kx S = some (r0, S0) → wq_Z p l e (wq_rm 2 0 0) s m args below meth c D (wq_EM Ar b) b 32 10 (wq_Ab b 32) (MQ below (wq_Qc D (wq_EM Ar b) b 32 none S0) args s 0 0 (wq_Ab b 32)) 0 0 248 [some (.ref (b + 0)), some (.int (wq_I j1)), some (.int (wq_I j2)), some (.int (wq_I j3)), some (.int (wq_I j4)), none, none, none, none, none] [] S) (hrec : ∀ (y5 : Int) (y6 : Int) (S : wq_St), rec y5 y6 S = some (r0, S0) → wq_Z p l e (wq_rm 2 0 0) s m args below meth c D (wq_EM Ar b) b 32 10 (wq_Ab b 32) (MQ below (wq_Qc D (wq_EM Ar b) b 32 none S0) args s 0 0 (wq_Ab b 32)) 0 0 60 [some (.ref (b + 0)), some (.int (wq_I j1)), some (.int (wq_I j2)), some (.int (wq_I j3)), some (.int (wq_I j4)), some (.int (wq_I y5)), some (.int (wq_I y6)), none, none, none] [] S) (z0 : Int) (S : wq_St) (h : j_X9_renews_115 kx rec j1 j2 j3 j4 j5 j6 j7 z0 S = some (r0, S0)) : wq_Z p l e (wq_rm 2 0 0) s m args below meth c D (wq_EM Ar b) b 32 10 (wq_Ab b 32) (MQ below (wq_Qc D (wq_EM Ar b) b 32 none S0) args s 0 0 (wq_Ab b 32)) 0 0 115 [some (.ref (b + 0)), some (.int (wq_I j1)), some (.int (wq_I j2)), some (.int (wq_I j3)), some (.int (wq_I j4)), some (.int (wq_I j5)), some (.int (wq_I j6)), some (.int (wq_I j7)), none, none] [.int (wq_I z0), .ref (b + 8)] S := by
  unfold j_X9_renews_115 at h
  refine wq_iload F dX9_renews_115 rfl rfl ?_
  refine wq_goto (tgt := 127) F dX9_renews_117 (by decide) ?_
  exact wq_lsub [some (.ref (b + 0)), some (.int (wq_I j1)), some (.int (wq_I j2)), some (.int (wq_I j3)), some (.int (wq_I j4)), some (.int (wq_I j5)), some (.int (wq_I j6)), some (.int (wq_I j7)), none, none] (by simp [wq_sub]) (tj_X9_renews_127 F hkx hrec j7 z0 S h)
set_option maxHeartbeats 4000000 in
set_option maxRecDepth 100000 in
theorem tb_X9_renews_60 {p : Program} {l : Launch} {e : Env} {s : State} {m : MethodId} {args : Array Value} {below : List Frame} {meth : Method} {c : Code} {D : va_G} {Ar : Nat → ClassId} {b : Nat} (F : wq_Fr p s m args meth c cX9_renews 10 ((Option.none : Option Jvm.ClassFile.FieldType)) "WharfQueryModel" D Ar) {r0 : Int} {S0 : wq_St} {c1 : Int} {c2 : Int} {c3 : Int} {c4 : Int} {kx : wq_St → Option (Int × wq_St)} (hkx : ∀ (S : wq_St), kx S = some (r0, S0) → wq_Z p l e (wq_rm 2 0 0) s m args below meth c D (wq_EM Ar b) b 32 10 (wq_Ab b 32) (MQ below (wq_Qc D (wq_EM Ar b) b 32 none S0) args s 0 0 (wq_Ab b 32)) 0 0 248 [some (.ref (b + 0)), some (.int (wq_I c1)), some (.int (wq_I c2)), some (.int (wq_I c3)), some (.int (wq_I c4)), none, none, none, none, none] [] S) {rec : Int → Int → wq_St → Option (Int × wq_St)} (hrec : ∀ (y5 : Int) (y6 : Int) (S : wq_St), rec y5 y6 S = some (r0, S0) → wq_Z p l e (wq_rm 2 0 0) s m args below meth c D (wq_EM Ar b) b 32 10 (wq_Ab b 32) (MQ below (wq_Qc D (wq_EM Ar b) b 32 none S0) args s 0 0 (wq_Ab b 32)) 0 0 60 [some (.ref (b + 0)), some (.int (wq_I c1)), some (.int (wq_I c2)), some (.int (wq_I c3)), some (.int (wq_I c4)), some (.int (wq_I y5)), some (.int (wq_I y6)), none, none, none] [] S) (y5 : Int) (y6 : Int) (S : wq_St) (h : b_X9_renews_60 c1 c2 c3 c4 kx rec y5 y6 S = some (r0, S0)) : wq_Z p l e (wq_rm 2 0 0) s m args below meth c D (wq_EM Ar b) b 32 10 (wq_Ab b 32) (MQ below (wq_Qc D (wq_EM Ar b) b 32 none S0) args s 0 0 (wq_Ab b 32)) 0 0 60 [some (.ref (b + 0)), some (.int (wq_I c1)), some (.int (wq_I c2)), some (.int (wq_I c3)), some (.int (wq_I c4)), some (.int (wq_I y5)), some (.int (wq_I y6)), none, none, none] [] S := by
  unfold b_X9_renews_60 at h
  refine wq_iload F dX9_renews_60 rfl rfl ?_
  refine wq_aload_n F dX9_renews_62 rfl rfl rfl ?_
  refine wq_g_X9_13 F dX9_renews_63 rfl ?_
  refine wq_iload_n F dX9_renews_66 rfl rfl rfl ?_
  obtain ⟨t12, ht12, wt12, h⟩ := wq_ix_some h
  refine wq_iald F (Nat.le_of_ble_eq_true rfl) wq_EM_inserted ht12 wt12 dX9_renews_67 rfl ?_
  refine wq_icmp_ge (tgt := 248) F dX9_renews_68 (by decide) rfl (fun hc => ?_) (fun hc => ?_)
  · replace h := wq_ift hc h
    exact wq_lsub [some (.ref (b + 0)), some (.int (wq_I c1)), some (.int (wq_I c2)), some (.int (wq_I c3)), some (.int (wq_I c4)), none, none, none, none, none] (by simp [wq_sub]) (hkx S h)
  · replace h := wq_iff hc h
    refine wq_aload_n F dX9_renews_71 rfl rfl rfl ?_
    refine wq_iload_n F dX9_renews_72 rfl rfl rfl ?_
    refine wq_iload F dX9_renews_73 rfl rfl ?_
    refine wq_iload_n F dX9_renews_75 rfl rfl rfl ?_
    obtain ⟨r13, S14, h1r13, h⟩ := wq_bd_some h
    refine wq_callV (As := [.int (wq_I c1), .int (wq_I y6), .int (wq_I c2)]) F lk_X9_156 (ct_X9_isSampled h1r13) ⟨Nat.le_of_ble_eq_true rfl, Nat.le_of_ble_eq_true rfl⟩ ⟨Nat.le_of_ble_eq_true rfl, Nat.le_of_ble_eq_true rfl⟩ (Nat.le_of_ble_eq_true rfl) rfl rfl (fun _ h9 => h9) rfl rfl (Nat.le_of_ble_eq_true rfl) dX9_renews_76 rfl ?_
    refine wq_if_eq (tgt := 242) F dX9_renews_79 (by decide) rfl (fun hc => ?_) (fun hc => ?_)
    · replace h := wq_ift hc h
      refine wq_iinc (L' := [some (.ref (b + 0)), some (.int (wq_I c1)), some (.int (wq_I c2)), some (.int (wq_I c3)), some (.int (wq_I c4)), some (.int (wq_I y5)), some (.int (wq_I (y6 + 1))), none, none, none]) F dX9_renews_242 rfl (by decide) rfl rfl rfl ?_
      refine wq_goto (tgt := 60) F dX9_renews_245 (by decide) ?_
      exact wq_lsub [some (.ref (b + 0)), some (.int (wq_I c1)), some (.int (wq_I c2)), some (.int (wq_I c3)), some (.int (wq_I c4)), some (.int (wq_I y5)), some (.int (wq_I (y6 + 1))), none, none, none] (by simp [wq_sub]) (hrec y5 (y6 + 1) S14 h)
    · replace h := wq_iff hc h
      refine wq_aload_n F dX9_renews_82 rfl rfl rfl ?_
      refine wq_iload_n F dX9_renews_83 rfl rfl rfl ?_
      refine wq_iload F dX9_renews_84 rfl rfl ?_
      refine wq_iload_n F dX9_renews_86 rfl rfl rfl ?_
      obtain ⟨r15, S16, h1r15, h⟩ := wq_bd_some h
      refine wq_callV (As := [.int (wq_I c1), .int (wq_I y6), .int (wq_I c3)]) F lk_X9_152 (ct_X9_valueAt h1r15) ⟨Nat.le_of_ble_eq_true rfl, Nat.le_of_ble_eq_true rfl⟩ ⟨Nat.le_of_ble_eq_true rfl, Nat.le_of_ble_eq_true rfl⟩ (Nat.le_of_ble_eq_true rfl) rfl rfl (fun _ h9 => h9) rfl rfl (Nat.le_of_ble_eq_true rfl) dX9_renews_87 rfl ?_
      refine wq_istore (L' := [some (.ref (b + 0)), some (.int (wq_I c1)), some (.int (wq_I c2)), some (.int (wq_I c3)), some (.int (wq_I c4)), some (.int (wq_I y5)), some (.int (wq_I y6)), some (.int (wq_I r15)), none, none]) F dX9_renews_90 (by decide) rfl rfl rfl ?_
      refine wq_aload_n F dX9_renews_92 rfl rfl rfl ?_
      refine wq_g_X9_32 F dX9_renews_93 rfl ?_
      refine wq_iload F dX9_renews_96 rfl rfl ?_
      refine wq_iload F dX9_renews_98 rfl rfl ?_
      refine wq_if_eq (tgt := 115) F dX9_renews_100 (by decide) rfl (fun hc => ?_) (fun hc => ?_)
      · replace h := wq_ift hc h
        exact wq_lsub [some (.ref (b + 0)), some (.int (wq_I c1)), some (.int (wq_I c2)), some (.int (wq_I c3)), some (.int (wq_I c4)), some (.int (wq_I y5)), some (.int (wq_I y6)), some (.int (wq_I r15)), none, none] (by simp [wq_sub]) (tj_X9_renews_115 F hkx hrec c4 S16 h)
      · replace h := wq_iff hc h
        refine wq_iload F dX9_renews_103 rfl rfl ?_
        refine wq_aload_n F dX9_renews_105 rfl rfl rfl ?_
        refine wq_g_X9_32 F dX9_renews_106 rfl ?_
        refine wq_iload F dX9_renews_109 rfl rfl ?_
        obtain ⟨t34, ht34, wt34, h⟩ := wq_ix_some h
        refine wq_iald F (Nat.le_of_ble_eq_true rfl) wq_EM_least ht34 wt34 dX9_renews_111 rfl ?_
        refine wq_icmp_ge (tgt := 120) F dX9_renews_112 (by decide) rfl (fun hc => ?_) (fun hc => ?_)
        · replace h := wq_ift hc h
          refine wq_aload_n F dX9_renews_120 rfl rfl rfl ?_
          refine wq_g_X9_32 F dX9_renews_121 rfl ?_
          refine wq_iload F dX9_renews_124 rfl rfl ?_
          obtain ⟨t35, ht35, wt35, h⟩ := wq_ix_some h
          refine wq_iald F (Nat.le_of_ble_eq_true rfl) wq_EM_least ht35 wt35 dX9_renews_126 rfl ?_
          exact wq_lsub [some (.ref (b + 0)), some (.int (wq_I c1)), some (.int (wq_I c2)), some (.int (wq_I c3)), some (.int (wq_I c4)), some (.int (wq_I y5)), some (.int (wq_I y6)), some (.int (wq_I r15)), none, none] (by simp [wq_sub]) (tj_X9_renews_127 F hkx hrec (S16 8 t35) c4 S16 h)
        · replace h := wq_iff hc h
          exact wq_lsub [some (.ref (b + 0)), some (.int (wq_I c1)), some (.int (wq_I c2)), some (.int (wq_I c3)), some (.int (wq_I c4)), some (.int (wq_I y5)), some (.int (wq_I y6)), some (.int (wq_I r15)), none, none] (by simp [wq_sub]) (tj_X9_renews_115 F hkx hrec c4 S16 h)
set_option maxHeartbeats 4000000 in
set_option maxRecDepth 100000 in
theorem tl_X9_renews_60 {p : Program} {l : Launch} {e : Env} {s : State} {m : MethodId} {args : Array Value} {below : List Frame} {meth : Method} {c : Code} {D : va_G} {Ar : Nat → ClassId} {b : Nat} (F : wq_Fr p s m args meth c cX9_renews 10 ((Option.none : Option Jvm.ClassFile.FieldType)) "WharfQueryModel" D Ar) {r0 : Int} {S0 : wq_St} {c1 : Int} {c2 : Int} {c3 : Int} {c4 : Int} {kx : wq_St → Option (Int × wq_St)} (hkx : ∀ (S : wq_St), kx S = some (r0, S0) → wq_Z p l e (wq_rm 2 0 0) s m args below meth c D (wq_EM Ar b) b 32 10 (wq_Ab b 32) (MQ below (wq_Qc D (wq_EM Ar b) b 32 none S0) args s 0 0 (wq_Ab b 32)) 0 0 248 [some (.ref (b + 0)), some (.int (wq_I c1)), some (.int (wq_I c2)), some (.int (wq_I c3)), some (.int (wq_I c4)), none, none, none, none, none] [] S) (n : Nat) (y5 : Int) (y6 : Int) (S : wq_St) (h : l_X9_renews_60 c1 c2 c3 c4 kx n y5 y6 S = some (r0, S0)) : wq_Z p l e (wq_rm 2 0 0) s m args below meth c D (wq_EM Ar b) b 32 10 (wq_Ab b 32) (MQ below (wq_Qc D (wq_EM Ar b) b 32 none S0) args s 0 0 (wq_Ab b 32)) 0 0 60 [some (.ref (b + 0)), some (.int (wq_I c1)), some (.int (wq_I c2)), some (.int (wq_I c3)), some (.int (wq_I c4)), some (.int (wq_I y5)), some (.int (wq_I y6)), none, none, none] [] S :=
  wq_loop_ind (f := fun (g : Int × Int × wq_St → Option (Int × wq_St)) (x : Int × Int × wq_St) => b_X9_renews_60 c1 c2 c3 c4 kx (fun y5 y6 S => g (y5, y6, S)) x.1 x.2.1 x.2.2) (P := (fun x : Int × Int × wq_St => wq_Z p l e (wq_rm 2 0 0) s m args below meth c D (wq_EM Ar b) b 32 10 (wq_Ab b 32) (MQ below (wq_Qc D (wq_EM Ar b) b 32 none S0) args s 0 0 (wq_Ab b 32)) 0 0 60 [some (.ref (b + 0)), some (.int (wq_I c1)), some (.int (wq_I c2)), some (.int (wq_I c3)), some (.int (wq_I c4)), some (.int (wq_I (x.1))), some (.int (wq_I (x.2.1))), none, none, none] [] x.2.2)) (fun g hg x hx => tb_X9_renews_60 F hkx (fun y5 y6 S h => hg (y5, y6, S) h) x.1 x.2.1 x.2.2 hx) n (y5, y6, S) h
set_option maxHeartbeats 4000000 in
set_option maxRecDepth 100000 in
theorem tb_X9_renews_13 {p : Program} {l : Launch} {e : Env} {s : State} {m : MethodId} {args : Array Value} {below : List Frame} {meth : Method} {c : Code} {D : va_G} {Ar : Nat → ClassId} {b : Nat} (F : wq_Fr p s m args meth c cX9_renews 10 ((Option.none : Option Jvm.ClassFile.FieldType)) "WharfQueryModel" D Ar) {r0 : Int} {S0 : wq_St} {c1 : Int} {c2 : Int} {kx : wq_St → Option (Int × wq_St)} (hkx : ∀ (S : wq_St), kx S = some (r0, S0) → wq_Z p l e (wq_rm 2 0 0) s m args below meth c D (wq_EM Ar b) b 32 10 (wq_Ab b 32) (MQ below (wq_Qc D (wq_EM Ar b) b 32 none S0) args s 0 0 (wq_Ab b 32)) 0 0 293 [none, none, none, none, none, none, none, none, none, none] [] S) {rec : Int → wq_St → Option (Int × wq_St)} (hrec : ∀ (y3 : Int) (S : wq_St), rec y3 S = some (r0, S0) → wq_Z p l e (wq_rm 2 0 0) s m args below meth c D (wq_EM Ar b) b 32 10 (wq_Ab b 32) (MQ below (wq_Qc D (wq_EM Ar b) b 32 none S0) args s 0 0 (wq_Ab b 32)) 0 0 13 [some (.ref (b + 0)), some (.int (wq_I c1)), some (.int (wq_I c2)), some (.int (wq_I y3)), none, none, none, none, none, none] [] S) (y3 : Int) (S : wq_St) (h : b_X9_renews_13 c1 c2 kx rec y3 S = some (r0, S0)) : wq_Z p l e (wq_rm 2 0 0) s m args below meth c D (wq_EM Ar b) b 32 10 (wq_Ab b 32) (MQ below (wq_Qc D (wq_EM Ar b) b 32 none S0) args s 0 0 (wq_Ab b 32)) 0 0 13 [some (.ref (b + 0)), some (.int (wq_I c1)), some (.int (wq_I c2)), some (.int (wq_I y3)), none, none, none, none, none, none] [] S := by
  unfold b_X9_renews_13 at h
  refine wq_iload_n F dX9_renews_13 rfl rfl rfl ?_
  refine wq_aload_n F dX9_renews_14 rfl rfl rfl ?_
  refine wq_g_X9_7 F dX9_renews_15 rfl ?_
  refine wq_iload_n F dX9_renews_18 rfl rfl rfl ?_
  obtain ⟨t5, ht5, wt5, h⟩ := wq_ix_some h
  refine wq_iald F (Nat.le_of_ble_eq_true rfl) wq_EM_columns ht5 wt5 dX9_renews_19 rfl ?_
  refine wq_icmp_ge (tgt := 293) F dX9_renews_20 (by decide) rfl (fun hc => ?_) (fun hc => ?_)
  · replace h := wq_ift hc h
    exact wq_lsub [none, none, none, none, none, none, none, none, none, none] (by simp [wq_sub]) (hkx S h)
  · replace h := wq_iff hc h
    refine wq_iconst (n := 3) F dX9_renews_23 rfl ?_
    refine wq_iload_n F dX9_renews_24 rfl rfl rfl ?_
    refine wq_imul F dX9_renews_25 rfl ?_
    refine wq_iload_n F dX9_renews_26 rfl rfl rfl ?_
    refine wq_iadd F dX9_renews_27 rfl ?_
    refine wq_istore (L' := [some (.ref (b + 0)), some (.int (wq_I c1)), some (.int (wq_I c2)), some (.int (wq_I y3)), some (.int (wq_I ((3 * c1) + y3))), none, none, none, none, none]) F dX9_renews_28 (by decide) rfl rfl rfl ?_
    refine wq_aload_n F dX9_renews_30 rfl rfl rfl ?_
    refine wq_g_X9_29 F dX9_renews_31 rfl ?_
    refine wq_iload F dX9_renews_34 rfl rfl ?_
    refine wq_iconst (n := 0) F dX9_renews_36 rfl ?_
    obtain ⟨t6, ht6, wt6, h⟩ := wq_ix_some h
    refine wq_iast F (Nat.le_of_ble_eq_true rfl) wq_EM_unlike wq_EM_unlike ht6 wt6 ⟨Nat.le_add_right _ _, Nat.add_lt_add_left (Nat.le_of_ble_eq_true rfl) b⟩ dX9_renews_37 rfl ?_
    obtain ⟨S7, eS7, h⟩ := wq_lt_some h
    refine wq_namS eS7 ?_
    refine wq_aload_n F dX9_renews_38 rfl rfl rfl ?_
    refine wq_g_X9_32 F dX9_renews_39 rfl ?_
    refine wq_iload F dX9_renews_42 rfl rfl ?_
    refine wq_iconst (n := 0) F dX9_renews_44 rfl ?_
    obtain ⟨t8, ht8, wt8, h⟩ := wq_ix_some h
    refine wq_iast F (Nat.le_of_ble_eq_true rfl) wq_EM_least wq_EM_least ht8 wt8 ⟨Nat.le_add_right _ _, Nat.add_lt_add_left (Nat.le_of_ble_eq_true rfl) b⟩ dX9_renews_45 rfl ?_
    obtain ⟨S9, eS9, h⟩ := wq_lt_some h
    refine wq_namS eS9 ?_
    refine wq_aload_n F dX9_renews_46 rfl rfl rfl ?_
    refine wq_g_X9_35 F dX9_renews_47 rfl ?_
    refine wq_iload F dX9_renews_50 rfl rfl ?_
    refine wq_iconst (n := 0) F dX9_renews_52 rfl ?_
    obtain ⟨t10, ht10, wt10, h⟩ := wq_ix_some h
    refine wq_iast F (Nat.le_of_ble_eq_true rfl) wq_EM_greatest wq_EM_greatest ht10 wt10 ⟨Nat.le_add_right _ _, Nat.add_lt_add_left (Nat.le_of_ble_eq_true rfl) b⟩ dX9_renews_53 rfl ?_
    obtain ⟨S11, eS11, h⟩ := wq_lt_some h
    refine wq_namS eS11 ?_
    refine wq_iconst (n := 0) F dX9_renews_54 rfl ?_
    refine wq_istore (L' := [some (.ref (b + 0)), some (.int (wq_I c1)), some (.int (wq_I c2)), some (.int (wq_I y3)), some (.int (wq_I ((3 * c1) + y3))), some (.int (wq_I 0)), none, none, none, none]) F dX9_renews_55 (by decide) rfl rfl rfl ?_
    refine wq_iconst (n := 0) F dX9_renews_57 rfl ?_
    refine wq_istore (L' := [some (.ref (b + 0)), some (.int (wq_I c1)), some (.int (wq_I c2)), some (.int (wq_I y3)), some (.int (wq_I ((3 * c1) + y3))), some (.int (wq_I 0)), some (.int (wq_I 0)), none, none, none]) F dX9_renews_58 (by decide) rfl rfl rfl ?_
    refine wq_lsub [some (.ref (b + 0)), some (.int (wq_I c1)), some (.int (wq_I c2)), some (.int (wq_I y3)), some (.int (wq_I ((3 * c1) + y3))), some (.int (wq_I 0)), some (.int (wq_I 0)), none, none, none] (by simp [wq_sub]) (tl_X9_renews_60 F (fun S36 h => ?_) wq_fu 0 0 S11 h)
    refine wq_aload_n F dX9_renews_248 rfl rfl rfl ?_
    refine wq_g_X9_29 F dX9_renews_249 rfl ?_
    refine wq_iload F dX9_renews_252 rfl rfl ?_
    refine wq_aload_n F dX9_renews_254 rfl rfl rfl ?_
    refine wq_g_X9_29 F dX9_renews_255 rfl ?_
    refine wq_iload F dX9_renews_258 rfl rfl ?_
    obtain ⟨t37, ht37, wt37, h⟩ := wq_ix_some h
    refine wq_iald F (Nat.le_of_ble_eq_true rfl) wq_EM_unlike ht37 wt37 dX9_renews_260 rfl ?_
    refine wq_aload_n F dX9_renews_261 rfl rfl rfl ?_
    refine wq_g_X9_26 F dX9_renews_262 rfl ?_
    refine wq_iload_n F dX9_renews_265 rfl rfl rfl ?_
    obtain ⟨t38, ht38, wt38, h⟩ := wq_ix_some h
    refine wq_iald F (Nat.le_of_ble_eq_true rfl) wq_EM_toldRows ht38 wt38 dX9_renews_266 rfl ?_
    refine wq_icmp_le (tgt := 279) F dX9_renews_267 (by decide) rfl (fun hc => ?_) (fun hc => ?_)
    · replace h := wq_ift hc h
      refine wq_aload_n F dX9_renews_279 rfl rfl rfl ?_
      refine wq_g_X9_29 F dX9_renews_280 rfl ?_
      refine wq_iload F dX9_renews_283 rfl rfl ?_
      obtain ⟨t39, ht39, wt39, h⟩ := wq_ix_some h
      refine wq_iald F (Nat.le_of_ble_eq_true rfl) wq_EM_unlike ht39 wt39 dX9_renews_285 rfl ?_
      obtain ⟨t40, ht40, wt40, h⟩ := wq_ix_some h
      refine wq_iast F (Nat.le_of_ble_eq_true rfl) wq_EM_unlike wq_EM_unlike ht40 wt40 ⟨Nat.le_add_right _ _, Nat.add_lt_add_left (Nat.le_of_ble_eq_true rfl) b⟩ dX9_renews_286 rfl ?_
      obtain ⟨S41, eS41, h⟩ := wq_lt_some h
      refine wq_namS eS41 ?_
      refine wq_iinc (L' := [some (.ref (b + 0)), some (.int (wq_I c1)), some (.int (wq_I c2)), some (.int (wq_I (y3 + 1))), some (.int (wq_I ((3 * c1) + y3))), none, none, none, none, none]) F dX9_renews_287 rfl (by decide) rfl rfl rfl ?_
      refine wq_goto (tgt := 13) F dX9_renews_290 (by decide) ?_
      exact wq_lsub [some (.ref (b + 0)), some (.int (wq_I c1)), some (.int (wq_I c2)), some (.int (wq_I (y3 + 1))), none, none, none, none, none, none] (by simp [wq_sub]) (hrec (y3 + 1) S41 h)
    · replace h := wq_iff hc h
      refine wq_aload_n F dX9_renews_270 rfl rfl rfl ?_
      refine wq_g_X9_26 F dX9_renews_271 rfl ?_
      refine wq_iload_n F dX9_renews_274 rfl rfl rfl ?_
      obtain ⟨t42, ht42, wt42, h⟩ := wq_ix_some h
      refine wq_iald F (Nat.le_of_ble_eq_true rfl) wq_EM_toldRows ht42 wt42 dX9_renews_275 rfl ?_
      refine wq_goto (tgt := 286) F dX9_renews_276 (by decide) ?_
      obtain ⟨t43, ht43, wt43, h⟩ := wq_ix_some h
      refine wq_iast F (Nat.le_of_ble_eq_true rfl) wq_EM_unlike wq_EM_unlike ht43 wt43 ⟨Nat.le_add_right _ _, Nat.add_lt_add_left (Nat.le_of_ble_eq_true rfl) b⟩ dX9_renews_286 rfl ?_
      obtain ⟨S44, eS44, h⟩ := wq_lt_some h
      refine wq_namS eS44 ?_
      refine wq_iinc (L' := [some (.ref (b + 0)), some (.int (wq_I c1)), some (.int (wq_I c2)), some (.int (wq_I (y3 + 1))), some (.int (wq_I ((3 * c1) + y3))), none, none, none, none, none]) F dX9_renews_287 rfl (by decide) rfl rfl rfl ?_
      refine wq_goto (tgt := 13) F dX9_renews_290 (by decide) ?_
      exact wq_lsub [some (.ref (b + 0)), some (.int (wq_I c1)), some (.int (wq_I c2)), some (.int (wq_I (y3 + 1))), none, none, none, none, none, none] (by simp [wq_sub]) (hrec (y3 + 1) S44 h)
set_option maxHeartbeats 4000000 in
set_option maxRecDepth 100000 in
theorem tl_X9_renews_13 {p : Program} {l : Launch} {e : Env} {s : State} {m : MethodId} {args : Array Value} {below : List Frame} {meth : Method} {c : Code} {D : va_G} {Ar : Nat → ClassId} {b : Nat} (F : wq_Fr p s m args meth c cX9_renews 10 ((Option.none : Option Jvm.ClassFile.FieldType)) "WharfQueryModel" D Ar) {r0 : Int} {S0 : wq_St} {c1 : Int} {c2 : Int} {kx : wq_St → Option (Int × wq_St)} (hkx : ∀ (S : wq_St), kx S = some (r0, S0) → wq_Z p l e (wq_rm 2 0 0) s m args below meth c D (wq_EM Ar b) b 32 10 (wq_Ab b 32) (MQ below (wq_Qc D (wq_EM Ar b) b 32 none S0) args s 0 0 (wq_Ab b 32)) 0 0 293 [none, none, none, none, none, none, none, none, none, none] [] S) (n : Nat) (y3 : Int) (S : wq_St) (h : l_X9_renews_13 c1 c2 kx n y3 S = some (r0, S0)) : wq_Z p l e (wq_rm 2 0 0) s m args below meth c D (wq_EM Ar b) b 32 10 (wq_Ab b 32) (MQ below (wq_Qc D (wq_EM Ar b) b 32 none S0) args s 0 0 (wq_Ab b 32)) 0 0 13 [some (.ref (b + 0)), some (.int (wq_I c1)), some (.int (wq_I c2)), some (.int (wq_I y3)), none, none, none, none, none, none] [] S :=
  wq_loop_ind (f := fun (g : Int × wq_St → Option (Int × wq_St)) (x : Int × wq_St) => b_X9_renews_13 c1 c2 kx (fun y3 S => g (y3, S)) x.1 x.2) (P := (fun x : Int × wq_St => wq_Z p l e (wq_rm 2 0 0) s m args below meth c D (wq_EM Ar b) b 32 10 (wq_Ab b 32) (MQ below (wq_Qc D (wq_EM Ar b) b 32 none S0) args s 0 0 (wq_Ab b 32)) 0 0 13 [some (.ref (b + 0)), some (.int (wq_I c1)), some (.int (wq_I c2)), some (.int (wq_I (x.1))), none, none, none, none, none, none] [] x.2)) (fun g hg x hx => tb_X9_renews_13 F hkx (fun y3 S h => hg (y3, S) h) x.1 x.2 hx) n (y3, S) h
set_option maxHeartbeats 4000000 in
set_option maxRecDepth 100000 in
theorem ct_X9_renews {l : Launch} {D : va_G} {Ar : Nat → ClassId} {b : Nat} {x1 : Int} {x2 : Int} {S S0 : wq_St} {r0 : Int} (h : f_X9_renews x1 x2 S = some (r0, S0)) : wq_Ct l yX9_renews (.code yX9_renews cX9_renews 10 ((Option.none : Option Jvm.ClassFile.FieldType))) 2 D Ar (wq_EM Ar b) b 32 [.ref (b + 0), .int (wq_I x1), .int (wq_I x2)] S none S0 := by
  refine wq_start "WharfQueryModel" [some (.ref (b + 0)), some (.int (wq_I x1)), some (.int (wq_I x2)), none, none, none, none, none, none, none] (by decide +kernel) rfl (Nat.le_of_ble_eq_true rfl) rfl ?_
  intro p e s m args below meth c F
  unfold f_X9_renews at h
  refine wq_aload_n F dX9_renews_0 rfl rfl rfl ?_
  refine wq_g_X9_26 F dX9_renews_1 rfl ?_
  refine wq_iload_n F dX9_renews_4 rfl rfl rfl ?_
  refine wq_aload_n F dX9_renews_5 rfl rfl rfl ?_
  refine wq_iload_n F dX9_renews_6 rfl rfl rfl ?_
  obtain ⟨r1, S2, h1r1, h⟩ := wq_bd_some h
  refine wq_callV (As := [.int (wq_I x1)]) F lk_X9_148 (ct_X9_rowsOf h1r1) ⟨Nat.le_of_ble_eq_true rfl, Nat.le_of_ble_eq_true rfl⟩ ⟨Nat.le_of_ble_eq_true rfl, Nat.le_of_ble_eq_true rfl⟩ (Nat.le_of_ble_eq_true rfl) rfl rfl (fun _ h9 => h9) rfl rfl (Nat.le_of_ble_eq_true rfl) dX9_renews_7 rfl ?_
  obtain ⟨t3, ht3, wt3, h⟩ := wq_ix_some h
  refine wq_iast F (Nat.le_of_ble_eq_true rfl) wq_EM_toldRows wq_EM_toldRows ht3 wt3 ⟨Nat.le_add_right _ _, Nat.add_lt_add_left (Nat.le_of_ble_eq_true rfl) b⟩ dX9_renews_10 rfl ?_
  obtain ⟨S4, eS4, h⟩ := wq_lt_some h
  refine wq_namS eS4 ?_
  refine wq_iconst (n := 0) F dX9_renews_11 rfl ?_
  refine wq_istore_n (L' := [some (.ref (b + 0)), some (.int (wq_I x1)), some (.int (wq_I x2)), some (.int (wq_I 0)), none, none, none, none, none, none]) F dX9_renews_12 rfl (by decide) rfl rfl rfl ?_
  refine wq_lsub [some (.ref (b + 0)), some (.int (wq_I x1)), some (.int (wq_I x2)), some (.int (wq_I 0)), none, none, none, none, none, none] (by simp [wq_sub]) (tl_X9_renews_13 F (fun S45 h => ?_) wq_fu 0 S4 h)
  cases h
  exact wq_vret F rfl rfl dX9_renews_293
set_option maxHeartbeats 4000000 in
set_option maxRecDepth 100000 in
theorem ct_X9_renew {l : Launch} {D : va_G} {Ar : Nat → ClassId} {b : Nat} {x1 : Int} {x2 : Int} {S S0 : wq_St} {r0 : Int} (h : f_X9_renew x1 x2 S = some (r0, S0)) : wq_Ct l yX9_renew (.code yX9_renew cX9_renew 3 ((Option.some Jvm.ClassFile.FieldType.int))) 3 D Ar (wq_EM Ar b) b 32 [.ref (b + 0), .int (wq_I x1), .int (wq_I x2)] S (some (.int (wq_I r0))) S0 := by
  refine wq_start "WharfQueryModel" [some (.ref (b + 0)), some (.int (wq_I x1)), some (.int (wq_I x2))] (by decide +kernel) rfl (Nat.le_of_ble_eq_true rfl) rfl ?_
  intro p e s m args below meth c F
  unfold f_X9_renew at h
  refine wq_aload_n F dX9_renew_0 rfl rfl rfl ?_
  refine wq_aload_n F dX9_renew_1 rfl rfl rfl ?_
  refine wq_iload_n F dX9_renew_2 rfl rfl rfl ?_
  obtain ⟨r1, S2, h1r1, h⟩ := wq_bd_some h
  refine wq_callV (As := [.int (wq_I x1)]) F lk_X9_118 (ct_X9_isTable h1r1) ⟨Nat.le_of_ble_eq_true rfl, Nat.le_of_ble_eq_true rfl⟩ ⟨Nat.le_of_ble_eq_true rfl, Nat.le_of_ble_eq_true rfl⟩ (Nat.le_of_ble_eq_true rfl) rfl rfl (fun _ h9 => h9) rfl rfl (Nat.le_of_ble_eq_true rfl) dX9_renew_3 rfl ?_
  refine wq_iload_n F dX9_renew_6 rfl rfl rfl ?_
  refine wq_iconst (n := 1) F dX9_renew_7 rfl ?_
  refine wq_bipush (n := 10) F dX9_renew_8 (by decide) rfl ?_
  obtain ⟨r3, S4, h1r3, h⟩ := wq_bd_some h
  refine wq_callS (As := [.int (wq_I x2), .int (wq_I 1), .int (wq_I 10)]) F lk_X9_114 (ct_X9_in h1r3) ⟨Nat.le_of_ble_eq_true rfl, Nat.le_of_ble_eq_true rfl⟩ ⟨Nat.le_of_ble_eq_true rfl, Nat.le_of_ble_eq_true rfl⟩ (fun _ h9 => h9) rfl rfl (Nat.le_of_ble_eq_true rfl) dX9_renew_10 rfl ?_
  obtain ⟨r5, S6, h1r5, h⟩ := wq_bd_some h
  refine wq_callV (As := [.int (wq_I r1), .int (wq_I r3)]) F lk_X9_135 (ct_X9_asked_ h1r5) ⟨Nat.le_of_ble_eq_true rfl, Nat.le_of_ble_eq_true rfl⟩ ⟨Nat.le_of_ble_eq_true rfl, Nat.le_of_ble_eq_true rfl⟩ (Nat.le_of_ble_eq_true rfl) rfl rfl (fun _ h9 => h9) rfl rfl (Nat.le_of_ble_eq_true rfl) dX9_renew_13 rfl ?_
  refine wq_if_ne (tgt := 21) F dX9_renew_16 (by decide) rfl (fun hc => ?_) (fun hc => ?_)
  · replace h := wq_iff hc h
    refine wq_aload_n F dX9_renew_21 rfl rfl rfl ?_
    refine wq_iload_n F dX9_renew_22 rfl rfl rfl ?_
    refine wq_iload_n F dX9_renew_23 rfl rfl rfl ?_
    obtain ⟨r7, S8, h1r7, h⟩ := wq_bd_some h
    refine wq_callV (As := [.int (wq_I x1), .int (wq_I x2)]) F lk_X9_159 (ct_X9_renews h1r7) ⟨Nat.le_of_ble_eq_true rfl, Nat.le_of_ble_eq_true rfl⟩ ⟨Nat.le_of_ble_eq_true rfl, Nat.le_of_ble_eq_true rfl⟩ (Nat.le_of_ble_eq_true rfl) rfl rfl (fun _ h9 => h9) rfl rfl (Nat.le_of_ble_eq_true rfl) dX9_renew_24 rfl ?_
    refine wq_aload_n F dX9_renew_27 rfl rfl rfl ?_
    refine wq_iload_n F dX9_renew_28 rfl rfl rfl ?_
    refine wq_iload_n F dX9_renew_29 rfl rfl rfl ?_
    obtain ⟨r9, S10, h1r9, h⟩ := wq_bd_some h
    refine wq_callV (As := [.int (wq_I x1), .int (wq_I x2)]) F lk_X9_163 (ct_X9_sample h1r9) ⟨Nat.le_of_ble_eq_true rfl, Nat.le_of_ble_eq_true rfl⟩ ⟨Nat.le_of_ble_eq_true rfl, Nat.le_of_ble_eq_true rfl⟩ (Nat.le_of_ble_eq_true rfl) rfl rfl (fun _ h9 => h9) rfl rfl (Nat.le_of_ble_eq_true rfl) dX9_renew_30 rfl ?_
    cases h
    exact wq_iret F rfl rfl dX9_renew_33
  · replace h := wq_ift hc h
    refine wq_iconst (n := 0) F dX9_renew_19 rfl ?_
    cases h
    exact wq_iret F rfl rfl dX9_renew_20
set_option maxHeartbeats 4000000 in
set_option maxRecDepth 100000 in
theorem ct_X9_setStep {l : Launch} {D : va_G} {Ar : Nat → ClassId} {b : Nat} {x1 : Int} {S S0 : wq_St} {r0 : Int} (h : f_X9_setStep x1 S = some (r0, S0)) : wq_Ct l yX9_setStep (.code yX9_setStep cX9_setStep 3 ((Option.some Jvm.ClassFile.FieldType.int))) 2 D Ar (wq_EM Ar b) b 32 [.ref (b + 0), .int (wq_I x1)] S (some (.int (wq_I r0))) S0 := by
  refine wq_start "WharfQueryModel" [some (.ref (b + 0)), some (.int (wq_I x1)), none] (by decide +kernel) rfl (Nat.le_of_ble_eq_true rfl) rfl ?_
  intro p e s m args below meth c F
  unfold f_X9_setStep at h
  refine wq_aload_n F dX9_setStep_0 rfl rfl rfl ?_
  refine wq_iload_n F dX9_setStep_1 rfl rfl rfl ?_
  refine wq_iconst (n := 1) F dX9_setStep_2 rfl ?_
  refine wq_bipush (n := 10) F dX9_setStep_3 (by decide) rfl ?_
  obtain ⟨r1, S2, h1r1, h⟩ := wq_bd_some h
  refine wq_callS (As := [.int (wq_I x1), .int (wq_I 1), .int (wq_I 10)]) F lk_X9_114 (ct_X9_in h1r1) ⟨Nat.le_of_ble_eq_true rfl, Nat.le_of_ble_eq_true rfl⟩ ⟨Nat.le_of_ble_eq_true rfl, Nat.le_of_ble_eq_true rfl⟩ (fun _ h9 => h9) rfl rfl (Nat.le_of_ble_eq_true rfl) dX9_setStep_5 rfl ?_
  obtain ⟨r3, S4, h1r3, h⟩ := wq_bd_some h
  refine wq_callV (As := [.int (wq_I r1)]) F lk_X9_145 (ct_X9_asked h1r3) ⟨Nat.le_of_ble_eq_true rfl, Nat.le_of_ble_eq_true rfl⟩ ⟨Nat.le_of_ble_eq_true rfl, Nat.le_of_ble_eq_true rfl⟩ (Nat.le_of_ble_eq_true rfl) rfl rfl (fun _ h9 => h9) rfl rfl (Nat.le_of_ble_eq_true rfl) dX9_setStep_8 rfl ?_
  refine wq_if_ne (tgt := 16) F dX9_setStep_11 (by decide) rfl (fun hc => ?_) (fun hc => ?_)
  · replace h := wq_iff hc h
    refine wq_aload_n F dX9_setStep_16 rfl rfl rfl ?_
    refine wq_g_X9_41 F dX9_setStep_17 rfl ?_
    refine wq_istore_n (L' := [some (.ref (b + 0)), some (.int (wq_I x1)), some (.int (wq_I (S4 0 11)))]) F dX9_setStep_20 rfl (by decide) rfl rfl rfl ?_
    refine wq_aload_n F dX9_setStep_21 rfl rfl rfl ?_
    refine wq_iload_n F dX9_setStep_22 rfl rfl rfl ?_
    refine wq_p_X9_41 F (fun _ h9 => h9) dX9_setStep_23 rfl ?_
    obtain ⟨S5, eS5, h⟩ := wq_lt_some h
    refine wq_namS eS5 ?_
    refine wq_iload_n F dX9_setStep_26 rfl rfl rfl ?_
    cases h
    exact wq_iret F rfl rfl dX9_setStep_27
  · replace h := wq_ift hc h
    refine wq_iconst (n := 0) F dX9_setStep_14 rfl ?_
    cases h
    exact wq_iret F rfl rfl dX9_setStep_15
set_option maxHeartbeats 4000000 in
set_option maxRecDepth 100000 in
theorem ct_X9_toldRows {l : Launch} {D : va_G} {Ar : Nat → ClassId} {b : Nat} {x1 : Int} {S S0 : wq_St} {r0 : Int} (h : f_X9_toldRows x1 S = some (r0, S0)) : wq_Ct l yX9_toldRows (.code yX9_toldRows cX9_toldRows 2 ((Option.some Jvm.ClassFile.FieldType.int))) 3 D Ar (wq_EM Ar b) b 32 [.ref (b + 0), .int (wq_I x1)] S (some (.int (wq_I r0))) S0 := by
  refine wq_start "WharfQueryModel" [some (.ref (b + 0)), some (.int (wq_I x1))] (by decide +kernel) rfl (Nat.le_of_ble_eq_true rfl) rfl ?_
  intro p e s m args below meth c F
  unfold f_X9_toldRows at h
  refine wq_aload_n F dX9_toldRows_0 rfl rfl rfl ?_
  refine wq_aload_n F dX9_toldRows_1 rfl rfl rfl ?_
  refine wq_iload_n F dX9_toldRows_2 rfl rfl rfl ?_
  obtain ⟨r1, S2, h1r1, h⟩ := wq_bd_some h
  refine wq_callV (As := [.int (wq_I x1)]) F lk_X9_118 (ct_X9_isTable h1r1) ⟨Nat.le_of_ble_eq_true rfl, Nat.le_of_ble_eq_true rfl⟩ ⟨Nat.le_of_ble_eq_true rfl, Nat.le_of_ble_eq_true rfl⟩ (Nat.le_of_ble_eq_true rfl) rfl rfl (fun _ h9 => h9) rfl rfl (Nat.le_of_ble_eq_true rfl) dX9_toldRows_3 rfl ?_
  obtain ⟨r3, S4, h1r3, h⟩ := wq_bd_some h
  refine wq_callV (As := [.int (wq_I r1)]) F lk_X9_145 (ct_X9_asked h1r3) ⟨Nat.le_of_ble_eq_true rfl, Nat.le_of_ble_eq_true rfl⟩ ⟨Nat.le_of_ble_eq_true rfl, Nat.le_of_ble_eq_true rfl⟩ (Nat.le_of_ble_eq_true rfl) rfl rfl (fun _ h9 => h9) rfl rfl (Nat.le_of_ble_eq_true rfl) dX9_toldRows_6 rfl ?_
  refine wq_if_eq (tgt := 21) F dX9_toldRows_9 (by decide) rfl (fun hc => ?_) (fun hc => ?_)
  · replace h := wq_ift hc h
    refine wq_iconst (n := 0) F dX9_toldRows_21 rfl ?_
    cases h
    exact wq_iret F rfl rfl dX9_toldRows_22
  · replace h := wq_iff hc h
    refine wq_aload_n F dX9_toldRows_12 rfl rfl rfl ?_
    refine wq_g_X9_26 F dX9_toldRows_13 rfl ?_
    refine wq_iload_n F dX9_toldRows_16 rfl rfl rfl ?_
    obtain ⟨t5, ht5, wt5, h⟩ := wq_ix_some h
    refine wq_iald F (Nat.le_of_ble_eq_true rfl) wq_EM_toldRows ht5 wt5 dX9_toldRows_17 rfl ?_
    refine wq_goto (tgt := 22) F dX9_toldRows_18 (by decide) ?_
    cases h
    exact wq_iret F rfl rfl dX9_toldRows_22
set_option maxHeartbeats 4000000 in
set_option maxRecDepth 100000 in
theorem ct_X9_unlike {l : Launch} {D : va_G} {Ar : Nat → ClassId} {b : Nat} {x1 : Int} {x2 : Int} {S S0 : wq_St} {r0 : Int} (h : f_X9_unlike x1 x2 S = some (r0, S0)) : wq_Ct l yX9_unlike (.code yX9_unlike cX9_unlike 3 ((Option.some Jvm.ClassFile.FieldType.int))) 4 D Ar (wq_EM Ar b) b 32 [.ref (b + 0), .int (wq_I x1), .int (wq_I x2)] S (some (.int (wq_I r0))) S0 := by
  refine wq_start "WharfQueryModel" [some (.ref (b + 0)), some (.int (wq_I x1)), some (.int (wq_I x2))] (by decide +kernel) rfl (Nat.le_of_ble_eq_true rfl) rfl ?_
  intro p e s m args below meth c F
  unfold f_X9_unlike at h
  refine wq_aload_n F dX9_unlike_0 rfl rfl rfl ?_
  refine wq_aload_n F dX9_unlike_1 rfl rfl rfl ?_
  refine wq_iload_n F dX9_unlike_2 rfl rfl rfl ?_
  refine wq_iload_n F dX9_unlike_3 rfl rfl rfl ?_
  obtain ⟨r1, S2, h1r1, h⟩ := wq_bd_some h
  refine wq_callV (As := [.int (wq_I x1), .int (wq_I x2)]) F lk_X9_132 (ct_X9_isColumn h1r1) ⟨Nat.le_of_ble_eq_true rfl, Nat.le_of_ble_eq_true rfl⟩ ⟨Nat.le_of_ble_eq_true rfl, Nat.le_of_ble_eq_true rfl⟩ (Nat.le_of_ble_eq_true rfl) rfl rfl (fun _ h9 => h9) rfl rfl (Nat.le_of_ble_eq_true rfl) dX9_unlike_4 rfl ?_
  obtain ⟨r3, S4, h1r3, h⟩ := wq_bd_some h
  refine wq_callV (As := [.int (wq_I r1)]) F lk_X9_145 (ct_X9_asked h1r3) ⟨Nat.le_of_ble_eq_true rfl, Nat.le_of_ble_eq_true rfl⟩ ⟨Nat.le_of_ble_eq_true rfl, Nat.le_of_ble_eq_true rfl⟩ (Nat.le_of_ble_eq_true rfl) rfl rfl (fun _ h9 => h9) rfl rfl (Nat.le_of_ble_eq_true rfl) dX9_unlike_7 rfl ?_
  refine wq_if_eq (tgt := 26) F dX9_unlike_10 (by decide) rfl (fun hc => ?_) (fun hc => ?_)
  · replace h := wq_ift hc h
    refine wq_iconst (n := 0) F dX9_unlike_26 rfl ?_
    cases h
    exact wq_iret F rfl rfl dX9_unlike_27
  · replace h := wq_iff hc h
    refine wq_aload_n F dX9_unlike_13 rfl rfl rfl ?_
    refine wq_g_X9_29 F dX9_unlike_14 rfl ?_
    refine wq_iconst (n := 3) F dX9_unlike_17 rfl ?_
    refine wq_iload_n F dX9_unlike_18 rfl rfl rfl ?_
    refine wq_imul F dX9_unlike_19 rfl ?_
    refine wq_iload_n F dX9_unlike_20 rfl rfl rfl ?_
    refine wq_iadd F dX9_unlike_21 rfl ?_
    obtain ⟨t5, ht5, wt5, h⟩ := wq_ix_some h
    refine wq_iald F (Nat.le_of_ble_eq_true rfl) wq_EM_unlike ht5 wt5 dX9_unlike_22 rfl ?_
    refine wq_goto (tgt := 27) F dX9_unlike_23 (by decide) ?_
    cases h
    exact wq_iret F rfl rfl dX9_unlike_27
set_option maxHeartbeats 4000000 in
set_option maxRecDepth 100000 in
theorem ct_X9_least {l : Launch} {D : va_G} {Ar : Nat → ClassId} {b : Nat} {x1 : Int} {x2 : Int} {S S0 : wq_St} {r0 : Int} (h : f_X9_least x1 x2 S = some (r0, S0)) : wq_Ct l yX9_least (.code yX9_least cX9_least 3 ((Option.some Jvm.ClassFile.FieldType.int))) 4 D Ar (wq_EM Ar b) b 32 [.ref (b + 0), .int (wq_I x1), .int (wq_I x2)] S (some (.int (wq_I r0))) S0 := by
  refine wq_start "WharfQueryModel" [some (.ref (b + 0)), some (.int (wq_I x1)), some (.int (wq_I x2))] (by decide +kernel) rfl (Nat.le_of_ble_eq_true rfl) rfl ?_
  intro p e s m args below meth c F
  unfold f_X9_least at h
  refine wq_aload_n F dX9_least_0 rfl rfl rfl ?_
  refine wq_aload_n F dX9_least_1 rfl rfl rfl ?_
  refine wq_iload_n F dX9_least_2 rfl rfl rfl ?_
  refine wq_iload_n F dX9_least_3 rfl rfl rfl ?_
  obtain ⟨r1, S2, h1r1, h⟩ := wq_bd_some h
  refine wq_callV (As := [.int (wq_I x1), .int (wq_I x2)]) F lk_X9_132 (ct_X9_isColumn h1r1) ⟨Nat.le_of_ble_eq_true rfl, Nat.le_of_ble_eq_true rfl⟩ ⟨Nat.le_of_ble_eq_true rfl, Nat.le_of_ble_eq_true rfl⟩ (Nat.le_of_ble_eq_true rfl) rfl rfl (fun _ h9 => h9) rfl rfl (Nat.le_of_ble_eq_true rfl) dX9_least_4 rfl ?_
  obtain ⟨r3, S4, h1r3, h⟩ := wq_bd_some h
  refine wq_callV (As := [.int (wq_I r1)]) F lk_X9_145 (ct_X9_asked h1r3) ⟨Nat.le_of_ble_eq_true rfl, Nat.le_of_ble_eq_true rfl⟩ ⟨Nat.le_of_ble_eq_true rfl, Nat.le_of_ble_eq_true rfl⟩ (Nat.le_of_ble_eq_true rfl) rfl rfl (fun _ h9 => h9) rfl rfl (Nat.le_of_ble_eq_true rfl) dX9_least_7 rfl ?_
  refine wq_if_eq (tgt := 26) F dX9_least_10 (by decide) rfl (fun hc => ?_) (fun hc => ?_)
  · replace h := wq_ift hc h
    refine wq_iconst (n := 0) F dX9_least_26 rfl ?_
    cases h
    exact wq_iret F rfl rfl dX9_least_27
  · replace h := wq_iff hc h
    refine wq_aload_n F dX9_least_13 rfl rfl rfl ?_
    refine wq_g_X9_32 F dX9_least_14 rfl ?_
    refine wq_iconst (n := 3) F dX9_least_17 rfl ?_
    refine wq_iload_n F dX9_least_18 rfl rfl rfl ?_
    refine wq_imul F dX9_least_19 rfl ?_
    refine wq_iload_n F dX9_least_20 rfl rfl rfl ?_
    refine wq_iadd F dX9_least_21 rfl ?_
    obtain ⟨t5, ht5, wt5, h⟩ := wq_ix_some h
    refine wq_iald F (Nat.le_of_ble_eq_true rfl) wq_EM_least ht5 wt5 dX9_least_22 rfl ?_
    refine wq_goto (tgt := 27) F dX9_least_23 (by decide) ?_
    cases h
    exact wq_iret F rfl rfl dX9_least_27
set_option maxHeartbeats 4000000 in
set_option maxRecDepth 100000 in
theorem ct_X9_greatest {l : Launch} {D : va_G} {Ar : Nat → ClassId} {b : Nat} {x1 : Int} {x2 : Int} {S S0 : wq_St} {r0 : Int} (h : f_X9_greatest x1 x2 S = some (r0, S0)) : wq_Ct l yX9_greatest (.code yX9_greatest cX9_greatest 3 ((Option.some Jvm.ClassFile.FieldType.int))) 4 D Ar (wq_EM Ar b) b 32 [.ref (b + 0), .int (wq_I x1), .int (wq_I x2)] S (some (.int (wq_I r0))) S0 := by
  refine wq_start "WharfQueryModel" [some (.ref (b + 0)), some (.int (wq_I x1)), some (.int (wq_I x2))] (by decide +kernel) rfl (Nat.le_of_ble_eq_true rfl) rfl ?_
  intro p e s m args below meth c F
  unfold f_X9_greatest at h
  refine wq_aload_n F dX9_greatest_0 rfl rfl rfl ?_
  refine wq_aload_n F dX9_greatest_1 rfl rfl rfl ?_
  refine wq_iload_n F dX9_greatest_2 rfl rfl rfl ?_
  refine wq_iload_n F dX9_greatest_3 rfl rfl rfl ?_
  obtain ⟨r1, S2, h1r1, h⟩ := wq_bd_some h
  refine wq_callV (As := [.int (wq_I x1), .int (wq_I x2)]) F lk_X9_132 (ct_X9_isColumn h1r1) ⟨Nat.le_of_ble_eq_true rfl, Nat.le_of_ble_eq_true rfl⟩ ⟨Nat.le_of_ble_eq_true rfl, Nat.le_of_ble_eq_true rfl⟩ (Nat.le_of_ble_eq_true rfl) rfl rfl (fun _ h9 => h9) rfl rfl (Nat.le_of_ble_eq_true rfl) dX9_greatest_4 rfl ?_
  obtain ⟨r3, S4, h1r3, h⟩ := wq_bd_some h
  refine wq_callV (As := [.int (wq_I r1)]) F lk_X9_145 (ct_X9_asked h1r3) ⟨Nat.le_of_ble_eq_true rfl, Nat.le_of_ble_eq_true rfl⟩ ⟨Nat.le_of_ble_eq_true rfl, Nat.le_of_ble_eq_true rfl⟩ (Nat.le_of_ble_eq_true rfl) rfl rfl (fun _ h9 => h9) rfl rfl (Nat.le_of_ble_eq_true rfl) dX9_greatest_7 rfl ?_
  refine wq_if_eq (tgt := 26) F dX9_greatest_10 (by decide) rfl (fun hc => ?_) (fun hc => ?_)
  · replace h := wq_ift hc h
    refine wq_iconst (n := 0) F dX9_greatest_26 rfl ?_
    cases h
    exact wq_iret F rfl rfl dX9_greatest_27
  · replace h := wq_iff hc h
    refine wq_aload_n F dX9_greatest_13 rfl rfl rfl ?_
    refine wq_g_X9_35 F dX9_greatest_14 rfl ?_
    refine wq_iconst (n := 3) F dX9_greatest_17 rfl ?_
    refine wq_iload_n F dX9_greatest_18 rfl rfl rfl ?_
    refine wq_imul F dX9_greatest_19 rfl ?_
    refine wq_iload_n F dX9_greatest_20 rfl rfl rfl ?_
    refine wq_iadd F dX9_greatest_21 rfl ?_
    obtain ⟨t5, ht5, wt5, h⟩ := wq_ix_some h
    refine wq_iald F (Nat.le_of_ble_eq_true rfl) wq_EM_greatest ht5 wt5 dX9_greatest_22 rfl ?_
    refine wq_goto (tgt := 27) F dX9_greatest_23 (by decide) ?_
    cases h
    exact wq_iret F rfl rfl dX9_greatest_27
