set_option maxHeartbeats 4000000 in
set_option maxRecDepth 100000 in
theorem ct_X9_isMarked {l : Launch} {D : va_G} {Ar : Nat → ClassId} {b : Nat} {x1 : Int} {S S0 : wq_St} {r0 : Int} (h : f_X9_isMarked x1 S = some (r0, S0)) : wq_Ct l yX9_isMarked (.code yX9_isMarked cX9_isMarked 2 ((Option.some Jvm.ClassFile.FieldType.boolean))) 3 D Ar (wq_EM Ar b) b 32 [.ref (b + 0), .int (wq_I x1)] S (some (.int (wq_I r0))) S0 := by
  refine wq_start "WharfQueryModel" [some (.ref (b + 0)), some (.int (wq_I x1))] (by decide +kernel) rfl (Nat.le_of_ble_eq_true rfl) rfl ?_
  intro p e s m args below meth c F
  unfold f_X9_isMarked at h
  refine wq_aload_n F dX9_isMarked_0 rfl rfl rfl ?_
  refine wq_aload_n F dX9_isMarked_1 rfl rfl rfl ?_
  refine wq_iload_n F dX9_isMarked_2 rfl rfl rfl ?_
  obtain ⟨r1, S2, h1r1, h⟩ := wq_bd_some h
  refine wq_callV (As := [.int (wq_I x1)]) F lk_X9_118 (ct_X9_isTable h1r1) ⟨Nat.le_of_ble_eq_true rfl, Nat.le_of_ble_eq_true rfl⟩ ⟨Nat.le_of_ble_eq_true rfl, Nat.le_of_ble_eq_true rfl⟩ (Nat.le_of_ble_eq_true rfl) rfl rfl (fun _ h9 => h9) rfl rfl (Nat.le_of_ble_eq_true rfl) dX9_isMarked_3 rfl ?_
  obtain ⟨r3, S4, h1r3, h⟩ := wq_bd_some h
  refine wq_callV (As := [.int (wq_I r1)]) F lk_X9_145 (ct_X9_asked h1r3) ⟨Nat.le_of_ble_eq_true rfl, Nat.le_of_ble_eq_true rfl⟩ ⟨Nat.le_of_ble_eq_true rfl, Nat.le_of_ble_eq_true rfl⟩ (Nat.le_of_ble_eq_true rfl) rfl rfl (fun _ h9 => h9) rfl rfl (Nat.le_of_ble_eq_true rfl) dX9_isMarked_6 rfl ?_
  refine wq_if_eq (tgt := 25) F dX9_isMarked_9 (by decide) rfl (fun hc => ?_) (fun hc => ?_)
  · replace h := wq_ift hc h
    refine wq_iconst (n := 0) F dX9_isMarked_25 rfl ?_
    cases h
    exact wq_zret F (by decide) rfl rfl dX9_isMarked_26
  · replace h := wq_iff hc h
    refine wq_aload_n F dX9_isMarked_12 rfl rfl rfl ?_
    refine wq_g_X9_38 F dX9_isMarked_13 rfl ?_
    refine wq_iload_n F dX9_isMarked_16 rfl rfl rfl ?_
    obtain ⟨t5, ht5, wt5, h⟩ := wq_ix_some h
    refine wq_zald F (Nat.le_of_ble_eq_true rfl) wq_EM_marked ht5 wt5 dX9_isMarked_17 rfl ?_
    refine wq_if_eq (tgt := 25) F dX9_isMarked_18 (by decide) rfl (fun hc => ?_) (fun hc => ?_)
    · replace h := wq_ift hc h
      refine wq_iconst (n := 0) F dX9_isMarked_25 rfl ?_
      cases h
      exact wq_zret F (by decide) rfl rfl dX9_isMarked_26
    · replace h := wq_iff hc h
      refine wq_iconst (n := 1) F dX9_isMarked_21 rfl ?_
      refine wq_goto (tgt := 26) F dX9_isMarked_22 (by decide) ?_
      cases h
      exact wq_zret F (by decide) rfl rfl dX9_isMarked_26
set_option maxHeartbeats 4000000 in
set_option maxRecDepth 100000 in
theorem tj_X9_addReport_23 {p : Program} {l : Launch} {e : Env} {s : State} {m : MethodId} {args : Array Value} {below : List Frame} {meth : Method} {c : Code} {D : va_G} {Ar : Nat → ClassId} {b : Nat} (F : wq_Fr p s m args meth c cX9_addReport 2 ((Option.some Jvm.ClassFile.FieldType.int)) "WharfQueryModel" D Ar) {r0 : Int} {S0 : wq_St} {j1 : Int} (z0 : Int) (z1 : Int) (S : wq_St) (h : j_X9_addReport_23 j1 z0 z1 S = some (r0, S0)) : wq_Z p l e (wq_rm 2 0 0) s m args below meth c D (wq_EM Ar b) b 32 2 (wq_Ab b 32) (MQ below (wq_Qc D (wq_EM Ar b) b 32 (some (.int (wq_I r0))) S0) args s 0 0 (wq_Ab b 32)) 0 0 23 [some (.ref (b + 0)), some (.int (wq_I j1))] [.int (wq_I z0), .int (wq_I z1), .ref (b + 0)] S := by
  unfold j_X9_addReport_23 at h
  obtain ⟨r3, S4, h1r3, h⟩ := wq_bd_some h
  refine wq_callV (As := [.int (wq_I z1), .int (wq_I z0)]) F lk_X9_135 (ct_X9_asked_ h1r3) ⟨Nat.le_of_ble_eq_true rfl, Nat.le_of_ble_eq_true rfl⟩ ⟨Nat.le_of_ble_eq_true rfl, Nat.le_of_ble_eq_true rfl⟩ (Nat.le_of_ble_eq_true rfl) rfl rfl (fun _ h9 => h9) rfl rfl (Nat.le_of_ble_eq_true rfl) dX9_addReport_23 rfl ?_
  refine wq_if_ne (tgt := 31) F dX9_addReport_26 (by decide) rfl (fun hc => ?_) (fun hc => ?_)
  · replace h := wq_iff hc h
    refine wq_aload_n F dX9_addReport_31 rfl rfl rfl ?_
    refine wq_g_X9_45 F dX9_addReport_32 rfl ?_
    refine wq_aload_n F dX9_addReport_35 rfl rfl rfl ?_
    refine wq_g_X9_122 F dX9_addReport_36 rfl ?_
    refine wq_iload_n F dX9_addReport_39 rfl rfl rfl ?_
    obtain ⟨t5, ht5, wt5, h⟩ := wq_ix_some h
    refine wq_iast F (Nat.le_of_ble_eq_true rfl) wq_EM_penalty wq_EM_penalty ht5 wt5 ⟨Nat.le_add_right _ _, Nat.add_lt_add_left (Nat.le_of_ble_eq_true rfl) b⟩ dX9_addReport_40 rfl ?_
    obtain ⟨S6, eS6, h⟩ := wq_lt_some h
    refine wq_namS eS6 ?_
    refine wq_aload_n F dX9_addReport_41 rfl rfl rfl ?_
    refine wq_g_X9_78 F dX9_addReport_42 rfl ?_
    refine wq_aload_n F dX9_addReport_45 rfl rfl rfl ?_
    refine wq_g_X9_122 F dX9_addReport_46 rfl ?_
    refine wq_iconst (n := -1) F dX9_addReport_49 rfl ?_
    obtain ⟨t7, ht7, wt7, h⟩ := wq_ix_some h
    refine wq_iast F (Nat.le_of_ble_eq_true rfl) wq_EM_sumSource wq_EM_sumSource ht7 wt7 ⟨Nat.le_add_right _ _, Nat.add_lt_add_left (Nat.le_of_ble_eq_true rfl) b⟩ dX9_addReport_50 rfl ?_
    obtain ⟨S8, eS8, h⟩ := wq_lt_some h
    refine wq_namS eS8 ?_
    refine wq_aload_n F dX9_addReport_51 rfl rfl rfl ?_
    refine wq_g_X9_84 F dX9_addReport_52 rfl ?_
    refine wq_aload_n F dX9_addReport_55 rfl rfl rfl ?_
    refine wq_g_X9_122 F dX9_addReport_56 rfl ?_
    refine wq_iconst (n := -1) F dX9_addReport_59 rfl ?_
    obtain ⟨t9, ht9, wt9, h⟩ := wq_ix_some h
    refine wq_iast F (Nat.le_of_ble_eq_true rfl) wq_EM_kept wq_EM_kept ht9 wt9 ⟨Nat.le_add_right _ _, Nat.add_lt_add_left (Nat.le_of_ble_eq_true rfl) b⟩ dX9_addReport_60 rfl ?_
    obtain ⟨S10, eS10, h⟩ := wq_lt_some h
    refine wq_namS eS10 ?_
    refine wq_aload_n F dX9_addReport_61 rfl rfl rfl ?_
    refine wq_g_X9_87 F dX9_addReport_62 rfl ?_
    refine wq_aload_n F dX9_addReport_65 rfl rfl rfl ?_
    refine wq_g_X9_122 F dX9_addReport_66 rfl ?_
    refine wq_iconst (n := -1) F dX9_addReport_69 rfl ?_
    obtain ⟨t11, ht11, wt11, h⟩ := wq_ix_some h
    refine wq_iast F (Nat.le_of_ble_eq_true rfl) wq_EM_keptSum wq_EM_keptSum ht11 wt11 ⟨Nat.le_add_right _ _, Nat.add_lt_add_left (Nat.le_of_ble_eq_true rfl) b⟩ dX9_addReport_70 rfl ?_
    obtain ⟨S12, eS12, h⟩ := wq_lt_some h
    refine wq_namS eS12 ?_
    refine wq_aload_n F dX9_addReport_71 rfl rfl rfl ?_
    refine wq_g_X9_90 F dX9_addReport_72 rfl ?_
    refine wq_aload_n F dX9_addReport_75 rfl rfl rfl ?_
    refine wq_g_X9_122 F dX9_addReport_76 rfl ?_
    refine wq_iconst (n := -1) F dX9_addReport_79 rfl ?_
    obtain ⟨t13, ht13, wt13, h⟩ := wq_ix_some h
    refine wq_iast F (Nat.le_of_ble_eq_true rfl) wq_EM_keptIn wq_EM_keptIn ht13 wt13 ⟨Nat.le_add_right _ _, Nat.add_lt_add_left (Nat.le_of_ble_eq_true rfl) b⟩ dX9_addReport_80 rfl ?_
    obtain ⟨S14, eS14, h⟩ := wq_lt_some h
    refine wq_namS eS14 ?_
    refine wq_aload_n F dX9_addReport_81 rfl rfl rfl ?_
    refine wq_dup1 F rfl dX9_addReport_82 rfl ?_
    refine wq_g_X9_122 F dX9_addReport_83 rfl ?_
    refine wq_iconst (n := 1) F dX9_addReport_86 rfl ?_
    refine wq_iadd F dX9_addReport_87 rfl ?_
    refine wq_p_X9_122 F (fun _ h9 => h9) dX9_addReport_88 rfl ?_
    obtain ⟨S15, eS15, h⟩ := wq_lt_some h
    refine wq_namS eS15 ?_
    refine wq_aload_n F dX9_addReport_91 rfl rfl rfl ?_
    refine wq_g_X9_122 F dX9_addReport_92 rfl ?_
    refine wq_iconst (n := 1) F dX9_addReport_95 rfl ?_
    refine wq_isub F dX9_addReport_96 rfl ?_
    cases h
    exact wq_iret F rfl rfl dX9_addReport_97
  · replace h := wq_ift hc h
    refine wq_iconst (n := 0) F dX9_addReport_29 rfl ?_
    cases h
    exact wq_iret F rfl rfl dX9_addReport_30
set_option maxHeartbeats 4000000 in
set_option maxRecDepth 100000 in
theorem ct_X9_addReport {l : Launch} {D : va_G} {Ar : Nat → ClassId} {b : Nat} {x1 : Int} {S S0 : wq_St} {r0 : Int} (h : f_X9_addReport x1 S = some (r0, S0)) : wq_Ct l yX9_addReport (.code yX9_addReport cX9_addReport 2 ((Option.some Jvm.ClassFile.FieldType.int))) 2 D Ar (wq_EM Ar b) b 32 [.ref (b + 0), .int (wq_I x1)] S (some (.int (wq_I r0))) S0 := by
  refine wq_start "WharfQueryModel" [some (.ref (b + 0)), some (.int (wq_I x1))] (by decide +kernel) rfl (Nat.le_of_ble_eq_true rfl) rfl ?_
  intro p e s m args below meth c F
  unfold f_X9_addReport at h
  refine wq_aload_n F dX9_addReport_0 rfl rfl rfl ?_
  refine wq_iload_n F dX9_addReport_1 rfl rfl rfl ?_
  refine wq_iconst (n := 0) F dX9_addReport_2 rfl ?_
  refine wq_sipush (n := 1000) F dX9_addReport_3 (by decide) rfl ?_
  obtain ⟨r1, S2, h1r1, h⟩ := wq_bd_some h
  refine wq_callS (As := [.int (wq_I x1), .int (wq_I 0), .int (wq_I 1000)]) F lk_X9_114 (ct_X9_in h1r1) ⟨Nat.le_of_ble_eq_true rfl, Nat.le_of_ble_eq_true rfl⟩ ⟨Nat.le_of_ble_eq_true rfl, Nat.le_of_ble_eq_true rfl⟩ (fun _ h9 => h9) rfl rfl (Nat.le_of_ble_eq_true rfl) dX9_addReport_6 rfl ?_
  refine wq_aload_n F dX9_addReport_9 rfl rfl rfl ?_
  refine wq_g_X9_122 F dX9_addReport_10 rfl ?_
  refine wq_bipush (n := 8) F dX9_addReport_13 (by decide) rfl ?_
  refine wq_icmp_ge (tgt := 22) F dX9_addReport_15 (by decide) rfl (fun hc => ?_) (fun hc => ?_)
  · replace h := wq_ift hc h
    refine wq_iconst (n := 0) F dX9_addReport_22 rfl ?_
    exact wq_lsub [some (.ref (b + 0)), some (.int (wq_I x1))] (by simp [wq_sub]) (tj_X9_addReport_23 F 0 r1 S2 h)
  · replace h := wq_iff hc h
    refine wq_iconst (n := 1) F dX9_addReport_18 rfl ?_
    refine wq_goto (tgt := 23) F dX9_addReport_19 (by decide) ?_
    exact wq_lsub [some (.ref (b + 0)), some (.int (wq_I x1))] (by simp [wq_sub]) (tj_X9_addReport_23 F 1 r1 S2 h)
set_option maxHeartbeats 4000000 in
set_option maxRecDepth 100000 in
theorem tj_X9_addSource_43 {p : Program} {l : Launch} {e : Env} {s : State} {m : MethodId} {args : Array Value} {below : List Frame} {meth : Method} {c : Code} {D : va_G} {Ar : Nat → ClassId} {b : Nat} (F : wq_Fr p s m args meth c cX9_addSource 4 ((Option.some Jvm.ClassFile.FieldType.int)) "WharfQueryModel" D Ar) {r0 : Int} {S0 : wq_St} {j1 : Int} {j2 : Int} (z0 : Int) (z1 : Int) (S : wq_St) (h : j_X9_addSource_43 j1 j2 z0 z1 S = some (r0, S0)) : wq_Z p l e (wq_rm 3 0 0) s m args below meth c D (wq_EM Ar b) b 32 4 (wq_Ab b 32) (MQ below (wq_Qc D (wq_EM Ar b) b 32 (some (.int (wq_I r0))) S0) args s 0 0 (wq_Ab b 32)) 0 0 43 [some (.ref (b + 0)), some (.int (wq_I j1)), some (.int (wq_I j2)), none] [.int (wq_I z0), .int (wq_I z1), .ref (b + 0)] S := by
  unfold j_X9_addSource_43 at h
  obtain ⟨r3, S4, h1r3, h⟩ := wq_bd_some h
  refine wq_callV (As := [.int (wq_I z1), .int (wq_I z0)]) F lk_X9_135 (ct_X9_asked_ h1r3) ⟨Nat.le_of_ble_eq_true rfl, Nat.le_of_ble_eq_true rfl⟩ ⟨Nat.le_of_ble_eq_true rfl, Nat.le_of_ble_eq_true rfl⟩ (Nat.le_of_ble_eq_true rfl) rfl rfl (fun _ h9 => h9) rfl rfl (Nat.le_of_ble_eq_true rfl) dX9_addSource_43 rfl ?_
  refine wq_if_ne (tgt := 51) F dX9_addSource_46 (by decide) rfl (fun hc => ?_) (fun hc => ?_)
  · replace h := wq_iff hc h
    refine wq_aload_n F dX9_addSource_51 rfl rfl rfl ?_
    refine wq_g_X9_54 F dX9_addSource_52 rfl ?_
    refine wq_iconst (n := 3) F dX9_addSource_55 rfl ?_
    refine wq_iload_n F dX9_addSource_56 rfl rfl rfl ?_
    refine wq_imul F dX9_addSource_57 rfl ?_
    refine wq_aload_n F dX9_addSource_58 rfl rfl rfl ?_
    refine wq_g_X9_51 F dX9_addSource_59 rfl ?_
    refine wq_iload_n F dX9_addSource_62 rfl rfl rfl ?_
    obtain ⟨t5, ht5, wt5, h⟩ := wq_ix_some h
    refine wq_iald F (Nat.le_of_ble_eq_true rfl) wq_EM_sources ht5 wt5 dX9_addSource_63 rfl ?_
    refine wq_iadd F dX9_addSource_64 rfl ?_
    refine wq_iload_n F dX9_addSource_65 rfl rfl rfl ?_
    obtain ⟨t6, ht6, wt6, h⟩ := wq_ix_some h
    refine wq_iast F (Nat.le_of_ble_eq_true rfl) wq_EM_tableOf wq_EM_tableOf ht6 wt6 ⟨Nat.le_add_right _ _, Nat.add_lt_add_left (Nat.le_of_ble_eq_true rfl) b⟩ dX9_addSource_66 rfl ?_
    obtain ⟨S7, eS7, h⟩ := wq_lt_some h
    refine wq_namS eS7 ?_
    refine wq_aload_n F dX9_addSource_67 rfl rfl rfl ?_
    refine wq_g_X9_51 F dX9_addSource_68 rfl ?_
    refine wq_iload_n F dX9_addSource_71 rfl rfl rfl ?_
    refine wq_dup211 F rfl rfl dX9_addSource_72 rfl ?_
    obtain ⟨t8, ht8, wt8, h⟩ := wq_ix_some h
    refine wq_iald F (Nat.le_of_ble_eq_true rfl) wq_EM_sources ht8 wt8 dX9_addSource_73 rfl ?_
    refine wq_iconst (n := 1) F dX9_addSource_74 rfl ?_
    refine wq_iadd F dX9_addSource_75 rfl ?_
    obtain ⟨t9, ht9, wt9, h⟩ := wq_ix_some h
    refine wq_iast F (Nat.le_of_ble_eq_true rfl) wq_EM_sources wq_EM_sources ht9 wt9 ⟨Nat.le_add_right _ _, Nat.add_lt_add_left (Nat.le_of_ble_eq_true rfl) b⟩ dX9_addSource_76 rfl ?_
    obtain ⟨S10, eS10, h⟩ := wq_lt_some h
    refine wq_namS eS10 ?_
    refine wq_aload_n F dX9_addSource_77 rfl rfl rfl ?_
    refine wq_g_X9_51 F dX9_addSource_78 rfl ?_
    refine wq_iload_n F dX9_addSource_81 rfl rfl rfl ?_
    obtain ⟨t11, ht11, wt11, h⟩ := wq_ix_some h
    refine wq_iald F (Nat.le_of_ble_eq_true rfl) wq_EM_sources ht11 wt11 dX9_addSource_82 rfl ?_
    refine wq_iconst (n := 1) F dX9_addSource_83 rfl ?_
    refine wq_isub F dX9_addSource_84 rfl ?_
    cases h
    exact wq_iret F rfl rfl dX9_addSource_85
  · replace h := wq_ift hc h
    refine wq_iconst (n := 0) F dX9_addSource_49 rfl ?_
    cases h
    exact wq_iret F rfl rfl dX9_addSource_50
set_option maxHeartbeats 4000000 in
set_option maxRecDepth 100000 in
theorem tj_X9_addSource_42 {p : Program} {l : Launch} {e : Env} {s : State} {m : MethodId} {args : Array Value} {below : List Frame} {meth : Method} {c : Code} {D : va_G} {Ar : Nat → ClassId} {b : Nat} (F : wq_Fr p s m args meth c cX9_addSource 4 ((Option.some Jvm.ClassFile.FieldType.int)) "WharfQueryModel" D Ar) {r0 : Int} {S0 : wq_St} {j1 : Int} {j2 : Int} (z0 : Int) (S : wq_St) (h : j_X9_addSource_42 j1 j2 z0 S = some (r0, S0)) : wq_Z p l e (wq_rm 3 0 0) s m args below meth c D (wq_EM Ar b) b 32 4 (wq_Ab b 32) (MQ below (wq_Qc D (wq_EM Ar b) b 32 (some (.int (wq_I r0))) S0) args s 0 0 (wq_Ab b 32)) 0 0 42 [some (.ref (b + 0)), some (.int (wq_I j1)), some (.int (wq_I j2)), none] [.int (wq_I z0), .ref (b + 0)] S := by
  unfold j_X9_addSource_42 at h
  refine wq_iconst (n := 0) F dX9_addSource_42 rfl ?_
  exact wq_lsub [some (.ref (b + 0)), some (.int (wq_I j1)), some (.int (wq_I j2)), none] (by simp [wq_sub]) (tj_X9_addSource_43 F 0 z0 S h)
set_option maxHeartbeats 4000000 in
set_option maxRecDepth 100000 in
theorem tj_X9_addSource_21 {p : Program} {l : Launch} {e : Env} {s : State} {m : MethodId} {args : Array Value} {below : List Frame} {meth : Method} {c : Code} {D : va_G} {Ar : Nat → ClassId} {b : Nat} (F : wq_Fr p s m args meth c cX9_addSource 4 ((Option.some Jvm.ClassFile.FieldType.int)) "WharfQueryModel" D Ar) {r0 : Int} {S0 : wq_St} {j1 : Int} {j2 : Int} (z0 : Int) (S : wq_St) (h : j_X9_addSource_21 j1 j2 z0 S = some (r0, S0)) : wq_Z p l e (wq_rm 3 0 0) s m args below meth c D (wq_EM Ar b) b 32 4 (wq_Ab b 32) (MQ below (wq_Qc D (wq_EM Ar b) b 32 (some (.int (wq_I r0))) S0) args s 0 0 (wq_Ab b 32)) 0 0 21 [some (.ref (b + 0)), some (.int (wq_I j1)), some (.int (wq_I j2)), none] [.int (wq_I z0)] S := by
  unfold j_X9_addSource_21 at h
  refine wq_istore_n (L' := [some (.ref (b + 0)), some (.int (wq_I j1)), some (.int (wq_I j2)), some (.int (wq_I z0))]) F dX9_addSource_21 rfl (by decide) rfl rfl rfl ?_
  refine wq_aload_n F dX9_addSource_22 rfl rfl rfl ?_
  refine wq_iload_n F dX9_addSource_23 rfl rfl rfl ?_
  refine wq_iload_n F dX9_addSource_24 rfl rfl rfl ?_
  refine wq_if_eq (tgt := 42) F dX9_addSource_25 (by decide) rfl (fun hc => ?_) (fun hc => ?_)
  · replace h := wq_ift hc h
    exact wq_lsub [some (.ref (b + 0)), some (.int (wq_I j1)), some (.int (wq_I j2)), none] (by simp [wq_sub]) (tj_X9_addSource_42 F z0 S h)
  · replace h := wq_iff hc h
    refine wq_aload_n F dX9_addSource_28 rfl rfl rfl ?_
    refine wq_g_X9_51 F dX9_addSource_29 rfl ?_
    refine wq_iload_n F dX9_addSource_32 rfl rfl rfl ?_
    obtain ⟨t12, ht12, wt12, h⟩ := wq_ix_some h
    refine wq_iald F (Nat.le_of_ble_eq_true rfl) wq_EM_sources ht12 wt12 dX9_addSource_33 rfl ?_
    refine wq_iconst (n := 3) F dX9_addSource_34 rfl ?_
    refine wq_icmp_ge (tgt := 42) F dX9_addSource_35 (by decide) rfl (fun hc => ?_) (fun hc => ?_)
    · replace h := wq_ift hc h
      exact wq_lsub [some (.ref (b + 0)), some (.int (wq_I j1)), some (.int (wq_I j2)), none] (by simp [wq_sub]) (tj_X9_addSource_42 F z0 S h)
    · replace h := wq_iff hc h
      refine wq_iconst (n := 1) F dX9_addSource_38 rfl ?_
      refine wq_goto (tgt := 43) F dX9_addSource_39 (by decide) ?_
      exact wq_lsub [some (.ref (b + 0)), some (.int (wq_I j1)), some (.int (wq_I j2)), none] (by simp [wq_sub]) (tj_X9_addSource_43 F 1 z0 S h)
set_option maxHeartbeats 4000000 in
set_option maxRecDepth 100000 in
theorem tj_X9_addSource_20 {p : Program} {l : Launch} {e : Env} {s : State} {m : MethodId} {args : Array Value} {below : List Frame} {meth : Method} {c : Code} {D : va_G} {Ar : Nat → ClassId} {b : Nat} (F : wq_Fr p s m args meth c cX9_addSource 4 ((Option.some Jvm.ClassFile.FieldType.int)) "WharfQueryModel" D Ar) {r0 : Int} {S0 : wq_St} {j1 : Int} {j2 : Int} (S : wq_St) (h : j_X9_addSource_20 j1 j2 S = some (r0, S0)) : wq_Z p l e (wq_rm 3 0 0) s m args below meth c D (wq_EM Ar b) b 32 4 (wq_Ab b 32) (MQ below (wq_Qc D (wq_EM Ar b) b 32 (some (.int (wq_I r0))) S0) args s 0 0 (wq_Ab b 32)) 0 0 20 [some (.ref (b + 0)), some (.int (wq_I j1)), some (.int (wq_I j2)), none] [] S := by
  unfold j_X9_addSource_20 at h
  refine wq_iconst (n := 0) F dX9_addSource_20 rfl ?_
  exact wq_lsub [some (.ref (b + 0)), some (.int (wq_I j1)), some (.int (wq_I j2)), none] (by simp [wq_sub]) (tj_X9_addSource_21 F 0 S h)
set_option maxHeartbeats 4000000 in
set_option maxRecDepth 100000 in
theorem ct_X9_addSource {l : Launch} {D : va_G} {Ar : Nat → ClassId} {b : Nat} {x1 : Int} {x2 : Int} {S S0 : wq_St} {r0 : Int} (h : f_X9_addSource x1 x2 S = some (r0, S0)) : wq_Ct l yX9_addSource (.code yX9_addSource cX9_addSource 4 ((Option.some Jvm.ClassFile.FieldType.int))) 3 D Ar (wq_EM Ar b) b 32 [.ref (b + 0), .int (wq_I x1), .int (wq_I x2)] S (some (.int (wq_I r0))) S0 := by
  refine wq_start "WharfQueryModel" [some (.ref (b + 0)), some (.int (wq_I x1)), some (.int (wq_I x2)), none] (by decide +kernel) rfl (Nat.le_of_ble_eq_true rfl) rfl ?_
  intro p e s m args below meth c F
  unfold f_X9_addSource at h
  refine wq_aload_n F dX9_addSource_0 rfl rfl rfl ?_
  refine wq_iload_n F dX9_addSource_1 rfl rfl rfl ?_
  obtain ⟨r1, S2, h1r1, h⟩ := wq_bd_some h
  refine wq_callV (As := [.int (wq_I x1)]) F lk_X9_125 (ct_X9_isReport h1r1) ⟨Nat.le_of_ble_eq_true rfl, Nat.le_of_ble_eq_true rfl⟩ ⟨Nat.le_of_ble_eq_true rfl, Nat.le_of_ble_eq_true rfl⟩ (Nat.le_of_ble_eq_true rfl) rfl rfl (fun _ h9 => h9) rfl rfl (Nat.le_of_ble_eq_true rfl) dX9_addSource_2 rfl ?_
  refine wq_if_eq (tgt := 20) F dX9_addSource_5 (by decide) rfl (fun hc => ?_) (fun hc => ?_)
  · replace h := wq_ift hc h
    exact wq_lsub [some (.ref (b + 0)), some (.int (wq_I x1)), some (.int (wq_I x2)), none] (by simp [wq_sub]) (tj_X9_addSource_20 F S2 h)
  · replace h := wq_iff hc h
    refine wq_aload_n F dX9_addSource_8 rfl rfl rfl ?_
    refine wq_iload_n F dX9_addSource_9 rfl rfl rfl ?_
    obtain ⟨r13, S14, h1r13, h⟩ := wq_bd_some h
    refine wq_callV (As := [.int (wq_I x2)]) F lk_X9_118 (ct_X9_isTable h1r13) ⟨Nat.le_of_ble_eq_true rfl, Nat.le_of_ble_eq_true rfl⟩ ⟨Nat.le_of_ble_eq_true rfl, Nat.le_of_ble_eq_true rfl⟩ (Nat.le_of_ble_eq_true rfl) rfl rfl (fun _ h9 => h9) rfl rfl (Nat.le_of_ble_eq_true rfl) dX9_addSource_10 rfl ?_
    refine wq_if_eq (tgt := 20) F dX9_addSource_13 (by decide) rfl (fun hc => ?_) (fun hc => ?_)
    · replace h := wq_ift hc h
      exact wq_lsub [some (.ref (b + 0)), some (.int (wq_I x1)), some (.int (wq_I x2)), none] (by simp [wq_sub]) (tj_X9_addSource_20 F S14 h)
    · replace h := wq_iff hc h
      refine wq_iconst (n := 1) F dX9_addSource_16 rfl ?_
      refine wq_goto (tgt := 21) F dX9_addSource_17 (by decide) ?_
      exact wq_lsub [some (.ref (b + 0)), some (.int (wq_I x1)), some (.int (wq_I x2)), none] (by simp [wq_sub]) (tj_X9_addSource_21 F 1 S14 h)
set_option maxHeartbeats 4000000 in
set_option maxRecDepth 100000 in
theorem ct_X9_adds {l : Launch} {D : va_G} {Ar : Nat → ClassId} {b : Nat} {x1 : Int} {x2 : Int} {x3 : Int} {x4 : Int} {S S0 : wq_St} {r0 : Int} (h : f_X9_adds x1 x2 x3 x4 S = some (r0, S0)) : wq_Ct l yX9_adds (.code yX9_adds cX9_adds 6 ((Option.some Jvm.ClassFile.FieldType.int))) 1 D Ar (wq_EM Ar b) b 32 [.ref (b + 0), .int (wq_I x1), .int (wq_I x2), .int (wq_I x3), .int (wq_I x4)] S (some (.int (wq_I r0))) S0 := by
  refine wq_start "WharfQueryModel" [some (.ref (b + 0)), some (.int (wq_I x1)), some (.int (wq_I x2)), some (.int (wq_I x3)), some (.int (wq_I x4)), none] (by decide +kernel) rfl (Nat.le_of_ble_eq_true rfl) rfl ?_
  intro p e s m args below meth c F
  unfold f_X9_adds at h
  refine wq_bipush (n := 6) F dX9_adds_0 (by decide) rfl ?_
  refine wq_iload_n F dX9_adds_2 rfl rfl rfl ?_
  refine wq_imul F dX9_adds_3 rfl ?_
  refine wq_aload_n F dX9_adds_4 rfl rfl rfl ?_
  refine wq_g_X9_57 F dX9_adds_5 rfl ?_
  refine wq_iload_n F dX9_adds_8 rfl rfl rfl ?_
  obtain ⟨t1, ht1, wt1, h⟩ := wq_ix_some h
  refine wq_iald F (Nat.le_of_ble_eq_true rfl) wq_EM_conditions ht1 wt1 dX9_adds_9 rfl ?_
  refine wq_iadd F dX9_adds_10 rfl ?_
  refine wq_istore (L' := [some (.ref (b + 0)), some (.int (wq_I x1)), some (.int (wq_I x2)), some (.int (wq_I x3)), some (.int (wq_I x4)), some (.int (wq_I ((6 * x1) + (S 15 t1))))]) F dX9_adds_11 (by decide) rfl rfl rfl ?_
  refine wq_aload_n F dX9_adds_13 rfl rfl rfl ?_
  refine wq_g_X9_60 F dX9_adds_14 rfl ?_
  refine wq_iload F dX9_adds_17 rfl rfl ?_
  refine wq_iload_n F dX9_adds_19 rfl rfl rfl ?_
  obtain ⟨t2, ht2, wt2, h⟩ := wq_ix_some h
  refine wq_iast F (Nat.le_of_ble_eq_true rfl) wq_EM_kind wq_EM_kind ht2 wt2 ⟨Nat.le_add_right _ _, Nat.add_lt_add_left (Nat.le_of_ble_eq_true rfl) b⟩ dX9_adds_20 rfl ?_
  obtain ⟨S3, eS3, h⟩ := wq_lt_some h
  refine wq_namS eS3 ?_
  refine wq_aload_n F dX9_adds_21 rfl rfl rfl ?_
  refine wq_g_X9_63 F dX9_adds_22 rfl ?_
  refine wq_iload F dX9_adds_25 rfl rfl ?_
  refine wq_iload_n F dX9_adds_27 rfl rfl rfl ?_
  obtain ⟨t4, ht4, wt4, h⟩ := wq_ix_some h
  refine wq_iast F (Nat.le_of_ble_eq_true rfl) wq_EM_source wq_EM_source ht4 wt4 ⟨Nat.le_add_right _ _, Nat.add_lt_add_left (Nat.le_of_ble_eq_true rfl) b⟩ dX9_adds_28 rfl ?_
  obtain ⟨S5, eS5, h⟩ := wq_lt_some h
  refine wq_namS eS5 ?_
  refine wq_aload_n F dX9_adds_29 rfl rfl rfl ?_
  refine wq_g_X9_66 F dX9_adds_30 rfl ?_
  refine wq_iload F dX9_adds_33 rfl rfl ?_
  refine wq_iload F dX9_adds_35 rfl rfl ?_
  obtain ⟨t6, ht6, wt6, h⟩ := wq_ix_some h
  refine wq_iast F (Nat.le_of_ble_eq_true rfl) wq_EM_column wq_EM_column ht6 wt6 ⟨Nat.le_add_right _ _, Nat.add_lt_add_left (Nat.le_of_ble_eq_true rfl) b⟩ dX9_adds_37 rfl ?_
  obtain ⟨S7, eS7, h⟩ := wq_lt_some h
  refine wq_namS eS7 ?_
  refine wq_aload_n F dX9_adds_38 rfl rfl rfl ?_
  refine wq_g_X9_57 F dX9_adds_39 rfl ?_
  refine wq_iload_n F dX9_adds_42 rfl rfl rfl ?_
  refine wq_dup211 F rfl rfl dX9_adds_43 rfl ?_
  obtain ⟨t8, ht8, wt8, h⟩ := wq_ix_some h
  refine wq_iald F (Nat.le_of_ble_eq_true rfl) wq_EM_conditions ht8 wt8 dX9_adds_44 rfl ?_
  refine wq_iconst (n := 1) F dX9_adds_45 rfl ?_
  refine wq_iadd F dX9_adds_46 rfl ?_
  obtain ⟨t9, ht9, wt9, h⟩ := wq_ix_some h
  refine wq_iast F (Nat.le_of_ble_eq_true rfl) wq_EM_conditions wq_EM_conditions ht9 wt9 ⟨Nat.le_add_right _ _, Nat.add_lt_add_left (Nat.le_of_ble_eq_true rfl) b⟩ dX9_adds_47 rfl ?_
  obtain ⟨S10, eS10, h⟩ := wq_lt_some h
  refine wq_namS eS10 ?_
  refine wq_aload_n F dX9_adds_48 rfl rfl rfl ?_
  refine wq_g_X9_57 F dX9_adds_49 rfl ?_
  refine wq_iload_n F dX9_adds_52 rfl rfl rfl ?_
  obtain ⟨t11, ht11, wt11, h⟩ := wq_ix_some h
  refine wq_iald F (Nat.le_of_ble_eq_true rfl) wq_EM_conditions ht11 wt11 dX9_adds_53 rfl ?_
  refine wq_iconst (n := 1) F dX9_adds_54 rfl ?_
  refine wq_isub F dX9_adds_55 rfl ?_
  cases h
  exact wq_iret F rfl rfl dX9_adds_56
set_option maxHeartbeats 4000000 in
set_option maxRecDepth 100000 in
theorem tj_X9_addCondition_60 {p : Program} {l : Launch} {e : Env} {s : State} {m : MethodId} {args : Array Value} {below : List Frame} {meth : Method} {c : Code} {D : va_G} {Ar : Nat → ClassId} {b : Nat} (F : wq_Fr p s m args meth c cX9_addCondition 7 ((Option.some Jvm.ClassFile.FieldType.int)) "WharfQueryModel" D Ar) {r0 : Int} {S0 : wq_St} {j1 : Int} {j2 : Int} {j3 : Int} {j4 : Int} {j5 : Int} (z0 : Int) (z1 : Int) (z2 : Int) (S : wq_St) (h : j_X9_addCondition_60 j1 j2 j3 j4 j5 z0 z1 z2 S = some (r0, S0)) : wq_Z p l e (wq_rm 5 0 0) s m args below meth c D (wq_EM Ar b) b 32 7 (wq_Ab b 32) (MQ below (wq_Qc D (wq_EM Ar b) b 32 (some (.int (wq_I r0))) S0) args s 0 0 (wq_Ab b 32)) 0 0 60 [some (.ref (b + 0)), some (.int (wq_I j1)), some (.int (wq_I j2)), some (.int (wq_I j3)), some (.int (wq_I j4)), some (.int (wq_I j5)), none] [.int (wq_I z0), .int (wq_I z1), .int (wq_I z2), .ref (b + 0)] S := by
  unfold j_X9_addCondition_60 at h
  obtain ⟨r5, S6, h1r5, h⟩ := wq_bd_some h
  refine wq_callV (As := [.int (wq_I z2), .int (wq_I z1), .int (wq_I z0)]) F lk_X9_139 (ct_X9_asked__ h1r5) ⟨Nat.le_of_ble_eq_true rfl, Nat.le_of_ble_eq_true rfl⟩ ⟨Nat.le_of_ble_eq_true rfl, Nat.le_of_ble_eq_true rfl⟩ (Nat.le_of_ble_eq_true rfl) rfl rfl (fun _ h9 => h9) rfl rfl (Nat.le_of_ble_eq_true rfl) dX9_addCondition_60 rfl ?_
  refine wq_if_ne (tgt := 68) F dX9_addCondition_63 (by decide) rfl (fun hc => ?_) (fun hc => ?_)
  · replace h := wq_iff hc h
    refine wq_aload_n F dX9_addCondition_68 rfl rfl rfl ?_
    refine wq_g_X9_69 F dX9_addCondition_69 rfl ?_
    refine wq_bipush (n := 6) F dX9_addCondition_72 (by decide) rfl ?_
    refine wq_iload_n F dX9_addCondition_74 rfl rfl rfl ?_
    refine wq_imul F dX9_addCondition_75 rfl ?_
    refine wq_aload_n F dX9_addCondition_76 rfl rfl rfl ?_
    refine wq_g_X9_57 F dX9_addCondition_77 rfl ?_
    refine wq_iload_n F dX9_addCondition_80 rfl rfl rfl ?_
    obtain ⟨t7, ht7, wt7, h⟩ := wq_ix_some h
    refine wq_iald F (Nat.le_of_ble_eq_true rfl) wq_EM_conditions ht7 wt7 dX9_addCondition_81 rfl ?_
    refine wq_iadd F dX9_addCondition_82 rfl ?_
    refine wq_iload F dX9_addCondition_83 rfl rfl ?_
    obtain ⟨t8, ht8, wt8, h⟩ := wq_ix_some h
    refine wq_iast F (Nat.le_of_ble_eq_true rfl) wq_EM_number wq_EM_number ht8 wt8 ⟨Nat.le_add_right _ _, Nat.add_lt_add_left (Nat.le_of_ble_eq_true rfl) b⟩ dX9_addCondition_85 rfl ?_
    obtain ⟨S9, eS9, h⟩ := wq_lt_some h
    refine wq_namS eS9 ?_
    refine wq_aload_n F dX9_addCondition_86 rfl rfl rfl ?_
    refine wq_iload_n F dX9_addCondition_87 rfl rfl rfl ?_
    refine wq_iload F dX9_addCondition_88 rfl rfl ?_
    refine wq_iload_n F dX9_addCondition_90 rfl rfl rfl ?_
    refine wq_iload_n F dX9_addCondition_91 rfl rfl rfl ?_
    obtain ⟨r10, S11, h1r10, h⟩ := wq_bd_some h
    refine wq_callV (As := [.int (wq_I j1), .int (wq_I j4), .int (wq_I j2), .int (wq_I j3)]) F lk_X9_170 (ct_X9_adds h1r10) ⟨Nat.le_of_ble_eq_true rfl, Nat.le_of_ble_eq_true rfl⟩ ⟨Nat.le_of_ble_eq_true rfl, Nat.le_of_ble_eq_true rfl⟩ (Nat.le_of_ble_eq_true rfl) rfl rfl (fun _ h9 => h9) rfl rfl (Nat.le_of_ble_eq_true rfl) dX9_addCondition_92 rfl ?_
    cases h
    exact wq_iret F rfl rfl dX9_addCondition_95
  · replace h := wq_ift hc h
    refine wq_iconst (n := 0) F dX9_addCondition_66 rfl ?_
    cases h
    exact wq_iret F rfl rfl dX9_addCondition_67
set_option maxHeartbeats 4000000 in
set_option maxRecDepth 100000 in
theorem tj_X9_addCondition_59 {p : Program} {l : Launch} {e : Env} {s : State} {m : MethodId} {args : Array Value} {below : List Frame} {meth : Method} {c : Code} {D : va_G} {Ar : Nat → ClassId} {b : Nat} (F : wq_Fr p s m args meth c cX9_addCondition 7 ((Option.some Jvm.ClassFile.FieldType.int)) "WharfQueryModel" D Ar) {r0 : Int} {S0 : wq_St} {j1 : Int} {j2 : Int} {j3 : Int} {j4 : Int} {j5 : Int} (z0 : Int) (z1 : Int) (S : wq_St) (h : j_X9_addCondition_59 j1 j2 j3 j4 j5 z0 z1 S = some (r0, S0)) : wq_Z p l e (wq_rm 5 0 0) s m args below meth c D (wq_EM Ar b) b 32 7 (wq_Ab b 32) (MQ below (wq_Qc D (wq_EM Ar b) b 32 (some (.int (wq_I r0))) S0) args s 0 0 (wq_Ab b 32)) 0 0 59 [some (.ref (b + 0)), some (.int (wq_I j1)), some (.int (wq_I j2)), some (.int (wq_I j3)), some (.int (wq_I j4)), some (.int (wq_I j5)), none] [.int (wq_I z0), .int (wq_I z1), .ref (b + 0)] S := by
  unfold j_X9_addCondition_59 at h
  refine wq_iconst (n := 0) F dX9_addCondition_59 rfl ?_
  exact wq_lsub [some (.ref (b + 0)), some (.int (wq_I j1)), some (.int (wq_I j2)), some (.int (wq_I j3)), some (.int (wq_I j4)), some (.int (wq_I j5)), none] (by simp [wq_sub]) (tj_X9_addCondition_60 F 0 z0 z1 S h)
set_option maxHeartbeats 4000000 in
set_option maxRecDepth 100000 in
theorem tj_X9_addCondition_39 {p : Program} {l : Launch} {e : Env} {s : State} {m : MethodId} {args : Array Value} {below : List Frame} {meth : Method} {c : Code} {D : va_G} {Ar : Nat → ClassId} {b : Nat} (F : wq_Fr p s m args meth c cX9_addCondition 7 ((Option.some Jvm.ClassFile.FieldType.int)) "WharfQueryModel" D Ar) {r0 : Int} {S0 : wq_St} {j1 : Int} {j2 : Int} {j3 : Int} {j4 : Int} {j5 : Int} {j6 : Int} (z0 : Int) (z1 : Int) (S : wq_St) (h : j_X9_addCondition_39 j1 j2 j3 j4 j5 j6 z0 z1 S = some (r0, S0)) : wq_Z p l e (wq_rm 5 0 0) s m args below meth c D (wq_EM Ar b) b 32 7 (wq_Ab b 32) (MQ below (wq_Qc D (wq_EM Ar b) b 32 (some (.int (wq_I r0))) S0) args s 0 0 (wq_Ab b 32)) 0 0 39 [some (.ref (b + 0)), some (.int (wq_I j1)), some (.int (wq_I j2)), some (.int (wq_I j3)), some (.int (wq_I j4)), some (.int (wq_I j5)), some (.int (wq_I j6))] [.int (wq_I z0), .int (wq_I z1), .ref (b + 0)] S := by
  unfold j_X9_addCondition_39 at h
  refine wq_iload F dX9_addCondition_39 rfl rfl ?_
  refine wq_if_eq (tgt := 59) F dX9_addCondition_41 (by decide) rfl (fun hc => ?_) (fun hc => ?_)
  · replace h := wq_ift hc h
    exact wq_lsub [some (.ref (b + 0)), some (.int (wq_I j1)), some (.int (wq_I j2)), some (.int (wq_I j3)), some (.int (wq_I j4)), some (.int (wq_I j5)), none] (by simp [wq_sub]) (tj_X9_addCondition_59 F z0 z1 S h)
  · replace h := wq_iff hc h
    refine wq_aload_n F dX9_addCondition_44 rfl rfl rfl ?_
    refine wq_g_X9_57 F dX9_addCondition_45 rfl ?_
    refine wq_iload_n F dX9_addCondition_48 rfl rfl rfl ?_
    obtain ⟨t12, ht12, wt12, h⟩ := wq_ix_some h
    refine wq_iald F (Nat.le_of_ble_eq_true rfl) wq_EM_conditions ht12 wt12 dX9_addCondition_49 rfl ?_
    refine wq_bipush (n := 6) F dX9_addCondition_50 (by decide) rfl ?_
    refine wq_icmp_ge (tgt := 59) F dX9_addCondition_52 (by decide) rfl (fun hc => ?_) (fun hc => ?_)
    · replace h := wq_ift hc h
      exact wq_lsub [some (.ref (b + 0)), some (.int (wq_I j1)), some (.int (wq_I j2)), some (.int (wq_I j3)), some (.int (wq_I j4)), some (.int (wq_I j5)), none] (by simp [wq_sub]) (tj_X9_addCondition_59 F z0 z1 S h)
    · replace h := wq_iff hc h
      refine wq_iconst (n := 1) F dX9_addCondition_55 rfl ?_
      refine wq_goto (tgt := 60) F dX9_addCondition_56 (by decide) ?_
      exact wq_lsub [some (.ref (b + 0)), some (.int (wq_I j1)), some (.int (wq_I j2)), some (.int (wq_I j3)), some (.int (wq_I j4)), some (.int (wq_I j5)), none] (by simp [wq_sub]) (tj_X9_addCondition_60 F 1 z0 z1 S h)
set_option maxHeartbeats 4000000 in
set_option maxRecDepth 100000 in
theorem tj_X9_addCondition_38 {p : Program} {l : Launch} {e : Env} {s : State} {m : MethodId} {args : Array Value} {below : List Frame} {meth : Method} {c : Code} {D : va_G} {Ar : Nat → ClassId} {b : Nat} (F : wq_Fr p s m args meth c cX9_addCondition 7 ((Option.some Jvm.ClassFile.FieldType.int)) "WharfQueryModel" D Ar) {r0 : Int} {S0 : wq_St} {j1 : Int} {j2 : Int} {j3 : Int} {j4 : Int} {j5 : Int} {j6 : Int} (z0 : Int) (S : wq_St) (h : j_X9_addCondition_38 j1 j2 j3 j4 j5 j6 z0 S = some (r0, S0)) : wq_Z p l e (wq_rm 5 0 0) s m args below meth c D (wq_EM Ar b) b 32 7 (wq_Ab b 32) (MQ below (wq_Qc D (wq_EM Ar b) b 32 (some (.int (wq_I r0))) S0) args s 0 0 (wq_Ab b 32)) 0 0 38 [some (.ref (b + 0)), some (.int (wq_I j1)), some (.int (wq_I j2)), some (.int (wq_I j3)), some (.int (wq_I j4)), some (.int (wq_I j5)), some (.int (wq_I j6))] [.int (wq_I z0), .ref (b + 0)] S := by
  unfold j_X9_addCondition_38 at h
  refine wq_iconst (n := 0) F dX9_addCondition_38 rfl ?_
  exact wq_lsub [some (.ref (b + 0)), some (.int (wq_I j1)), some (.int (wq_I j2)), some (.int (wq_I j3)), some (.int (wq_I j4)), some (.int (wq_I j5)), some (.int (wq_I j6))] (by simp [wq_sub]) (tj_X9_addCondition_39 F 0 z0 S h)
set_option maxHeartbeats 4000000 in
set_option maxRecDepth 100000 in
theorem ct_X9_addCondition {l : Launch} {D : va_G} {Ar : Nat → ClassId} {b : Nat} {x1 : Int} {x2 : Int} {x3 : Int} {x4 : Int} {x5 : Int} {S S0 : wq_St} {r0 : Int} (h : f_X9_addCondition x1 x2 x3 x4 x5 S = some (r0, S0)) : wq_Ct l yX9_addCondition (.code yX9_addCondition cX9_addCondition 7 ((Option.some Jvm.ClassFile.FieldType.int))) 5 D Ar (wq_EM Ar b) b 32 [.ref (b + 0), .int (wq_I x1), .int (wq_I x2), .int (wq_I x3), .int (wq_I x4), .int (wq_I x5)] S (some (.int (wq_I r0))) S0 := by
  refine wq_start "WharfQueryModel" [some (.ref (b + 0)), some (.int (wq_I x1)), some (.int (wq_I x2)), some (.int (wq_I x3)), some (.int (wq_I x4)), some (.int (wq_I x5)), none] (by decide +kernel) rfl (Nat.le_of_ble_eq_true rfl) rfl ?_
  intro p e s m args below meth c F
  unfold f_X9_addCondition at h
  refine wq_aload_n F dX9_addCondition_0 rfl rfl rfl ?_
  refine wq_iload_n F dX9_addCondition_1 rfl rfl rfl ?_
  refine wq_iload_n F dX9_addCondition_2 rfl rfl rfl ?_
  refine wq_iload_n F dX9_addCondition_3 rfl rfl rfl ?_
  obtain ⟨r1, S2, h1r1, h⟩ := wq_bd_some h
  refine wq_callV (As := [.int (wq_I x1), .int (wq_I x2), .int (wq_I x3)]) F lk_X9_167 (ct_X9_isColumnOf h1r1) ⟨Nat.le_of_ble_eq_true rfl, Nat.le_of_ble_eq_true rfl⟩ ⟨Nat.le_of_ble_eq_true rfl, Nat.le_of_ble_eq_true rfl⟩ (Nat.le_of_ble_eq_true rfl) rfl rfl (fun _ h9 => h9) rfl rfl (Nat.le_of_ble_eq_true rfl) dX9_addCondition_4 rfl ?_
  refine wq_istore (L' := [some (.ref (b + 0)), some (.int (wq_I x1)), some (.int (wq_I x2)), some (.int (wq_I x3)), some (.int (wq_I x4)), some (.int (wq_I x5)), some (.int (wq_I r1))]) F dX9_addCondition_7 (by decide) rfl rfl rfl ?_
  refine wq_aload_n F dX9_addCondition_9 rfl rfl rfl ?_
  refine wq_iload F dX9_addCondition_10 rfl rfl ?_
  refine wq_iload F dX9_addCondition_12 rfl rfl ?_
  refine wq_iconst (n := 0) F dX9_addCondition_14 rfl ?_
  refine wq_iconst (n := 2) F dX9_addCondition_15 rfl ?_
  obtain ⟨r3, S4, h1r3, h⟩ := wq_bd_some h
  refine wq_callS (As := [.int (wq_I x4), .int (wq_I 0), .int (wq_I 2)]) F lk_X9_114 (ct_X9_in h1r3) ⟨Nat.le_of_ble_eq_true rfl, Nat.le_of_ble_eq_true rfl⟩ ⟨Nat.le_of_ble_eq_true rfl, Nat.le_of_ble_eq_true rfl⟩ (fun _ h9 => h9) rfl rfl (Nat.le_of_ble_eq_true rfl) dX9_addCondition_16 rfl ?_
  refine wq_if_eq (tgt := 38) F dX9_addCondition_19 (by decide) rfl (fun hc => ?_) (fun hc => ?_)
  · replace h := wq_ift hc h
    exact wq_lsub [some (.ref (b + 0)), some (.int (wq_I x1)), some (.int (wq_I x2)), some (.int (wq_I x3)), some (.int (wq_I x4)), some (.int (wq_I x5)), some (.int (wq_I r1))] (by simp [wq_sub]) (tj_X9_addCondition_38 F r1 S4 h)
  · replace h := wq_iff hc h
    refine wq_iload F dX9_addCondition_22 rfl rfl ?_
    refine wq_iconst (n := 0) F dX9_addCondition_24 rfl ?_
    refine wq_sipush (n := 999) F dX9_addCondition_25 (by decide) rfl ?_
    obtain ⟨r13, S14, h1r13, h⟩ := wq_bd_some h
    refine wq_callS (As := [.int (wq_I x5), .int (wq_I 0), .int (wq_I 999)]) F lk_X9_114 (ct_X9_in h1r13) ⟨Nat.le_of_ble_eq_true rfl, Nat.le_of_ble_eq_true rfl⟩ ⟨Nat.le_of_ble_eq_true rfl, Nat.le_of_ble_eq_true rfl⟩ (fun _ h9 => h9) rfl rfl (Nat.le_of_ble_eq_true rfl) dX9_addCondition_28 rfl ?_
    refine wq_if_eq (tgt := 38) F dX9_addCondition_31 (by decide) rfl (fun hc => ?_) (fun hc => ?_)
    · replace h := wq_ift hc h
      exact wq_lsub [some (.ref (b + 0)), some (.int (wq_I x1)), some (.int (wq_I x2)), some (.int (wq_I x3)), some (.int (wq_I x4)), some (.int (wq_I x5)), some (.int (wq_I r1))] (by simp [wq_sub]) (tj_X9_addCondition_38 F r1 S14 h)
    · replace h := wq_iff hc h
      refine wq_iconst (n := 1) F dX9_addCondition_34 rfl ?_
      refine wq_goto (tgt := 39) F dX9_addCondition_35 (by decide) ?_
      exact wq_lsub [some (.ref (b + 0)), some (.int (wq_I x1)), some (.int (wq_I x2)), some (.int (wq_I x3)), some (.int (wq_I x4)), some (.int (wq_I x5)), some (.int (wq_I r1))] (by simp [wq_sub]) (tj_X9_addCondition_39 F 1 r1 S14 h)
set_option maxHeartbeats 4000000 in
set_option maxRecDepth 100000 in
theorem tj_X9_addJoin_64 {p : Program} {l : Launch} {e : Env} {s : State} {m : MethodId} {args : Array Value} {below : List Frame} {meth : Method} {c : Code} {D : va_G} {Ar : Nat → ClassId} {b : Nat} (F : wq_Fr p s m args meth c cX9_addJoin 7 ((Option.some Jvm.ClassFile.FieldType.int)) "WharfQueryModel" D Ar) {r0 : Int} {S0 : wq_St} {j1 : Int} {j2 : Int} {j3 : Int} {j4 : Int} {j5 : Int} (z0 : Int) (z1 : Int) (z2 : Int) (S : wq_St) (h : j_X9_addJoin_64 j1 j2 j3 j4 j5 z0 z1 z2 S = some (r0, S0)) : wq_Z p l e (wq_rm 5 0 0) s m args below meth c D (wq_EM Ar b) b 32 7 (wq_Ab b 32) (MQ below (wq_Qc D (wq_EM Ar b) b 32 (some (.int (wq_I r0))) S0) args s 0 0 (wq_Ab b 32)) 0 0 64 [some (.ref (b + 0)), some (.int (wq_I j1)), some (.int (wq_I j2)), some (.int (wq_I j3)), some (.int (wq_I j4)), some (.int (wq_I j5)), none] [.int (wq_I z0), .int (wq_I z1), .int (wq_I z2), .ref (b + 0)] S := by
  unfold j_X9_addJoin_64 at h
  obtain ⟨r3, S4, h1r3, h⟩ := wq_bd_some h
  refine wq_callV (As := [.int (wq_I z2), .int (wq_I z1), .int (wq_I z0)]) F lk_X9_139 (ct_X9_asked__ h1r3) ⟨Nat.le_of_ble_eq_true rfl, Nat.le_of_ble_eq_true rfl⟩ ⟨Nat.le_of_ble_eq_true rfl, Nat.le_of_ble_eq_true rfl⟩ (Nat.le_of_ble_eq_true rfl) rfl rfl (fun _ h9 => h9) rfl rfl (Nat.le_of_ble_eq_true rfl) dX9_addJoin_64 rfl ?_
  refine wq_if_ne (tgt := 72) F dX9_addJoin_67 (by decide) rfl (fun hc => ?_) (fun hc => ?_)
  · replace h := wq_iff hc h
    refine wq_aload_n F dX9_addJoin_72 rfl rfl rfl ?_
    refine wq_g_X9_72 F dX9_addJoin_73 rfl ?_
    refine wq_bipush (n := 6) F dX9_addJoin_76 (by decide) rfl ?_
    refine wq_iload_n F dX9_addJoin_78 rfl rfl rfl ?_
    refine wq_imul F dX9_addJoin_79 rfl ?_
    refine wq_aload_n F dX9_addJoin_80 rfl rfl rfl ?_
    refine wq_g_X9_57 F dX9_addJoin_81 rfl ?_
    refine wq_iload_n F dX9_addJoin_84 rfl rfl rfl ?_
    obtain ⟨t5, ht5, wt5, h⟩ := wq_ix_some h
    refine wq_iald F (Nat.le_of_ble_eq_true rfl) wq_EM_conditions ht5 wt5 dX9_addJoin_85 rfl ?_
    refine wq_iadd F dX9_addJoin_86 rfl ?_
    refine wq_iload F dX9_addJoin_87 rfl rfl ?_
    obtain ⟨t6, ht6, wt6, h⟩ := wq_ix_some h
    refine wq_iast F (Nat.le_of_ble_eq_true rfl) wq_EM_other wq_EM_other ht6 wt6 ⟨Nat.le_add_right _ _, Nat.add_lt_add_left (Nat.le_of_ble_eq_true rfl) b⟩ dX9_addJoin_89 rfl ?_
    obtain ⟨S7, eS7, h⟩ := wq_lt_some h
    refine wq_namS eS7 ?_
    refine wq_aload_n F dX9_addJoin_90 rfl rfl rfl ?_
    refine wq_g_X9_75 F dX9_addJoin_91 rfl ?_
    refine wq_bipush (n := 6) F dX9_addJoin_94 (by decide) rfl ?_
    refine wq_iload_n F dX9_addJoin_96 rfl rfl rfl ?_
    refine wq_imul F dX9_addJoin_97 rfl ?_
    refine wq_aload_n F dX9_addJoin_98 rfl rfl rfl ?_
    refine wq_g_X9_57 F dX9_addJoin_99 rfl ?_
    refine wq_iload_n F dX9_addJoin_102 rfl rfl rfl ?_
    obtain ⟨t8, ht8, wt8, h⟩ := wq_ix_some h
    refine wq_iald F (Nat.le_of_ble_eq_true rfl) wq_EM_conditions ht8 wt8 dX9_addJoin_103 rfl ?_
    refine wq_iadd F dX9_addJoin_104 rfl ?_
    refine wq_iload F dX9_addJoin_105 rfl rfl ?_
    obtain ⟨t9, ht9, wt9, h⟩ := wq_ix_some h
    refine wq_iast F (Nat.le_of_ble_eq_true rfl) wq_EM_otherColumn wq_EM_otherColumn ht9 wt9 ⟨Nat.le_add_right _ _, Nat.add_lt_add_left (Nat.le_of_ble_eq_true rfl) b⟩ dX9_addJoin_107 rfl ?_
    obtain ⟨S10, eS10, h⟩ := wq_lt_some h
    refine wq_namS eS10 ?_
    refine wq_aload_n F dX9_addJoin_108 rfl rfl rfl ?_
    refine wq_iload_n F dX9_addJoin_109 rfl rfl rfl ?_
    refine wq_iconst (n := 3) F dX9_addJoin_110 rfl ?_
    refine wq_iload_n F dX9_addJoin_111 rfl rfl rfl ?_
    refine wq_iload_n F dX9_addJoin_112 rfl rfl rfl ?_
    obtain ⟨r11, S12, h1r11, h⟩ := wq_bd_some h
    refine wq_callV (As := [.int (wq_I j1), .int (wq_I 3), .int (wq_I j2), .int (wq_I j3)]) F lk_X9_170 (ct_X9_adds h1r11) ⟨Nat.le_of_ble_eq_true rfl, Nat.le_of_ble_eq_true rfl⟩ ⟨Nat.le_of_ble_eq_true rfl, Nat.le_of_ble_eq_true rfl⟩ (Nat.le_of_ble_eq_true rfl) rfl rfl (fun _ h9 => h9) rfl rfl (Nat.le_of_ble_eq_true rfl) dX9_addJoin_113 rfl ?_
    cases h
    exact wq_iret F rfl rfl dX9_addJoin_116
  · replace h := wq_ift hc h
    refine wq_iconst (n := 0) F dX9_addJoin_70 rfl ?_
    cases h
    exact wq_iret F rfl rfl dX9_addJoin_71
set_option maxHeartbeats 4000000 in
set_option maxRecDepth 100000 in
theorem tj_X9_addJoin_63 {p : Program} {l : Launch} {e : Env} {s : State} {m : MethodId} {args : Array Value} {below : List Frame} {meth : Method} {c : Code} {D : va_G} {Ar : Nat → ClassId} {b : Nat} (F : wq_Fr p s m args meth c cX9_addJoin 7 ((Option.some Jvm.ClassFile.FieldType.int)) "WharfQueryModel" D Ar) {r0 : Int} {S0 : wq_St} {j1 : Int} {j2 : Int} {j3 : Int} {j4 : Int} {j5 : Int} (z0 : Int) (z1 : Int) (S : wq_St) (h : j_X9_addJoin_63 j1 j2 j3 j4 j5 z0 z1 S = some (r0, S0)) : wq_Z p l e (wq_rm 5 0 0) s m args below meth c D (wq_EM Ar b) b 32 7 (wq_Ab b 32) (MQ below (wq_Qc D (wq_EM Ar b) b 32 (some (.int (wq_I r0))) S0) args s 0 0 (wq_Ab b 32)) 0 0 63 [some (.ref (b + 0)), some (.int (wq_I j1)), some (.int (wq_I j2)), some (.int (wq_I j3)), some (.int (wq_I j4)), some (.int (wq_I j5)), none] [.int (wq_I z0), .int (wq_I z1), .ref (b + 0)] S := by
  unfold j_X9_addJoin_63 at h
  refine wq_iconst (n := 0) F dX9_addJoin_63 rfl ?_
  exact wq_lsub [some (.ref (b + 0)), some (.int (wq_I j1)), some (.int (wq_I j2)), some (.int (wq_I j3)), some (.int (wq_I j4)), some (.int (wq_I j5)), none] (by simp [wq_sub]) (tj_X9_addJoin_64 F 0 z0 z1 S h)
set_option maxHeartbeats 4000000 in
set_option maxRecDepth 100000 in
theorem tj_X9_addJoin_43 {p : Program} {l : Launch} {e : Env} {s : State} {m : MethodId} {args : Array Value} {below : List Frame} {meth : Method} {c : Code} {D : va_G} {Ar : Nat → ClassId} {b : Nat} (F : wq_Fr p s m args meth c cX9_addJoin 7 ((Option.some Jvm.ClassFile.FieldType.int)) "WharfQueryModel" D Ar) {r0 : Int} {S0 : wq_St} {j1 : Int} {j2 : Int} {j3 : Int} {j4 : Int} {j5 : Int} {j6 : Int} (z0 : Int) (z1 : Int) (S : wq_St) (h : j_X9_addJoin_43 j1 j2 j3 j4 j5 j6 z0 z1 S = some (r0, S0)) : wq_Z p l e (wq_rm 5 0 0) s m args below meth c D (wq_EM Ar b) b 32 7 (wq_Ab b 32) (MQ below (wq_Qc D (wq_EM Ar b) b 32 (some (.int (wq_I r0))) S0) args s 0 0 (wq_Ab b 32)) 0 0 43 [some (.ref (b + 0)), some (.int (wq_I j1)), some (.int (wq_I j2)), some (.int (wq_I j3)), some (.int (wq_I j4)), some (.int (wq_I j5)), some (.int (wq_I j6))] [.int (wq_I z0), .int (wq_I z1), .ref (b + 0)] S := by
  unfold j_X9_addJoin_43 at h
  refine wq_iload F dX9_addJoin_43 rfl rfl ?_
  refine wq_if_eq (tgt := 63) F dX9_addJoin_45 (by decide) rfl (fun hc => ?_) (fun hc => ?_)
  · replace h := wq_ift hc h
    exact wq_lsub [some (.ref (b + 0)), some (.int (wq_I j1)), some (.int (wq_I j2)), some (.int (wq_I j3)), some (.int (wq_I j4)), some (.int (wq_I j5)), none] (by simp [wq_sub]) (tj_X9_addJoin_63 F z0 z1 S h)
  · replace h := wq_iff hc h
    refine wq_aload_n F dX9_addJoin_48 rfl rfl rfl ?_
    refine wq_g_X9_57 F dX9_addJoin_49 rfl ?_
    refine wq_iload_n F dX9_addJoin_52 rfl rfl rfl ?_
    obtain ⟨t13, ht13, wt13, h⟩ := wq_ix_some h
    refine wq_iald F (Nat.le_of_ble_eq_true rfl) wq_EM_conditions ht13 wt13 dX9_addJoin_53 rfl ?_
    refine wq_bipush (n := 6) F dX9_addJoin_54 (by decide) rfl ?_
    refine wq_icmp_ge (tgt := 63) F dX9_addJoin_56 (by decide) rfl (fun hc => ?_) (fun hc => ?_)
    · replace h := wq_ift hc h
      exact wq_lsub [some (.ref (b + 0)), some (.int (wq_I j1)), some (.int (wq_I j2)), some (.int (wq_I j3)), some (.int (wq_I j4)), some (.int (wq_I j5)), none] (by simp [wq_sub]) (tj_X9_addJoin_63 F z0 z1 S h)
    · replace h := wq_iff hc h
      refine wq_iconst (n := 1) F dX9_addJoin_59 rfl ?_
      refine wq_goto (tgt := 64) F dX9_addJoin_60 (by decide) ?_
      exact wq_lsub [some (.ref (b + 0)), some (.int (wq_I j1)), some (.int (wq_I j2)), some (.int (wq_I j3)), some (.int (wq_I j4)), some (.int (wq_I j5)), none] (by simp [wq_sub]) (tj_X9_addJoin_64 F 1 z0 z1 S h)
set_option maxHeartbeats 4000000 in
set_option maxRecDepth 100000 in
theorem tj_X9_addJoin_27 {p : Program} {l : Launch} {e : Env} {s : State} {m : MethodId} {args : Array Value} {below : List Frame} {meth : Method} {c : Code} {D : va_G} {Ar : Nat → ClassId} {b : Nat} (F : wq_Fr p s m args meth c cX9_addJoin 7 ((Option.some Jvm.ClassFile.FieldType.int)) "WharfQueryModel" D Ar) {r0 : Int} {S0 : wq_St} {j1 : Int} {j2 : Int} {j3 : Int} {j4 : Int} {j5 : Int} (z0 : Int) (S : wq_St) (h : j_X9_addJoin_27 j1 j2 j3 j4 j5 z0 S = some (r0, S0)) : wq_Z p l e (wq_rm 5 0 0) s m args below meth c D (wq_EM Ar b) b 32 7 (wq_Ab b 32) (MQ below (wq_Qc D (wq_EM Ar b) b 32 (some (.int (wq_I r0))) S0) args s 0 0 (wq_Ab b 32)) 0 0 27 [some (.ref (b + 0)), some (.int (wq_I j1)), some (.int (wq_I j2)), some (.int (wq_I j3)), some (.int (wq_I j4)), some (.int (wq_I j5)), none] [.int (wq_I z0)] S := by
  unfold j_X9_addJoin_27 at h
  refine wq_istore (L' := [some (.ref (b + 0)), some (.int (wq_I j1)), some (.int (wq_I j2)), some (.int (wq_I j3)), some (.int (wq_I j4)), some (.int (wq_I j5)), some (.int (wq_I z0))]) F dX9_addJoin_27 (by decide) rfl rfl rfl ?_
  refine wq_aload_n F dX9_addJoin_29 rfl rfl rfl ?_
  refine wq_iload F dX9_addJoin_30 rfl rfl ?_
  refine wq_iload_n F dX9_addJoin_32 rfl rfl rfl ?_
  refine wq_iload F dX9_addJoin_33 rfl rfl ?_
  refine wq_icmp_eq (tgt := 42) F dX9_addJoin_35 (by decide) rfl (fun hc => ?_) (fun hc => ?_)
  · replace h := wq_ift hc h
    refine wq_iconst (n := 0) F dX9_addJoin_42 rfl ?_
    exact wq_lsub [some (.ref (b + 0)), some (.int (wq_I j1)), some (.int (wq_I j2)), some (.int (wq_I j3)), some (.int (wq_I j4)), some (.int (wq_I j5)), some (.int (wq_I z0))] (by simp [wq_sub]) (tj_X9_addJoin_43 F 0 z0 S h)
  · replace h := wq_iff hc h
    refine wq_iconst (n := 1) F dX9_addJoin_38 rfl ?_
    refine wq_goto (tgt := 43) F dX9_addJoin_39 (by decide) ?_
    exact wq_lsub [some (.ref (b + 0)), some (.int (wq_I j1)), some (.int (wq_I j2)), some (.int (wq_I j3)), some (.int (wq_I j4)), some (.int (wq_I j5)), some (.int (wq_I z0))] (by simp [wq_sub]) (tj_X9_addJoin_43 F 1 z0 S h)
set_option maxHeartbeats 4000000 in
set_option maxRecDepth 100000 in
theorem tj_X9_addJoin_26 {p : Program} {l : Launch} {e : Env} {s : State} {m : MethodId} {args : Array Value} {below : List Frame} {meth : Method} {c : Code} {D : va_G} {Ar : Nat → ClassId} {b : Nat} (F : wq_Fr p s m args meth c cX9_addJoin 7 ((Option.some Jvm.ClassFile.FieldType.int)) "WharfQueryModel" D Ar) {r0 : Int} {S0 : wq_St} {j1 : Int} {j2 : Int} {j3 : Int} {j4 : Int} {j5 : Int} (S : wq_St) (h : j_X9_addJoin_26 j1 j2 j3 j4 j5 S = some (r0, S0)) : wq_Z p l e (wq_rm 5 0 0) s m args below meth c D (wq_EM Ar b) b 32 7 (wq_Ab b 32) (MQ below (wq_Qc D (wq_EM Ar b) b 32 (some (.int (wq_I r0))) S0) args s 0 0 (wq_Ab b 32)) 0 0 26 [some (.ref (b + 0)), some (.int (wq_I j1)), some (.int (wq_I j2)), some (.int (wq_I j3)), some (.int (wq_I j4)), some (.int (wq_I j5)), none] [] S := by
  unfold j_X9_addJoin_26 at h
  refine wq_iconst (n := 0) F dX9_addJoin_26 rfl ?_
  exact wq_lsub [some (.ref (b + 0)), some (.int (wq_I j1)), some (.int (wq_I j2)), some (.int (wq_I j3)), some (.int (wq_I j4)), some (.int (wq_I j5)), none] (by simp [wq_sub]) (tj_X9_addJoin_27 F 0 S h)
set_option maxHeartbeats 4000000 in
set_option maxRecDepth 100000 in
theorem ct_X9_addJoin {l : Launch} {D : va_G} {Ar : Nat → ClassId} {b : Nat} {x1 : Int} {x2 : Int} {x3 : Int} {x4 : Int} {x5 : Int} {S S0 : wq_St} {r0 : Int} (h : f_X9_addJoin x1 x2 x3 x4 x5 S = some (r0, S0)) : wq_Ct l yX9_addJoin (.code yX9_addJoin cX9_addJoin 7 ((Option.some Jvm.ClassFile.FieldType.int))) 5 D Ar (wq_EM Ar b) b 32 [.ref (b + 0), .int (wq_I x1), .int (wq_I x2), .int (wq_I x3), .int (wq_I x4), .int (wq_I x5)] S (some (.int (wq_I r0))) S0 := by
  refine wq_start "WharfQueryModel" [some (.ref (b + 0)), some (.int (wq_I x1)), some (.int (wq_I x2)), some (.int (wq_I x3)), some (.int (wq_I x4)), some (.int (wq_I x5)), none] (by decide +kernel) rfl (Nat.le_of_ble_eq_true rfl) rfl ?_
  intro p e s m args below meth c F
  unfold f_X9_addJoin at h
  refine wq_aload_n F dX9_addJoin_0 rfl rfl rfl ?_
  refine wq_iload_n F dX9_addJoin_1 rfl rfl rfl ?_
  refine wq_iload_n F dX9_addJoin_2 rfl rfl rfl ?_
  refine wq_iload_n F dX9_addJoin_3 rfl rfl rfl ?_
  obtain ⟨r1, S2, h1r1, h⟩ := wq_bd_some h
  refine wq_callV (As := [.int (wq_I x1), .int (wq_I x2), .int (wq_I x3)]) F lk_X9_167 (ct_X9_isColumnOf h1r1) ⟨Nat.le_of_ble_eq_true rfl, Nat.le_of_ble_eq_true rfl⟩ ⟨Nat.le_of_ble_eq_true rfl, Nat.le_of_ble_eq_true rfl⟩ (Nat.le_of_ble_eq_true rfl) rfl rfl (fun _ h9 => h9) rfl rfl (Nat.le_of_ble_eq_true rfl) dX9_addJoin_4 rfl ?_
  refine wq_if_eq (tgt := 26) F dX9_addJoin_7 (by decide) rfl (fun hc => ?_) (fun hc => ?_)
  · replace h := wq_ift hc h
    exact wq_lsub [some (.ref (b + 0)), some (.int (wq_I x1)), some (.int (wq_I x2)), some (.int (wq_I x3)), some (.int (wq_I x4)), some (.int (wq_I x5)), none] (by simp [wq_sub]) (tj_X9_addJoin_26 F S2 h)
  · replace h := wq_iff hc h
    refine wq_aload_n F dX9_addJoin_10 rfl rfl rfl ?_
    refine wq_iload_n F dX9_addJoin_11 rfl rfl rfl ?_
    refine wq_iload F dX9_addJoin_12 rfl rfl ?_
    refine wq_iload F dX9_addJoin_14 rfl rfl ?_
    obtain ⟨r14, S15, h1r14, h⟩ := wq_bd_some h
    refine wq_callV (As := [.int (wq_I x1), .int (wq_I x4), .int (wq_I x5)]) F lk_X9_167 (ct_X9_isColumnOf h1r14) ⟨Nat.le_of_ble_eq_true rfl, Nat.le_of_ble_eq_true rfl⟩ ⟨Nat.le_of_ble_eq_true rfl, Nat.le_of_ble_eq_true rfl⟩ (Nat.le_of_ble_eq_true rfl) rfl rfl (fun _ h9 => h9) rfl rfl (Nat.le_of_ble_eq_true rfl) dX9_addJoin_16 rfl ?_
    refine wq_if_eq (tgt := 26) F dX9_addJoin_19 (by decide) rfl (fun hc => ?_) (fun hc => ?_)
    · replace h := wq_ift hc h
      exact wq_lsub [some (.ref (b + 0)), some (.int (wq_I x1)), some (.int (wq_I x2)), some (.int (wq_I x3)), some (.int (wq_I x4)), some (.int (wq_I x5)), none] (by simp [wq_sub]) (tj_X9_addJoin_26 F S15 h)
    · replace h := wq_iff hc h
      refine wq_iconst (n := 1) F dX9_addJoin_22 rfl ?_
      refine wq_goto (tgt := 27) F dX9_addJoin_23 (by decide) ?_
      exact wq_lsub [some (.ref (b + 0)), some (.int (wq_I x1)), some (.int (wq_I x2)), some (.int (wq_I x3)), some (.int (wq_I x4)), some (.int (wq_I x5)), none] (by simp [wq_sub]) (tj_X9_addJoin_27 F 1 S15 h)
set_option maxHeartbeats 4000000 in
set_option maxRecDepth 100000 in
theorem tj_X9_dropCondition_26 {p : Program} {l : Launch} {e : Env} {s : State} {m : MethodId} {args : Array Value} {below : List Frame} {meth : Method} {c : Code} {D : va_G} {Ar : Nat → ClassId} {b : Nat} (F : wq_Fr p s m args meth c cX9_dropCondition 3 ((Option.some Jvm.ClassFile.FieldType.int)) "WharfQueryModel" D Ar) {r0 : Int} {S0 : wq_St} {j1 : Int} (z0 : Int) (z1 : Int) (S : wq_St) (h : j_X9_dropCondition_26 j1 z0 z1 S = some (r0, S0)) : wq_Z p l e (wq_rm 3 0 0) s m args below meth c D (wq_EM Ar b) b 32 3 (wq_Ab b 32) (MQ below (wq_Qc D (wq_EM Ar b) b 32 (some (.int (wq_I r0))) S0) args s 0 0 (wq_Ab b 32)) 0 0 26 [some (.ref (b + 0)), some (.int (wq_I j1)), none] [.int (wq_I z0), .int (wq_I z1), .ref (b + 0)] S := by
  unfold j_X9_dropCondition_26 at h
  obtain ⟨r3, S4, h1r3, h⟩ := wq_bd_some h
  refine wq_callV (As := [.int (wq_I z1), .int (wq_I z0)]) F lk_X9_135 (ct_X9_asked_ h1r3) ⟨Nat.le_of_ble_eq_true rfl, Nat.le_of_ble_eq_true rfl⟩ ⟨Nat.le_of_ble_eq_true rfl, Nat.le_of_ble_eq_true rfl⟩ (Nat.le_of_ble_eq_true rfl) rfl rfl (fun _ h9 => h9) rfl rfl (Nat.le_of_ble_eq_true rfl) dX9_dropCondition_26 rfl ?_
  refine wq_if_ne (tgt := 34) F dX9_dropCondition_29 (by decide) rfl (fun hc => ?_) (fun hc => ?_)
  · replace h := wq_iff hc h
    refine wq_aload_n F dX9_dropCondition_34 rfl rfl rfl ?_
    refine wq_g_X9_57 F dX9_dropCondition_35 rfl ?_
    refine wq_iload_n F dX9_dropCondition_38 rfl rfl rfl ?_
    refine wq_dup211 F rfl rfl dX9_dropCondition_39 rfl ?_
    obtain ⟨t5, ht5, wt5, h⟩ := wq_ix_some h
    refine wq_iald F (Nat.le_of_ble_eq_true rfl) wq_EM_conditions ht5 wt5 dX9_dropCondition_40 rfl ?_
    refine wq_iconst (n := 1) F dX9_dropCondition_41 rfl ?_
    refine wq_isub F dX9_dropCondition_42 rfl ?_
    obtain ⟨t6, ht6, wt6, h⟩ := wq_ix_some h
    refine wq_iast F (Nat.le_of_ble_eq_true rfl) wq_EM_conditions wq_EM_conditions ht6 wt6 ⟨Nat.le_add_right _ _, Nat.add_lt_add_left (Nat.le_of_ble_eq_true rfl) b⟩ dX9_dropCondition_43 rfl ?_
    obtain ⟨S7, eS7, h⟩ := wq_lt_some h
    refine wq_namS eS7 ?_
    refine wq_aload_n F dX9_dropCondition_44 rfl rfl rfl ?_
    refine wq_g_X9_57 F dX9_dropCondition_45 rfl ?_
    refine wq_iload_n F dX9_dropCondition_48 rfl rfl rfl ?_
    obtain ⟨t8, ht8, wt8, h⟩ := wq_ix_some h
    refine wq_iald F (Nat.le_of_ble_eq_true rfl) wq_EM_conditions ht8 wt8 dX9_dropCondition_49 rfl ?_
    cases h
    exact wq_iret F rfl rfl dX9_dropCondition_50
  · replace h := wq_ift hc h
    refine wq_iconst (n := 0) F dX9_dropCondition_32 rfl ?_
    cases h
    exact wq_iret F rfl rfl dX9_dropCondition_33
set_option maxHeartbeats 4000000 in
set_option maxRecDepth 100000 in
theorem tj_X9_dropCondition_25 {p : Program} {l : Launch} {e : Env} {s : State} {m : MethodId} {args : Array Value} {below : List Frame} {meth : Method} {c : Code} {D : va_G} {Ar : Nat → ClassId} {b : Nat} (F : wq_Fr p s m args meth c cX9_dropCondition 3 ((Option.some Jvm.ClassFile.FieldType.int)) "WharfQueryModel" D Ar) {r0 : Int} {S0 : wq_St} {j1 : Int} (z0 : Int) (S : wq_St) (h : j_X9_dropCondition_25 j1 z0 S = some (r0, S0)) : wq_Z p l e (wq_rm 3 0 0) s m args below meth c D (wq_EM Ar b) b 32 3 (wq_Ab b 32) (MQ below (wq_Qc D (wq_EM Ar b) b 32 (some (.int (wq_I r0))) S0) args s 0 0 (wq_Ab b 32)) 0 0 25 [some (.ref (b + 0)), some (.int (wq_I j1)), none] [.int (wq_I z0), .ref (b + 0)] S := by
  unfold j_X9_dropCondition_25 at h
  refine wq_iconst (n := 0) F dX9_dropCondition_25 rfl ?_
  exact wq_lsub [some (.ref (b + 0)), some (.int (wq_I j1)), none] (by simp [wq_sub]) (tj_X9_dropCondition_26 F 0 z0 S h)
set_option maxHeartbeats 4000000 in
set_option maxRecDepth 100000 in
theorem ct_X9_dropCondition {l : Launch} {D : va_G} {Ar : Nat → ClassId} {b : Nat} {x1 : Int} {S S0 : wq_St} {r0 : Int} (h : f_X9_dropCondition x1 S = some (r0, S0)) : wq_Ct l yX9_dropCondition (.code yX9_dropCondition cX9_dropCondition 3 ((Option.some Jvm.ClassFile.FieldType.int))) 3 D Ar (wq_EM Ar b) b 32 [.ref (b + 0), .int (wq_I x1)] S (some (.int (wq_I r0))) S0 := by
  refine wq_start "WharfQueryModel" [some (.ref (b + 0)), some (.int (wq_I x1)), none] (by decide +kernel) rfl (Nat.le_of_ble_eq_true rfl) rfl ?_
  intro p e s m args below meth c F
  unfold f_X9_dropCondition at h
  refine wq_aload_n F dX9_dropCondition_0 rfl rfl rfl ?_
  refine wq_iload_n F dX9_dropCondition_1 rfl rfl rfl ?_
  obtain ⟨r1, S2, h1r1, h⟩ := wq_bd_some h
  refine wq_callV (As := [.int (wq_I x1)]) F lk_X9_125 (ct_X9_isReport h1r1) ⟨Nat.le_of_ble_eq_true rfl, Nat.le_of_ble_eq_true rfl⟩ ⟨Nat.le_of_ble_eq_true rfl, Nat.le_of_ble_eq_true rfl⟩ (Nat.le_of_ble_eq_true rfl) rfl rfl (fun _ h9 => h9) rfl rfl (Nat.le_of_ble_eq_true rfl) dX9_dropCondition_2 rfl ?_
  refine wq_istore_n (L' := [some (.ref (b + 0)), some (.int (wq_I x1)), some (.int (wq_I r1))]) F dX9_dropCondition_5 rfl (by decide) rfl rfl rfl ?_
  refine wq_aload_n F dX9_dropCondition_6 rfl rfl rfl ?_
  refine wq_iload_n F dX9_dropCondition_7 rfl rfl rfl ?_
  refine wq_iload_n F dX9_dropCondition_8 rfl rfl rfl ?_
  refine wq_if_eq (tgt := 25) F dX9_dropCondition_9 (by decide) rfl (fun hc => ?_) (fun hc => ?_)
  · replace h := wq_ift hc h
    exact wq_lsub [some (.ref (b + 0)), some (.int (wq_I x1)), none] (by simp [wq_sub]) (tj_X9_dropCondition_25 F r1 S2 h)
  · replace h := wq_iff hc h
    refine wq_aload_n F dX9_dropCondition_12 rfl rfl rfl ?_
    refine wq_g_X9_57 F dX9_dropCondition_13 rfl ?_
    refine wq_iload_n F dX9_dropCondition_16 rfl rfl rfl ?_
    obtain ⟨t9, ht9, wt9, h⟩ := wq_ix_some h
    refine wq_iald F (Nat.le_of_ble_eq_true rfl) wq_EM_conditions ht9 wt9 dX9_dropCondition_17 rfl ?_
    refine wq_if_le (tgt := 25) F dX9_dropCondition_18 (by decide) rfl (fun hc => ?_) (fun hc => ?_)
    · replace h := wq_ift hc h
      exact wq_lsub [some (.ref (b + 0)), some (.int (wq_I x1)), none] (by simp [wq_sub]) (tj_X9_dropCondition_25 F r1 S2 h)
    · replace h := wq_iff hc h
      refine wq_iconst (n := 1) F dX9_dropCondition_21 rfl ?_
      refine wq_goto (tgt := 26) F dX9_dropCondition_22 (by decide) ?_
      exact wq_lsub [some (.ref (b + 0)), some (.int (wq_I x1)), none] (by simp [wq_sub]) (tj_X9_dropCondition_26 F 1 r1 S2 h)
set_option maxHeartbeats 4000000 in
set_option maxRecDepth 100000 in
theorem tj_X9_setSum_24 {p : Program} {l : Launch} {e : Env} {s : State} {m : MethodId} {args : Array Value} {below : List Frame} {meth : Method} {c : Code} {D : va_G} {Ar : Nat → ClassId} {b : Nat} (F : wq_Fr p s m args meth c cX9_setSum 4 ((Option.none : Option Jvm.ClassFile.FieldType)) "WharfQueryModel" D Ar) {r0 : Int} {S0 : wq_St} {j1 : Int} {j2 : Int} {j3 : Int} (S : wq_St) (h : j_X9_setSum_24 j1 j2 j3 S = some (r0, S0)) : wq_Z p l e (wq_rm 5 0 0) s m args below meth c D (wq_EM Ar b) b 32 4 (wq_Ab b 32) (MQ below (wq_Qc D (wq_EM Ar b) b 32 none S0) args s 0 0 (wq_Ab b 32)) 0 0 24 [some (.ref (b + 0)), some (.int (wq_I j1)), some (.int (wq_I j2)), some (.int (wq_I j3))] [.ref (b + 0)] S := by
  unfold j_X9_setSum_24 at h
  refine wq_iconst (n := 1) F dX9_setSum_24 rfl ?_
  refine wq_goto (tgt := 29) F dX9_setSum_25 (by decide) ?_
  obtain ⟨r8, S9, h1r8, h⟩ := wq_bd_some h
  refine wq_callV (As := [.int (wq_I 1)]) F lk_X9_145 (ct_X9_asked h1r8) ⟨Nat.le_of_ble_eq_true rfl, Nat.le_of_ble_eq_true rfl⟩ ⟨Nat.le_of_ble_eq_true rfl, Nat.le_of_ble_eq_true rfl⟩ (Nat.le_of_ble_eq_true rfl) rfl rfl (fun _ h9 => h9) rfl rfl (Nat.le_of_ble_eq_true rfl) dX9_setSum_29 rfl ?_
  refine wq_if_eq (tgt := 49) F dX9_setSum_32 (by decide) rfl (fun hc => ?_) (fun hc => ?_)
  · replace h := wq_ift hc h
    cases h
    exact wq_vret F rfl rfl dX9_setSum_49
  · replace h := wq_iff hc h
    refine wq_aload_n F dX9_setSum_35 rfl rfl rfl ?_
    refine wq_g_X9_78 F dX9_setSum_36 rfl ?_
    refine wq_iload_n F dX9_setSum_39 rfl rfl rfl ?_
    refine wq_iload_n F dX9_setSum_40 rfl rfl rfl ?_
    obtain ⟨t10, ht10, wt10, h⟩ := wq_ix_some h
    refine wq_iast F (Nat.le_of_ble_eq_true rfl) wq_EM_sumSource wq_EM_sumSource ht10 wt10 ⟨Nat.le_add_right _ _, Nat.add_lt_add_left (Nat.le_of_ble_eq_true rfl) b⟩ dX9_setSum_41 rfl ?_
    obtain ⟨S11, eS11, h⟩ := wq_lt_some h
    refine wq_namS eS11 ?_
    refine wq_aload_n F dX9_setSum_42 rfl rfl rfl ?_
    refine wq_g_X9_81 F dX9_setSum_43 rfl ?_
    refine wq_iload_n F dX9_setSum_46 rfl rfl rfl ?_
    refine wq_iload_n F dX9_setSum_47 rfl rfl rfl ?_
    obtain ⟨t12, ht12, wt12, h⟩ := wq_ix_some h
    refine wq_iast F (Nat.le_of_ble_eq_true rfl) wq_EM_sumColumn wq_EM_sumColumn ht12 wt12 ⟨Nat.le_add_right _ _, Nat.add_lt_add_left (Nat.le_of_ble_eq_true rfl) b⟩ dX9_setSum_48 rfl ?_
    cases h
    exact wq_vret F rfl rfl dX9_setSum_49
set_option maxHeartbeats 4000000 in
set_option maxRecDepth 100000 in
theorem ct_X9_setSum {l : Launch} {D : va_G} {Ar : Nat → ClassId} {b : Nat} {x1 : Int} {x2 : Int} {x3 : Int} {S S0 : wq_St} {r0 : Int} (h : f_X9_setSum x1 x2 x3 S = some (r0, S0)) : wq_Ct l yX9_setSum (.code yX9_setSum cX9_setSum 4 ((Option.none : Option Jvm.ClassFile.FieldType))) 5 D Ar (wq_EM Ar b) b 32 [.ref (b + 0), .int (wq_I x1), .int (wq_I x2), .int (wq_I x3)] S none S0 := by
  refine wq_start "WharfQueryModel" [some (.ref (b + 0)), some (.int (wq_I x1)), some (.int (wq_I x2)), some (.int (wq_I x3))] (by decide +kernel) rfl (Nat.le_of_ble_eq_true rfl) rfl ?_
  intro p e s m args below meth c F
  unfold f_X9_setSum at h
  refine wq_aload_n F dX9_setSum_0 rfl rfl rfl ?_
  refine wq_aload_n F dX9_setSum_1 rfl rfl rfl ?_
  refine wq_iload_n F dX9_setSum_2 rfl rfl rfl ?_
  obtain ⟨r1, S2, h1r1, h⟩ := wq_bd_some h
  refine wq_callV (As := [.int (wq_I x1)]) F lk_X9_125 (ct_X9_isReport h1r1) ⟨Nat.le_of_ble_eq_true rfl, Nat.le_of_ble_eq_true rfl⟩ ⟨Nat.le_of_ble_eq_true rfl, Nat.le_of_ble_eq_true rfl⟩ (Nat.le_of_ble_eq_true rfl) rfl rfl (fun _ h9 => h9) rfl rfl (Nat.le_of_ble_eq_true rfl) dX9_setSum_3 rfl ?_
  refine wq_if_eq (tgt := 28) F dX9_setSum_6 (by decide) rfl (fun hc => ?_) (fun hc => ?_)
  · replace h := wq_ift hc h
    refine wq_iconst (n := 0) F dX9_setSum_28 rfl ?_
    obtain ⟨r3, S4, h1r3, h⟩ := wq_bd_some h
    refine wq_callV (As := [.int (wq_I 0)]) F lk_X9_145 (ct_X9_asked h1r3) ⟨Nat.le_of_ble_eq_true rfl, Nat.le_of_ble_eq_true rfl⟩ ⟨Nat.le_of_ble_eq_true rfl, Nat.le_of_ble_eq_true rfl⟩ (Nat.le_of_ble_eq_true rfl) rfl rfl (fun _ h9 => h9) rfl rfl (Nat.le_of_ble_eq_true rfl) dX9_setSum_29 rfl ?_
    refine wq_if_eq (tgt := 49) F dX9_setSum_32 (by decide) rfl (fun hc => ?_) (fun hc => ?_)
    · replace h := wq_ift hc h
      cases h
      exact wq_vret F rfl rfl dX9_setSum_49
    · replace h := wq_iff hc h
      refine wq_aload_n F dX9_setSum_35 rfl rfl rfl ?_
      refine wq_g_X9_78 F dX9_setSum_36 rfl ?_
      refine wq_iload_n F dX9_setSum_39 rfl rfl rfl ?_
      refine wq_iload_n F dX9_setSum_40 rfl rfl rfl ?_
      obtain ⟨t5, ht5, wt5, h⟩ := wq_ix_some h
      refine wq_iast F (Nat.le_of_ble_eq_true rfl) wq_EM_sumSource wq_EM_sumSource ht5 wt5 ⟨Nat.le_add_right _ _, Nat.add_lt_add_left (Nat.le_of_ble_eq_true rfl) b⟩ dX9_setSum_41 rfl ?_
      obtain ⟨S6, eS6, h⟩ := wq_lt_some h
      refine wq_namS eS6 ?_
      refine wq_aload_n F dX9_setSum_42 rfl rfl rfl ?_
      refine wq_g_X9_81 F dX9_setSum_43 rfl ?_
      refine wq_iload_n F dX9_setSum_46 rfl rfl rfl ?_
      refine wq_iload_n F dX9_setSum_47 rfl rfl rfl ?_
      obtain ⟨t7, ht7, wt7, h⟩ := wq_ix_some h
      refine wq_iast F (Nat.le_of_ble_eq_true rfl) wq_EM_sumColumn wq_EM_sumColumn ht7 wt7 ⟨Nat.le_add_right _ _, Nat.add_lt_add_left (Nat.le_of_ble_eq_true rfl) b⟩ dX9_setSum_48 rfl ?_
      cases h
      exact wq_vret F rfl rfl dX9_setSum_49
  · replace h := wq_iff hc h
    refine wq_iload_n F dX9_setSum_9 rfl rfl rfl ?_
    refine wq_iconst (n := -1) F dX9_setSum_10 rfl ?_
    refine wq_icmp_eq (tgt := 24) F dX9_setSum_11 (by decide) rfl (fun hc => ?_) (fun hc => ?_)
    · replace h := wq_ift hc h
      exact wq_lsub [some (.ref (b + 0)), some (.int (wq_I x1)), some (.int (wq_I x2)), some (.int (wq_I x3))] (by simp [wq_sub]) (tj_X9_setSum_24 F S2 h)
    · replace h := wq_iff hc h
      refine wq_aload_n F dX9_setSum_14 rfl rfl rfl ?_
      refine wq_iload_n F dX9_setSum_15 rfl rfl rfl ?_
      refine wq_iload_n F dX9_setSum_16 rfl rfl rfl ?_
      refine wq_iload_n F dX9_setSum_17 rfl rfl rfl ?_
      obtain ⟨r13, S14, h1r13, h⟩ := wq_bd_some h
      refine wq_callV (As := [.int (wq_I x1), .int (wq_I x2), .int (wq_I x3)]) F lk_X9_167 (ct_X9_isColumnOf h1r13) ⟨Nat.le_of_ble_eq_true rfl, Nat.le_of_ble_eq_true rfl⟩ ⟨Nat.le_of_ble_eq_true rfl, Nat.le_of_ble_eq_true rfl⟩ (Nat.le_of_ble_eq_true rfl) rfl rfl (fun _ h9 => h9) rfl rfl (Nat.le_of_ble_eq_true rfl) dX9_setSum_18 rfl ?_
      refine wq_if_eq (tgt := 28) F dX9_setSum_21 (by decide) rfl (fun hc => ?_) (fun hc => ?_)
      · replace h := wq_ift hc h
        refine wq_iconst (n := 0) F dX9_setSum_28 rfl ?_
        obtain ⟨r15, S16, h1r15, h⟩ := wq_bd_some h
        refine wq_callV (As := [.int (wq_I 0)]) F lk_X9_145 (ct_X9_asked h1r15) ⟨Nat.le_of_ble_eq_true rfl, Nat.le_of_ble_eq_true rfl⟩ ⟨Nat.le_of_ble_eq_true rfl, Nat.le_of_ble_eq_true rfl⟩ (Nat.le_of_ble_eq_true rfl) rfl rfl (fun _ h9 => h9) rfl rfl (Nat.le_of_ble_eq_true rfl) dX9_setSum_29 rfl ?_
        refine wq_if_eq (tgt := 49) F dX9_setSum_32 (by decide) rfl (fun hc => ?_) (fun hc => ?_)
        · replace h := wq_ift hc h
          cases h
          exact wq_vret F rfl rfl dX9_setSum_49
        · replace h := wq_iff hc h
          refine wq_aload_n F dX9_setSum_35 rfl rfl rfl ?_
          refine wq_g_X9_78 F dX9_setSum_36 rfl ?_
          refine wq_iload_n F dX9_setSum_39 rfl rfl rfl ?_
          refine wq_iload_n F dX9_setSum_40 rfl rfl rfl ?_
          obtain ⟨t17, ht17, wt17, h⟩ := wq_ix_some h
          refine wq_iast F (Nat.le_of_ble_eq_true rfl) wq_EM_sumSource wq_EM_sumSource ht17 wt17 ⟨Nat.le_add_right _ _, Nat.add_lt_add_left (Nat.le_of_ble_eq_true rfl) b⟩ dX9_setSum_41 rfl ?_
          obtain ⟨S18, eS18, h⟩ := wq_lt_some h
          refine wq_namS eS18 ?_
          refine wq_aload_n F dX9_setSum_42 rfl rfl rfl ?_
          refine wq_g_X9_81 F dX9_setSum_43 rfl ?_
          refine wq_iload_n F dX9_setSum_46 rfl rfl rfl ?_
          refine wq_iload_n F dX9_setSum_47 rfl rfl rfl ?_
          obtain ⟨t19, ht19, wt19, h⟩ := wq_ix_some h
          refine wq_iast F (Nat.le_of_ble_eq_true rfl) wq_EM_sumColumn wq_EM_sumColumn ht19 wt19 ⟨Nat.le_add_right _ _, Nat.add_lt_add_left (Nat.le_of_ble_eq_true rfl) b⟩ dX9_setSum_48 rfl ?_
          cases h
          exact wq_vret F rfl rfl dX9_setSum_49
      · replace h := wq_iff hc h
        exact wq_lsub [some (.ref (b + 0)), some (.int (wq_I x1)), some (.int (wq_I x2)), some (.int (wq_I x3))] (by simp [wq_sub]) (tj_X9_setSum_24 F S14 h)
set_option maxHeartbeats 4000000 in
set_option maxRecDepth 100000 in
theorem ct_X9_setDue {l : Launch} {D : va_G} {Ar : Nat → ClassId} {b : Nat} {x1 : Int} {x2 : Int} {S S0 : wq_St} {r0 : Int} (h : f_X9_setDue x1 x2 S = some (r0, S0)) : wq_Ct l yX9_setDue (.code yX9_setDue cX9_setDue 4 ((Option.some Jvm.ClassFile.FieldType.boolean))) 3 D Ar (wq_EM Ar b) b 32 [.ref (b + 0), .int (wq_I x1), .int (wq_I x2)] S (some (.int (wq_I r0))) S0 := by
  refine wq_start "WharfQueryModel" [some (.ref (b + 0)), some (.int (wq_I x1)), some (.int (wq_I x2)), none] (by decide +kernel) rfl (Nat.le_of_ble_eq_true rfl) rfl ?_
  intro p e s m args below meth c F
  unfold f_X9_setDue at h
  refine wq_aload_n F dX9_setDue_0 rfl rfl rfl ?_
  refine wq_aload_n F dX9_setDue_1 rfl rfl rfl ?_
  refine wq_iload_n F dX9_setDue_2 rfl rfl rfl ?_
  obtain ⟨r1, S2, h1r1, h⟩ := wq_bd_some h
  refine wq_callV (As := [.int (wq_I x1)]) F lk_X9_125 (ct_X9_isReport h1r1) ⟨Nat.le_of_ble_eq_true rfl, Nat.le_of_ble_eq_true rfl⟩ ⟨Nat.le_of_ble_eq_true rfl, Nat.le_of_ble_eq_true rfl⟩ (Nat.le_of_ble_eq_true rfl) rfl rfl (fun _ h9 => h9) rfl rfl (Nat.le_of_ble_eq_true rfl) dX9_setDue_3 rfl ?_
  obtain ⟨r3, S4, h1r3, h⟩ := wq_bd_some h
  refine wq_callV (As := [.int (wq_I r1)]) F lk_X9_145 (ct_X9_asked h1r3) ⟨Nat.le_of_ble_eq_true rfl, Nat.le_of_ble_eq_true rfl⟩ ⟨Nat.le_of_ble_eq_true rfl, Nat.le_of_ble_eq_true rfl⟩ (Nat.le_of_ble_eq_true rfl) rfl rfl (fun _ h9 => h9) rfl rfl (Nat.le_of_ble_eq_true rfl) dX9_setDue_6 rfl ?_
  refine wq_if_ne (tgt := 14) F dX9_setDue_9 (by decide) rfl (fun hc => ?_) (fun hc => ?_)
  · replace h := wq_iff hc h
    refine wq_aload_n F dX9_setDue_14 rfl rfl rfl ?_
    refine wq_g_X9_48 F dX9_setDue_15 rfl ?_
    refine wq_iload_n F dX9_setDue_18 rfl rfl rfl ?_
    obtain ⟨t5, ht5, wt5, h⟩ := wq_ix_some h
    refine wq_zald F (Nat.le_of_ble_eq_true rfl) wq_EM_due ht5 wt5 dX9_setDue_19 rfl ?_
    refine wq_istore_n (L' := [some (.ref (b + 0)), some (.int (wq_I x1)), some (.int (wq_I x2)), some (.int (wq_I (S4 12 t5)))]) F dX9_setDue_20 rfl (by decide) rfl rfl rfl ?_
    refine wq_aload_n F dX9_setDue_21 rfl rfl rfl ?_
    refine wq_g_X9_48 F dX9_setDue_22 rfl ?_
    refine wq_iload_n F dX9_setDue_25 rfl rfl rfl ?_
    refine wq_iload_n F dX9_setDue_26 rfl rfl rfl ?_
    obtain ⟨t6, ht6, wt6, h⟩ := wq_ix_some h
    obtain ⟨hg, h⟩ := wq_gd_some h
    refine wq_zast F hg (Nat.le_of_ble_eq_true rfl) wq_EM_due wq_EM_due ht6 wt6 ⟨Nat.le_add_right _ _, Nat.add_lt_add_left (Nat.le_of_ble_eq_true rfl) b⟩ dX9_setDue_27 rfl ?_
    obtain ⟨S7, eS7, h⟩ := wq_lt_some h
    refine wq_namS eS7 ?_
    refine wq_iload_n F dX9_setDue_28 rfl rfl rfl ?_
    obtain ⟨hg, h⟩ := wq_gd_some h
    cases h
    exact wq_zret F hg rfl rfl dX9_setDue_29
  · replace h := wq_ift hc h
    refine wq_iconst (n := 0) F dX9_setDue_12 rfl ?_
    cases h
    exact wq_zret F (by decide) rfl rfl dX9_setDue_13
set_option maxHeartbeats 4000000 in
set_option maxRecDepth 100000 in
theorem ct_X9_isDue {l : Launch} {D : va_G} {Ar : Nat → ClassId} {b : Nat} {x1 : Int} {S S0 : wq_St} {r0 : Int} (h : f_X9_isDue x1 S = some (r0, S0)) : wq_Ct l yX9_isDue (.code yX9_isDue cX9_isDue 2 ((Option.some Jvm.ClassFile.FieldType.boolean))) 3 D Ar (wq_EM Ar b) b 32 [.ref (b + 0), .int (wq_I x1)] S (some (.int (wq_I r0))) S0 := by
  refine wq_start "WharfQueryModel" [some (.ref (b + 0)), some (.int (wq_I x1))] (by decide +kernel) rfl (Nat.le_of_ble_eq_true rfl) rfl ?_
  intro p e s m args below meth c F
  unfold f_X9_isDue at h
  refine wq_aload_n F dX9_isDue_0 rfl rfl rfl ?_
  refine wq_aload_n F dX9_isDue_1 rfl rfl rfl ?_
  refine wq_iload_n F dX9_isDue_2 rfl rfl rfl ?_
  obtain ⟨r1, S2, h1r1, h⟩ := wq_bd_some h
  refine wq_callV (As := [.int (wq_I x1)]) F lk_X9_125 (ct_X9_isReport h1r1) ⟨Nat.le_of_ble_eq_true rfl, Nat.le_of_ble_eq_true rfl⟩ ⟨Nat.le_of_ble_eq_true rfl, Nat.le_of_ble_eq_true rfl⟩ (Nat.le_of_ble_eq_true rfl) rfl rfl (fun _ h9 => h9) rfl rfl (Nat.le_of_ble_eq_true rfl) dX9_isDue_3 rfl ?_
  obtain ⟨r3, S4, h1r3, h⟩ := wq_bd_some h
  refine wq_callV (As := [.int (wq_I r1)]) F lk_X9_145 (ct_X9_asked h1r3) ⟨Nat.le_of_ble_eq_true rfl, Nat.le_of_ble_eq_true rfl⟩ ⟨Nat.le_of_ble_eq_true rfl, Nat.le_of_ble_eq_true rfl⟩ (Nat.le_of_ble_eq_true rfl) rfl rfl (fun _ h9 => h9) rfl rfl (Nat.le_of_ble_eq_true rfl) dX9_isDue_6 rfl ?_
  refine wq_if_eq (tgt := 25) F dX9_isDue_9 (by decide) rfl (fun hc => ?_) (fun hc => ?_)
  · replace h := wq_ift hc h
    refine wq_iconst (n := 0) F dX9_isDue_25 rfl ?_
    cases h
    exact wq_zret F (by decide) rfl rfl dX9_isDue_26
  · replace h := wq_iff hc h
    refine wq_aload_n F dX9_isDue_12 rfl rfl rfl ?_
    refine wq_g_X9_48 F dX9_isDue_13 rfl ?_
    refine wq_iload_n F dX9_isDue_16 rfl rfl rfl ?_
    obtain ⟨t5, ht5, wt5, h⟩ := wq_ix_some h
    refine wq_zald F (Nat.le_of_ble_eq_true rfl) wq_EM_due ht5 wt5 dX9_isDue_17 rfl ?_
    refine wq_if_eq (tgt := 25) F dX9_isDue_18 (by decide) rfl (fun hc => ?_) (fun hc => ?_)
    · replace h := wq_ift hc h
      refine wq_iconst (n := 0) F dX9_isDue_25 rfl ?_
      cases h
      exact wq_zret F (by decide) rfl rfl dX9_isDue_26
    · replace h := wq_iff hc h
      refine wq_iconst (n := 1) F dX9_isDue_21 rfl ?_
      refine wq_goto (tgt := 26) F dX9_isDue_22 (by decide) ?_
      cases h
      exact wq_zret F (by decide) rfl rfl dX9_isDue_26
set_option maxHeartbeats 4000000 in
set_option maxRecDepth 100000 in
theorem tb_X9_stepOf_2 {p : Program} {l : Launch} {e : Env} {s : State} {m : MethodId} {args : Array Value} {below : List Frame} {meth : Method} {c : Code} {D : va_G} {Ar : Nat → ClassId} {b : Nat} (F : wq_Fr p s m args meth c cX9_stepOf 3 ((Option.some Jvm.ClassFile.FieldType.int)) "WharfQueryModel" D Ar) {r0 : Int} {S0 : wq_St} {c1 : Int} {kx : Int → wq_St → Option (Int × wq_St)} (hkx : ∀ (u2 : Int) (S : wq_St), kx u2 S = some (r0, S0) → wq_Z p l e (wq_rm 1 0 0) s m args below meth c D (wq_EM Ar b) b 32 3 (wq_Ab b 32) (MQ below (wq_Qc D (wq_EM Ar b) b 32 (some (.int (wq_I r0))) S0) args s 0 0 (wq_Ab b 32)) 0 0 18 [none, none, some (.int (wq_I u2))] [] S) {rec : Int → wq_St → Option (Int × wq_St)} (hrec : ∀ (y2 : Int) (S : wq_St), rec y2 S = some (r0, S0) → wq_Z p l e (wq_rm 1 0 0) s m args below meth c D (wq_EM Ar b) b 32 3 (wq_Ab b 32) (MQ below (wq_Qc D (wq_EM Ar b) b 32 (some (.int (wq_I r0))) S0) args s 0 0 (wq_Ab b 32)) 0 0 2 [some (.ref (b + 0)), some (.int (wq_I c1)), some (.int (wq_I y2))] [] S) (y2 : Int) (S : wq_St) (h : b_X9_stepOf_2 c1 kx rec y2 S = some (r0, S0)) : wq_Z p l e (wq_rm 1 0 0) s m args below meth c D (wq_EM Ar b) b 32 3 (wq_Ab b 32) (MQ below (wq_Qc D (wq_EM Ar b) b 32 (some (.int (wq_I r0))) S0) args s 0 0 (wq_Ab b 32)) 0 0 2 [some (.ref (b + 0)), some (.int (wq_I c1)), some (.int (wq_I y2))] [] S := by
  unfold b_X9_stepOf_2 at h
  refine wq_aload_n F dX9_stepOf_2 rfl rfl rfl ?_
  refine wq_g_X9_93 F dX9_stepOf_3 rfl ?_
  refine wq_iload_n F dX9_stepOf_6 rfl rfl rfl ?_
  obtain ⟨t1, ht1, wt1, h⟩ := wq_ix_some h
  refine wq_iald F (Nat.le_of_ble_eq_true rfl) wq_EM_order ht1 wt1 dX9_stepOf_7 rfl ?_
  refine wq_iload_n F dX9_stepOf_8 rfl rfl rfl ?_
  refine wq_icmp_eq (tgt := 18) F dX9_stepOf_9 (by decide) rfl (fun hc => ?_) (fun hc => ?_)
  · replace h := wq_ift hc h
    exact wq_lsub [none, none, some (.int (wq_I y2))] (by simp [wq_sub]) (hkx y2 S h)
  · replace h := wq_iff hc h
    refine wq_iinc (L' := [some (.ref (b + 0)), some (.int (wq_I c1)), some (.int (wq_I (y2 + 1)))]) F dX9_stepOf_12 rfl (by decide) rfl rfl rfl ?_
    refine wq_goto (tgt := 2) F dX9_stepOf_15 (by decide) ?_
    exact wq_lsub [some (.ref (b + 0)), some (.int (wq_I c1)), some (.int (wq_I (y2 + 1)))] (by simp [wq_sub]) (hrec (y2 + 1) S h)
set_option maxHeartbeats 4000000 in
set_option maxRecDepth 100000 in
theorem tl_X9_stepOf_2 {p : Program} {l : Launch} {e : Env} {s : State} {m : MethodId} {args : Array Value} {below : List Frame} {meth : Method} {c : Code} {D : va_G} {Ar : Nat → ClassId} {b : Nat} (F : wq_Fr p s m args meth c cX9_stepOf 3 ((Option.some Jvm.ClassFile.FieldType.int)) "WharfQueryModel" D Ar) {r0 : Int} {S0 : wq_St} {c1 : Int} {kx : Int → wq_St → Option (Int × wq_St)} (hkx : ∀ (u2 : Int) (S : wq_St), kx u2 S = some (r0, S0) → wq_Z p l e (wq_rm 1 0 0) s m args below meth c D (wq_EM Ar b) b 32 3 (wq_Ab b 32) (MQ below (wq_Qc D (wq_EM Ar b) b 32 (some (.int (wq_I r0))) S0) args s 0 0 (wq_Ab b 32)) 0 0 18 [none, none, some (.int (wq_I u2))] [] S) (n : Nat) (y2 : Int) (S : wq_St) (h : l_X9_stepOf_2 c1 kx n y2 S = some (r0, S0)) : wq_Z p l e (wq_rm 1 0 0) s m args below meth c D (wq_EM Ar b) b 32 3 (wq_Ab b 32) (MQ below (wq_Qc D (wq_EM Ar b) b 32 (some (.int (wq_I r0))) S0) args s 0 0 (wq_Ab b 32)) 0 0 2 [some (.ref (b + 0)), some (.int (wq_I c1)), some (.int (wq_I y2))] [] S :=
  wq_loop_ind (f := fun (g : Int × wq_St → Option (Int × wq_St)) (x : Int × wq_St) => b_X9_stepOf_2 c1 kx (fun y2 S => g (y2, S)) x.1 x.2) (P := (fun x : Int × wq_St => wq_Z p l e (wq_rm 1 0 0) s m args below meth c D (wq_EM Ar b) b 32 3 (wq_Ab b 32) (MQ below (wq_Qc D (wq_EM Ar b) b 32 (some (.int (wq_I r0))) S0) args s 0 0 (wq_Ab b 32)) 0 0 2 [some (.ref (b + 0)), some (.int (wq_I c1)), some (.int (wq_I (x.1)))] [] x.2)) (fun g hg x hx => tb_X9_stepOf_2 F hkx (fun y2 S h => hg (y2, S) h) x.1 x.2 hx) n (y2, S) h
set_option maxHeartbeats 4000000 in
set_option maxRecDepth 100000 in
theorem ct_X9_stepOf {l : Launch} {D : va_G} {Ar : Nat → ClassId} {b : Nat} {x1 : Int} {S S0 : wq_St} {r0 : Int} (h : f_X9_stepOf x1 S = some (r0, S0)) : wq_Ct l yX9_stepOf (.code yX9_stepOf cX9_stepOf 3 ((Option.some Jvm.ClassFile.FieldType.int))) 1 D Ar (wq_EM Ar b) b 32 [.ref (b + 0), .int (wq_I x1)] S (some (.int (wq_I r0))) S0 := by
  refine wq_start "WharfQueryModel" [some (.ref (b + 0)), some (.int (wq_I x1)), none] (by decide +kernel) rfl (Nat.le_of_ble_eq_true rfl) rfl ?_
  intro p e s m args below meth c F
  unfold f_X9_stepOf at h
  refine wq_iconst (n := 0) F dX9_stepOf_0 rfl ?_
  refine wq_istore_n (L' := [some (.ref (b + 0)), some (.int (wq_I x1)), some (.int (wq_I 0))]) F dX9_stepOf_1 rfl (by decide) rfl rfl rfl ?_
  refine wq_lsub [some (.ref (b + 0)), some (.int (wq_I x1)), some (.int (wq_I 0))] (by simp [wq_sub]) (tl_X9_stepOf_2 F (fun u2 S3 h => ?_) wq_fu 0 S h)
  refine wq_iload_n F dX9_stepOf_18 rfl rfl rfl ?_
  cases h
  exact wq_iret F rfl rfl dX9_stepOf_19
set_option maxHeartbeats 4000000 in
set_option maxRecDepth 100000 in
theorem ct_X9_stepOfCondition {l : Launch} {D : va_G} {Ar : Nat → ClassId} {b : Nat} {x1 : Int} {S S0 : wq_St} {r0 : Int} (h : f_X9_stepOfCondition x1 S = some (r0, S0)) : wq_Ct l yX9_stepOfCondition (.code yX9_stepOfCondition cX9_stepOfCondition 4 ((Option.some Jvm.ClassFile.FieldType.int))) 2 D Ar (wq_EM Ar b) b 32 [.ref (b + 0), .int (wq_I x1)] S (some (.int (wq_I r0))) S0 := by
  refine wq_start "WharfQueryModel" [some (.ref (b + 0)), some (.int (wq_I x1)), none, none] (by decide +kernel) rfl (Nat.le_of_ble_eq_true rfl) rfl ?_
  intro p e s m args below meth c F
  unfold f_X9_stepOfCondition at h
  refine wq_aload_n F dX9_stepOfCondition_0 rfl rfl rfl ?_
  refine wq_aload_n F dX9_stepOfCondition_1 rfl rfl rfl ?_
  refine wq_g_X9_63 F dX9_stepOfCondition_2 rfl ?_
  refine wq_iload_n F dX9_stepOfCondition_5 rfl rfl rfl ?_
  obtain ⟨t1, ht1, wt1, h⟩ := wq_ix_some h
  refine wq_iald F (Nat.le_of_ble_eq_true rfl) wq_EM_source ht1 wt1 dX9_stepOfCondition_6 rfl ?_
  obtain ⟨r2, S3, h1r2, h⟩ := wq_bd_some h
  refine wq_callV (As := [.int (wq_I (S 17 t1))]) F lk_X9_174 (ct_X9_stepOf h1r2) ⟨Nat.le_of_ble_eq_true rfl, Nat.le_of_ble_eq_true rfl⟩ ⟨Nat.le_of_ble_eq_true rfl, Nat.le_of_ble_eq_true rfl⟩ (Nat.le_of_ble_eq_true rfl) rfl rfl (fun _ h9 => h9) rfl rfl (Nat.le_of_ble_eq_true rfl) dX9_stepOfCondition_7 rfl ?_
  refine wq_istore_n (L' := [some (.ref (b + 0)), some (.int (wq_I x1)), some (.int (wq_I r2)), none]) F dX9_stepOfCondition_10 rfl (by decide) rfl rfl rfl ?_
  refine wq_aload_n F dX9_stepOfCondition_11 rfl rfl rfl ?_
  refine wq_g_X9_60 F dX9_stepOfCondition_12 rfl ?_
  refine wq_iload_n F dX9_stepOfCondition_15 rfl rfl rfl ?_
  obtain ⟨t4, ht4, wt4, h⟩ := wq_ix_some h
  refine wq_iald F (Nat.le_of_ble_eq_true rfl) wq_EM_kind ht4 wt4 dX9_stepOfCondition_16 rfl ?_
  refine wq_iconst (n := 3) F dX9_stepOfCondition_17 rfl ?_
  refine wq_icmp_ne (tgt := 34) F dX9_stepOfCondition_18 (by decide) rfl (fun hc => ?_) (fun hc => ?_)
  · replace h := wq_iff hc h
    refine wq_iload_n F dX9_stepOfCondition_34 rfl rfl rfl ?_
    refine wq_istore_n (L' := [some (.ref (b + 0)), some (.int (wq_I x1)), some (.int (wq_I r2)), some (.int (wq_I r2))]) F dX9_stepOfCondition_35 rfl (by decide) rfl rfl rfl ?_
    refine wq_iload_n F dX9_stepOfCondition_36 rfl rfl rfl ?_
    refine wq_iload_n F dX9_stepOfCondition_37 rfl rfl rfl ?_
    refine wq_icmp_le (tgt := 45) F dX9_stepOfCondition_38 (by decide) rfl (fun hc => ?_) (fun hc => ?_)
    · replace h := wq_ift hc h
      refine wq_iload_n F dX9_stepOfCondition_45 rfl rfl rfl ?_
      cases h
      exact wq_iret F rfl rfl dX9_stepOfCondition_46
    · replace h := wq_iff hc h
      refine wq_iload_n F dX9_stepOfCondition_41 rfl rfl rfl ?_
      refine wq_goto (tgt := 46) F dX9_stepOfCondition_42 (by decide) ?_
      cases h
      exact wq_iret F rfl rfl dX9_stepOfCondition_46
  · replace h := wq_ift hc h
    refine wq_aload_n F dX9_stepOfCondition_21 rfl rfl rfl ?_
    refine wq_aload_n F dX9_stepOfCondition_22 rfl rfl rfl ?_
    refine wq_g_X9_72 F dX9_stepOfCondition_23 rfl ?_
    refine wq_iload_n F dX9_stepOfCondition_26 rfl rfl rfl ?_
    obtain ⟨t5, ht5, wt5, h⟩ := wq_ix_some h
    refine wq_iald F (Nat.le_of_ble_eq_true rfl) wq_EM_other ht5 wt5 dX9_stepOfCondition_27 rfl ?_
    obtain ⟨r6, S7, h1r6, h⟩ := wq_bd_some h
    refine wq_callV (As := [.int (wq_I (S3 20 t5))]) F lk_X9_174 (ct_X9_stepOf h1r6) ⟨Nat.le_of_ble_eq_true rfl, Nat.le_of_ble_eq_true rfl⟩ ⟨Nat.le_of_ble_eq_true rfl, Nat.le_of_ble_eq_true rfl⟩ (Nat.le_of_ble_eq_true rfl) rfl rfl (fun _ h9 => h9) rfl rfl (Nat.le_of_ble_eq_true rfl) dX9_stepOfCondition_28 rfl ?_
    refine wq_goto (tgt := 35) F dX9_stepOfCondition_31 (by decide) ?_
    refine wq_istore_n (L' := [some (.ref (b + 0)), some (.int (wq_I x1)), some (.int (wq_I r2)), some (.int (wq_I r6))]) F dX9_stepOfCondition_35 rfl (by decide) rfl rfl rfl ?_
    refine wq_iload_n F dX9_stepOfCondition_36 rfl rfl rfl ?_
    refine wq_iload_n F dX9_stepOfCondition_37 rfl rfl rfl ?_
    refine wq_icmp_le (tgt := 45) F dX9_stepOfCondition_38 (by decide) rfl (fun hc => ?_) (fun hc => ?_)
    · replace h := wq_ift hc h
      refine wq_iload_n F dX9_stepOfCondition_45 rfl rfl rfl ?_
      cases h
      exact wq_iret F rfl rfl dX9_stepOfCondition_46
    · replace h := wq_iff hc h
      refine wq_iload_n F dX9_stepOfCondition_41 rfl rfl rfl ?_
      refine wq_goto (tgt := 46) F dX9_stepOfCondition_42 (by decide) ?_
      cases h
      exact wq_iret F rfl rfl dX9_stepOfCondition_46
set_option maxHeartbeats 4000000 in
set_option maxRecDepth 100000 in
theorem ct_X9_columnAt {l : Launch} {D : va_G} {Ar : Nat → ClassId} {b : Nat} {x1 : Int} {x2 : Int} {S S0 : wq_St} {r0 : Int} (h : f_X9_columnAt x1 x2 S = some (r0, S0)) : wq_Ct l yX9_columnAt (.code yX9_columnAt cX9_columnAt 3 ((Option.some Jvm.ClassFile.FieldType.int))) 1 D Ar (wq_EM Ar b) b 32 [.ref (b + 0), .int (wq_I x1), .int (wq_I x2)] S (some (.int (wq_I r0))) S0 := by
  refine wq_start "WharfQueryModel" [some (.ref (b + 0)), some (.int (wq_I x1)), some (.int (wq_I x2))] (by decide +kernel) rfl (Nat.le_of_ble_eq_true rfl) rfl ?_
  intro p e s m args below meth c F
  unfold f_X9_columnAt at h
  refine wq_aload_n F dX9_columnAt_0 rfl rfl rfl ?_
  refine wq_g_X9_63 F dX9_columnAt_1 rfl ?_
  refine wq_iload_n F dX9_columnAt_4 rfl rfl rfl ?_
  obtain ⟨t1, ht1, wt1, h⟩ := wq_ix_some h
  refine wq_iald F (Nat.le_of_ble_eq_true rfl) wq_EM_source ht1 wt1 dX9_columnAt_5 rfl ?_
  refine wq_aload_n F dX9_columnAt_6 rfl rfl rfl ?_
  refine wq_g_X9_93 F dX9_columnAt_7 rfl ?_
  refine wq_iload_n F dX9_columnAt_10 rfl rfl rfl ?_
  obtain ⟨t2, ht2, wt2, h⟩ := wq_ix_some h
  refine wq_iald F (Nat.le_of_ble_eq_true rfl) wq_EM_order ht2 wt2 dX9_columnAt_11 rfl ?_
  refine wq_icmp_ne (tgt := 24) F dX9_columnAt_12 (by decide) rfl (fun hc => ?_) (fun hc => ?_)
  · replace h := wq_iff hc h
    refine wq_aload_n F dX9_columnAt_24 rfl rfl rfl ?_
    refine wq_g_X9_75 F dX9_columnAt_25 rfl ?_
    refine wq_iload_n F dX9_columnAt_28 rfl rfl rfl ?_
    obtain ⟨t3, ht3, wt3, h⟩ := wq_ix_some h
    refine wq_iald F (Nat.le_of_ble_eq_true rfl) wq_EM_otherColumn ht3 wt3 dX9_columnAt_29 rfl ?_
    cases h
    exact wq_iret F rfl rfl dX9_columnAt_30
  · replace h := wq_ift hc h
    refine wq_aload_n F dX9_columnAt_15 rfl rfl rfl ?_
    refine wq_g_X9_66 F dX9_columnAt_16 rfl ?_
    refine wq_iload_n F dX9_columnAt_19 rfl rfl rfl ?_
    obtain ⟨t4, ht4, wt4, h⟩ := wq_ix_some h
    refine wq_iald F (Nat.le_of_ble_eq_true rfl) wq_EM_column ht4 wt4 dX9_columnAt_20 rfl ?_
    refine wq_goto (tgt := 30) F dX9_columnAt_21 (by decide) ?_
    cases h
    exact wq_iret F rfl rfl dX9_columnAt_30
set_option maxHeartbeats 4000000 in
set_option maxRecDepth 100000 in
theorem tj_X9_useOf_43 {p : Program} {l : Launch} {e : Env} {s : State} {m : MethodId} {args : Array Value} {below : List Frame} {meth : Method} {c : Code} {D : va_G} {Ar : Nat → ClassId} {b : Nat} (F : wq_Fr p s m args meth c cX9_useOf 5 ((Option.some Jvm.ClassFile.FieldType.int)) "WharfQueryModel" D Ar) {r0 : Int} {S0 : wq_St} {kx : wq_St → Option (Int × wq_St)} {rec : Int → wq_St → Option (Int × wq_St)} {j1 : Int} {j2 : Int} {j3 : Int} {j4 : Int} (hkx : ∀ (S : wq_St), kx S = some (r0, S0) → wq_Z p l e (wq_rm 3 0 0) s m args below meth c D (wq_EM Ar b) b 32 5 (wq_Ab b 32) (MQ below (wq_Qc D (wq_EM Ar b) b 32 (some (.int (wq_I r0))) S0) args s 0 0 (wq_Ab b 32)) 0 0 73 [none, none, none, none, none] [] S) (hrec : ∀ (y4 : Int) (S : wq_St), rec y4 S = some (r0, S0) → wq_Z p l e (wq_rm 3 0 0) s m args below meth c D (wq_EM Ar b) b 32 5 (wq_Ab b 32) (MQ below (wq_Qc D (wq_EM Ar b) b 32 (some (.int (wq_I r0))) S0) args s 0 0 (wq_Ab b 32)) 0 0 6 [some (.ref (b + 0)), some (.int (wq_I j1)), some (.int (wq_I j2)), some (.int (wq_I j3)), some (.int (wq_I y4))] [] S) (S : wq_St) (h : j_X9_useOf_43 kx rec j1 j2 j3 j4 S = some (r0, S0)) : wq_Z p l e (wq_rm 3 0 0) s m args below meth c D (wq_EM Ar b) b 32 5 (wq_Ab b 32) (MQ below (wq_Qc D (wq_EM Ar b) b 32 (some (.int (wq_I r0))) S0) args s 0 0 (wq_Ab b 32)) 0 0 43 [some (.ref (b + 0)), some (.int (wq_I j1)), some (.int (wq_I j2)), some (.int (wq_I j3)), some (.int (wq_I j4))] [] S := by
  unfold j_X9_useOf_43 at h
  refine wq_aload_n F dX9_useOf_43 rfl rfl rfl ?_
  refine wq_iload F dX9_useOf_44 rfl rfl ?_
  obtain ⟨r3, S4, h1r3, h⟩ := wq_bd_some h
  refine wq_callV (As := [.int (wq_I j4)]) F lk_X9_177 (ct_X9_stepOfCondition h1r3) ⟨Nat.le_of_ble_eq_true rfl, Nat.le_of_ble_eq_true rfl⟩ ⟨Nat.le_of_ble_eq_true rfl, Nat.le_of_ble_eq_true rfl⟩ (Nat.le_of_ble_eq_true rfl) rfl rfl (fun _ h9 => h9) rfl rfl (Nat.le_of_ble_eq_true rfl) dX9_useOf_46 rfl ?_
  refine wq_iload_n F dX9_useOf_49 rfl rfl rfl ?_
  refine wq_icmp_ne (tgt := 67) F dX9_useOf_50 (by decide) rfl (fun hc => ?_) (fun hc => ?_)
  · replace h := wq_iff hc h
    refine wq_iinc (L' := [some (.ref (b + 0)), some (.int (wq_I j1)), some (.int (wq_I j2)), some (.int (wq_I j3)), some (.int (wq_I (j4 + 1)))]) F dX9_useOf_67 rfl (by decide) rfl rfl rfl ?_
    refine wq_goto (tgt := 6) F dX9_useOf_70 (by decide) ?_
    exact wq_lsub [some (.ref (b + 0)), some (.int (wq_I j1)), some (.int (wq_I j2)), some (.int (wq_I j3)), some (.int (wq_I (j4 + 1)))] (by simp [wq_sub]) (hrec (j4 + 1) S4 h)
  · replace h := wq_ift hc h
    refine wq_aload_n F dX9_useOf_53 rfl rfl rfl ?_
    refine wq_iload F dX9_useOf_54 rfl rfl ?_
    refine wq_iload_n F dX9_useOf_56 rfl rfl rfl ?_
    obtain ⟨r5, S6, h1r5, h⟩ := wq_bd_some h
    refine wq_callV (As := [.int (wq_I j4), .int (wq_I j2)]) F lk_X9_180 (ct_X9_columnAt h1r5) ⟨Nat.le_of_ble_eq_true rfl, Nat.le_of_ble_eq_true rfl⟩ ⟨Nat.le_of_ble_eq_true rfl, Nat.le_of_ble_eq_true rfl⟩ (Nat.le_of_ble_eq_true rfl) rfl rfl (fun _ h9 => h9) rfl rfl (Nat.le_of_ble_eq_true rfl) dX9_useOf_57 rfl ?_
    refine wq_iload_n F dX9_useOf_60 rfl rfl rfl ?_
    refine wq_icmp_ne (tgt := 67) F dX9_useOf_61 (by decide) rfl (fun hc => ?_) (fun hc => ?_)
    · replace h := wq_iff hc h
      refine wq_iinc (L' := [some (.ref (b + 0)), some (.int (wq_I j1)), some (.int (wq_I j2)), some (.int (wq_I j3)), some (.int (wq_I (j4 + 1)))]) F dX9_useOf_67 rfl (by decide) rfl rfl rfl ?_
      refine wq_goto (tgt := 6) F dX9_useOf_70 (by decide) ?_
      exact wq_lsub [some (.ref (b + 0)), some (.int (wq_I j1)), some (.int (wq_I j2)), some (.int (wq_I j3)), some (.int (wq_I (j4 + 1)))] (by simp [wq_sub]) (hrec (j4 + 1) S6 h)
    · replace h := wq_ift hc h
      refine wq_iload F dX9_useOf_64 rfl rfl ?_
      cases h
      exact wq_iret F rfl rfl dX9_useOf_66
set_option maxHeartbeats 4000000 in
set_option maxRecDepth 100000 in
theorem tb_X9_useOf_6 {p : Program} {l : Launch} {e : Env} {s : State} {m : MethodId} {args : Array Value} {below : List Frame} {meth : Method} {c : Code} {D : va_G} {Ar : Nat → ClassId} {b : Nat} (F : wq_Fr p s m args meth c cX9_useOf 5 ((Option.some Jvm.ClassFile.FieldType.int)) "WharfQueryModel" D Ar) {r0 : Int} {S0 : wq_St} {c1 : Int} {c2 : Int} {c3 : Int} {kx : wq_St → Option (Int × wq_St)} (hkx : ∀ (S : wq_St), kx S = some (r0, S0) → wq_Z p l e (wq_rm 3 0 0) s m args below meth c D (wq_EM Ar b) b 32 5 (wq_Ab b 32) (MQ below (wq_Qc D (wq_EM Ar b) b 32 (some (.int (wq_I r0))) S0) args s 0 0 (wq_Ab b 32)) 0 0 73 [none, none, none, none, none] [] S) {rec : Int → wq_St → Option (Int × wq_St)} (hrec : ∀ (y4 : Int) (S : wq_St), rec y4 S = some (r0, S0) → wq_Z p l e (wq_rm 3 0 0) s m args below meth c D (wq_EM Ar b) b 32 5 (wq_Ab b 32) (MQ below (wq_Qc D (wq_EM Ar b) b 32 (some (.int (wq_I r0))) S0) args s 0 0 (wq_Ab b 32)) 0 0 6 [some (.ref (b + 0)), some (.int (wq_I c1)), some (.int (wq_I c2)), some (.int (wq_I c3)), some (.int (wq_I y4))] [] S) (y4 : Int) (S : wq_St) (h : b_X9_useOf_6 c1 c2 c3 kx rec y4 S = some (r0, S0)) : wq_Z p l e (wq_rm 3 0 0) s m args below meth c D (wq_EM Ar b) b 32 5 (wq_Ab b 32) (MQ below (wq_Qc D (wq_EM Ar b) b 32 (some (.int (wq_I r0))) S0) args s 0 0 (wq_Ab b 32)) 0 0 6 [some (.ref (b + 0)), some (.int (wq_I c1)), some (.int (wq_I c2)), some (.int (wq_I c3)), some (.int (wq_I y4))] [] S := by
  unfold b_X9_useOf_6 at h
  refine wq_iload F dX9_useOf_6 rfl rfl ?_
  refine wq_bipush (n := 6) F dX9_useOf_8 (by decide) rfl ?_
  refine wq_iload_n F dX9_useOf_10 rfl rfl rfl ?_
  refine wq_imul F dX9_useOf_11 rfl ?_
  refine wq_aload_n F dX9_useOf_12 rfl rfl rfl ?_
  refine wq_g_X9_57 F dX9_useOf_13 rfl ?_
  refine wq_iload_n F dX9_useOf_16 rfl rfl rfl ?_
  obtain ⟨t1, ht1, wt1, h⟩ := wq_ix_some h
  refine wq_iald F (Nat.le_of_ble_eq_true rfl) wq_EM_conditions ht1 wt1 dX9_useOf_17 rfl ?_
  refine wq_iadd F dX9_useOf_18 rfl ?_
  refine wq_icmp_ge (tgt := 73) F dX9_useOf_19 (by decide) rfl (fun hc => ?_) (fun hc => ?_)
  · replace h := wq_ift hc h
    exact wq_lsub [none, none, none, none, none] (by simp [wq_sub]) (hkx S h)
  · replace h := wq_iff hc h
    refine wq_aload_n F dX9_useOf_22 rfl rfl rfl ?_
    refine wq_g_X9_60 F dX9_useOf_23 rfl ?_
    refine wq_iload F dX9_useOf_26 rfl rfl ?_
    obtain ⟨t2, ht2, wt2, h⟩ := wq_ix_some h
    refine wq_iald F (Nat.le_of_ble_eq_true rfl) wq_EM_kind ht2 wt2 dX9_useOf_28 rfl ?_
    refine wq_if_eq (tgt := 43) F dX9_useOf_29 (by decide) rfl (fun hc => ?_) (fun hc => ?_)
    · replace h := wq_ift hc h
      exact wq_lsub [some (.ref (b + 0)), some (.int (wq_I c1)), some (.int (wq_I c2)), some (.int (wq_I c3)), some (.int (wq_I y4))] (by simp [wq_sub]) (tj_X9_useOf_43 F hkx hrec S h)
    · replace h := wq_iff hc h
      refine wq_aload_n F dX9_useOf_32 rfl rfl rfl ?_
      refine wq_g_X9_60 F dX9_useOf_33 rfl ?_
      refine wq_iload F dX9_useOf_36 rfl rfl ?_
      obtain ⟨t7, ht7, wt7, h⟩ := wq_ix_some h
      refine wq_iald F (Nat.le_of_ble_eq_true rfl) wq_EM_kind ht7 wt7 dX9_useOf_38 rfl ?_
      refine wq_iconst (n := 3) F dX9_useOf_39 rfl ?_
      refine wq_icmp_ne (tgt := 67) F dX9_useOf_40 (by decide) rfl (fun hc => ?_) (fun hc => ?_)
      · replace h := wq_iff hc h
        refine wq_iinc (L' := [some (.ref (b + 0)), some (.int (wq_I c1)), some (.int (wq_I c2)), some (.int (wq_I c3)), some (.int (wq_I (y4 + 1)))]) F dX9_useOf_67 rfl (by decide) rfl rfl rfl ?_
        refine wq_goto (tgt := 6) F dX9_useOf_70 (by decide) ?_
        exact wq_lsub [some (.ref (b + 0)), some (.int (wq_I c1)), some (.int (wq_I c2)), some (.int (wq_I c3)), some (.int (wq_I (y4 + 1)))] (by simp [wq_sub]) (hrec (y4 + 1) S h)
      · replace h := wq_ift hc h
        exact wq_lsub [some (.ref (b + 0)), some (.int (wq_I c1)), some (.int (wq_I c2)), some (.int (wq_I c3)), some (.int (wq_I y4))] (by simp [wq_sub]) (tj_X9_useOf_43 F hkx hrec S h)
set_option maxHeartbeats 4000000 in
set_option maxRecDepth 100000 in
theorem tl_X9_useOf_6 {p : Program} {l : Launch} {e : Env} {s : State} {m : MethodId} {args : Array Value} {below : List Frame} {meth : Method} {c : Code} {D : va_G} {Ar : Nat → ClassId} {b : Nat} (F : wq_Fr p s m args meth c cX9_useOf 5 ((Option.some Jvm.ClassFile.FieldType.int)) "WharfQueryModel" D Ar) {r0 : Int} {S0 : wq_St} {c1 : Int} {c2 : Int} {c3 : Int} {kx : wq_St → Option (Int × wq_St)} (hkx : ∀ (S : wq_St), kx S = some (r0, S0) → wq_Z p l e (wq_rm 3 0 0) s m args below meth c D (wq_EM Ar b) b 32 5 (wq_Ab b 32) (MQ below (wq_Qc D (wq_EM Ar b) b 32 (some (.int (wq_I r0))) S0) args s 0 0 (wq_Ab b 32)) 0 0 73 [none, none, none, none, none] [] S) (n : Nat) (y4 : Int) (S : wq_St) (h : l_X9_useOf_6 c1 c2 c3 kx n y4 S = some (r0, S0)) : wq_Z p l e (wq_rm 3 0 0) s m args below meth c D (wq_EM Ar b) b 32 5 (wq_Ab b 32) (MQ below (wq_Qc D (wq_EM Ar b) b 32 (some (.int (wq_I r0))) S0) args s 0 0 (wq_Ab b 32)) 0 0 6 [some (.ref (b + 0)), some (.int (wq_I c1)), some (.int (wq_I c2)), some (.int (wq_I c3)), some (.int (wq_I y4))] [] S :=
  wq_loop_ind (f := fun (g : Int × wq_St → Option (Int × wq_St)) (x : Int × wq_St) => b_X9_useOf_6 c1 c2 c3 kx (fun y4 S => g (y4, S)) x.1 x.2) (P := (fun x : Int × wq_St => wq_Z p l e (wq_rm 3 0 0) s m args below meth c D (wq_EM Ar b) b 32 5 (wq_Ab b 32) (MQ below (wq_Qc D (wq_EM Ar b) b 32 (some (.int (wq_I r0))) S0) args s 0 0 (wq_Ab b 32)) 0 0 6 [some (.ref (b + 0)), some (.int (wq_I c1)), some (.int (wq_I c2)), some (.int (wq_I c3)), some (.int (wq_I (x.1)))] [] x.2)) (fun g hg x hx => tb_X9_useOf_6 F hkx (fun y4 S h => hg (y4, S) h) x.1 x.2 hx) n (y4, S) h
set_option maxHeartbeats 4000000 in
set_option maxRecDepth 100000 in
theorem ct_X9_useOf {l : Launch} {D : va_G} {Ar : Nat → ClassId} {b : Nat} {x1 : Int} {x2 : Int} {x3 : Int} {S S0 : wq_St} {r0 : Int} (h : f_X9_useOf x1 x2 x3 S = some (r0, S0)) : wq_Ct l yX9_useOf (.code yX9_useOf cX9_useOf 5 ((Option.some Jvm.ClassFile.FieldType.int))) 3 D Ar (wq_EM Ar b) b 32 [.ref (b + 0), .int (wq_I x1), .int (wq_I x2), .int (wq_I x3)] S (some (.int (wq_I r0))) S0 := by
  refine wq_start "WharfQueryModel" [some (.ref (b + 0)), some (.int (wq_I x1)), some (.int (wq_I x2)), some (.int (wq_I x3)), none] (by decide +kernel) rfl (Nat.le_of_ble_eq_true rfl) rfl ?_
  intro p e s m args below meth c F
  unfold f_X9_useOf at h
  refine wq_bipush (n := 6) F dX9_useOf_0 (by decide) rfl ?_
  refine wq_iload_n F dX9_useOf_2 rfl rfl rfl ?_
  refine wq_imul F dX9_useOf_3 rfl ?_
  refine wq_istore (L' := [some (.ref (b + 0)), some (.int (wq_I x1)), some (.int (wq_I x2)), some (.int (wq_I x3)), some (.int (wq_I (6 * x1)))]) F dX9_useOf_4 (by decide) rfl rfl rfl ?_
  refine wq_lsub [some (.ref (b + 0)), some (.int (wq_I x1)), some (.int (wq_I x2)), some (.int (wq_I x3)), some (.int (wq_I (6 * x1)))] (by simp [wq_sub]) (tl_X9_useOf_6 F (fun S8 h => ?_) wq_fu (6 * x1) S h)
  refine wq_iconst (n := -1) F dX9_useOf_73 rfl ?_
  cases h
  exact wq_iret F rfl rfl dX9_useOf_74
set_option maxHeartbeats 4000000 in
set_option maxRecDepth 100000 in
theorem ct_X9_cellAt {l : Launch} {D : va_G} {Ar : Nat → ClassId} {b : Nat} {x1 : Int} {x2 : Int} {x3 : Int} {S S0 : wq_St} {r0 : Int} (h : f_X9_cellAt x1 x2 x3 S = some (r0, S0)) : wq_Ct l yX9_cellAt (.code yX9_cellAt cX9_cellAt 4 ((Option.some Jvm.ClassFile.FieldType.int))) 1 D Ar (wq_EM Ar b) b 32 [.ref (b + 0), .int (wq_I x1), .int (wq_I x2), .int (wq_I x3)] S (some (.int (wq_I r0))) S0 := by
  refine wq_start "WharfQueryModel" [some (.ref (b + 0)), some (.int (wq_I x1)), some (.int (wq_I x2)), some (.int (wq_I x3))] (by decide +kernel) rfl (Nat.le_of_ble_eq_true rfl) rfl ?_
  intro p e s m args below meth c F
  unfold f_X9_cellAt at h
  refine wq_iconst (n := 3) F dX9_cellAt_0 rfl ?_
  refine wq_aload_n F dX9_cellAt_1 rfl rfl rfl ?_
  refine wq_g_X9_54 F dX9_cellAt_2 rfl ?_
  refine wq_iconst (n := 3) F dX9_cellAt_5 rfl ?_
  refine wq_iload_n F dX9_cellAt_6 rfl rfl rfl ?_
  refine wq_imul F dX9_cellAt_7 rfl ?_
  refine wq_iload_n F dX9_cellAt_8 rfl rfl rfl ?_
  refine wq_iadd F dX9_cellAt_9 rfl ?_
  obtain ⟨t1, ht1, wt1, h⟩ := wq_ix_some h
  refine wq_iald F (Nat.le_of_ble_eq_true rfl) wq_EM_tableOf ht1 wt1 dX9_cellAt_10 rfl ?_
  refine wq_imul F dX9_cellAt_11 rfl ?_
  refine wq_iload_n F dX9_cellAt_12 rfl rfl rfl ?_
  refine wq_iadd F dX9_cellAt_13 rfl ?_
  cases h
  exact wq_iret F rfl rfl dX9_cellAt_14
set_option maxHeartbeats 4000000 in
set_option maxRecDepth 100000 in
theorem tj_X9_changed_60 {p : Program} {l : Launch} {e : Env} {s : State} {m : MethodId} {args : Array Value} {below : List Frame} {meth : Method} {c : Code} {D : va_G} {Ar : Nat → ClassId} {b : Nat} (F : wq_Fr p s m args meth c cX9_changed 8 ((Option.some Jvm.ClassFile.FieldType.long)) "WharfQueryModel" D Ar) {r0 : Int} {S0 : wq_St} {j1 : Int} {j2 : Int} {j3 : Int} (z0 : Int) (S : wq_St) (h : j_X9_changed_60 j1 j2 j3 z0 S = some (r0, S0)) : wq_Z p l e (wq_rm 2 0 0) s m args below meth c D (wq_EM Ar b) b 32 8 (wq_Ab b 32) (MQ below (wq_Qc D (wq_EM Ar b) b 32 (some (.long (wq_J r0))) S0) args s 0 0 (wq_Ab b 32)) 0 0 60 [some (.ref (b + 0)), some (.int (wq_I j1)), some (.int (wq_I j2)), some (.long (wq_J j3)), none, none, none, none] [.int (wq_I z0)] S := by
  unfold j_X9_changed_60 at h
  refine wq_istore (L' := [some (.ref (b + 0)), some (.int (wq_I j1)), some (.int (wq_I j2)), some (.long (wq_J j3)), none, none, some (.int (wq_I z0)), none]) F dX9_changed_60 (by decide) rfl rfl rfl ?_
  refine wq_aload_n F dX9_changed_62 rfl rfl rfl ?_
  refine wq_g_X9_60 F dX9_changed_63 rfl ?_
  refine wq_iload_n F dX9_changed_66 rfl rfl rfl ?_
  obtain ⟨t8, ht8, wt8, h⟩ := wq_ix_some h
  refine wq_iald F (Nat.le_of_ble_eq_true rfl) wq_EM_kind ht8 wt8 dX9_changed_67 rfl ?_
  refine wq_iconst (n := 3) F dX9_changed_68 rfl ?_
  refine wq_icmp_ne (tgt := 123) F dX9_changed_69 (by decide) rfl (fun hc => ?_) (fun hc => ?_)
  · replace h := wq_iff hc h
    refine wq_lload_n F dX9_changed_123 rfl rfl rfl ?_
    refine wq_iload F dX9_changed_124 rfl rfl ?_
    refine wq_i2l_ F dX9_changed_126 rfl ?_
    obtain ⟨hg, h⟩ := wq_gd_some h
    refine wq_ldiv (hy := hg) F dX9_changed_127 rfl ?_
    cases h
    exact wq_lret F rfl rfl dX9_changed_128
  · replace h := wq_ift hc h
    refine wq_aload_n F dX9_changed_72 rfl rfl rfl ?_
    refine wq_g_X9_29 F dX9_changed_73 rfl ?_
    refine wq_aload_n F dX9_changed_76 rfl rfl rfl ?_
    refine wq_iload_n F dX9_changed_77 rfl rfl rfl ?_
    refine wq_aload_n F dX9_changed_78 rfl rfl rfl ?_
    refine wq_g_X9_72 F dX9_changed_79 rfl ?_
    refine wq_iload_n F dX9_changed_82 rfl rfl rfl ?_
    obtain ⟨t9, ht9, wt9, h⟩ := wq_ix_some h
    refine wq_iald F (Nat.le_of_ble_eq_true rfl) wq_EM_other ht9 wt9 dX9_changed_83 rfl ?_
    refine wq_aload_n F dX9_changed_84 rfl rfl rfl ?_
    refine wq_g_X9_75 F dX9_changed_85 rfl ?_
    refine wq_iload_n F dX9_changed_88 rfl rfl rfl ?_
    obtain ⟨t10, ht10, wt10, h⟩ := wq_ix_some h
    refine wq_iald F (Nat.le_of_ble_eq_true rfl) wq_EM_otherColumn ht10 wt10 dX9_changed_89 rfl ?_
    obtain ⟨r11, S12, h1r11, h⟩ := wq_bd_some h
    refine wq_callV (As := [.int (wq_I j1), .int (wq_I (S 20 t9)), .int (wq_I (S 21 t10))]) F lk_X9_183 (ct_X9_cellAt h1r11) ⟨Nat.le_of_ble_eq_true rfl, Nat.le_of_ble_eq_true rfl⟩ ⟨Nat.le_of_ble_eq_true rfl, Nat.le_of_ble_eq_true rfl⟩ (Nat.le_of_ble_eq_true rfl) rfl rfl (fun _ h9 => h9) rfl rfl (Nat.le_of_ble_eq_true rfl) dX9_changed_90 rfl ?_
    obtain ⟨t13, ht13, wt13, h⟩ := wq_ix_some h
    refine wq_iald F (Nat.le_of_ble_eq_true rfl) wq_EM_unlike ht13 wt13 dX9_changed_93 rfl ?_
    refine wq_iload F dX9_changed_94 rfl rfl ?_
    refine wq_icmp_le (tgt := 123) F dX9_changed_96 (by decide) rfl (fun hc => ?_) (fun hc => ?_)
    · replace h := wq_ift hc h
      refine wq_lload_n F dX9_changed_123 rfl rfl rfl ?_
      refine wq_iload F dX9_changed_124 rfl rfl ?_
      refine wq_i2l_ F dX9_changed_126 rfl ?_
      obtain ⟨hg, h⟩ := wq_gd_some h
      refine wq_ldiv (hy := hg) F dX9_changed_127 rfl ?_
      cases h
      exact wq_lret F rfl rfl dX9_changed_128
    · replace h := wq_iff hc h
      refine wq_aload_n F dX9_changed_99 rfl rfl rfl ?_
      refine wq_g_X9_29 F dX9_changed_100 rfl ?_
      refine wq_aload_n F dX9_changed_103 rfl rfl rfl ?_
      refine wq_iload_n F dX9_changed_104 rfl rfl rfl ?_
      refine wq_aload_n F dX9_changed_105 rfl rfl rfl ?_
      refine wq_g_X9_72 F dX9_changed_106 rfl ?_
      refine wq_iload_n F dX9_changed_109 rfl rfl rfl ?_
      obtain ⟨t14, ht14, wt14, h⟩ := wq_ix_some h
      refine wq_iald F (Nat.le_of_ble_eq_true rfl) wq_EM_other ht14 wt14 dX9_changed_110 rfl ?_
      refine wq_aload_n F dX9_changed_111 rfl rfl rfl ?_
      refine wq_g_X9_75 F dX9_changed_112 rfl ?_
      refine wq_iload_n F dX9_changed_115 rfl rfl rfl ?_
      obtain ⟨t15, ht15, wt15, h⟩ := wq_ix_some h
      refine wq_iald F (Nat.le_of_ble_eq_true rfl) wq_EM_otherColumn ht15 wt15 dX9_changed_116 rfl ?_
      obtain ⟨r16, S17, h1r16, h⟩ := wq_bd_some h
      refine wq_callV (As := [.int (wq_I j1), .int (wq_I (S12 20 t14)), .int (wq_I (S12 21 t15))]) F lk_X9_183 (ct_X9_cellAt h1r16) ⟨Nat.le_of_ble_eq_true rfl, Nat.le_of_ble_eq_true rfl⟩ ⟨Nat.le_of_ble_eq_true rfl, Nat.le_of_ble_eq_true rfl⟩ (Nat.le_of_ble_eq_true rfl) rfl rfl (fun _ h9 => h9) rfl rfl (Nat.le_of_ble_eq_true rfl) dX9_changed_117 rfl ?_
      obtain ⟨t18, ht18, wt18, h⟩ := wq_ix_some h
      refine wq_iald F (Nat.le_of_ble_eq_true rfl) wq_EM_unlike ht18 wt18 dX9_changed_120 rfl ?_
      refine wq_istore (L' := [some (.ref (b + 0)), some (.int (wq_I j1)), some (.int (wq_I j2)), some (.long (wq_J j3)), none, none, some (.int (wq_I (S17 7 t18))), none]) F dX9_changed_121 (by decide) rfl rfl rfl ?_
      refine wq_lload_n F dX9_changed_123 rfl rfl rfl ?_
      refine wq_iload F dX9_changed_124 rfl rfl ?_
      refine wq_i2l_ F dX9_changed_126 rfl ?_
      obtain ⟨hg, h⟩ := wq_gd_some h
      refine wq_ldiv (hy := hg) F dX9_changed_127 rfl ?_
      cases h
      exact wq_lret F rfl rfl dX9_changed_128
set_option maxHeartbeats 4000000 in
set_option maxRecDepth 100000 in
theorem tj_X9_changed_38 {p : Program} {l : Launch} {e : Env} {s : State} {m : MethodId} {args : Array Value} {below : List Frame} {meth : Method} {c : Code} {D : va_G} {Ar : Nat → ClassId} {b : Nat} (F : wq_Fr p s m args meth c cX9_changed 8 ((Option.some Jvm.ClassFile.FieldType.long)) "WharfQueryModel" D Ar) {r0 : Int} {S0 : wq_St} {j1 : Int} {j2 : Int} {j3 : Int} {j5 : Int} (S : wq_St) (h : j_X9_changed_38 j1 j2 j3 j5 S = some (r0, S0)) : wq_Z p l e (wq_rm 2 0 0) s m args below meth c D (wq_EM Ar b) b 32 8 (wq_Ab b 32) (MQ below (wq_Qc D (wq_EM Ar b) b 32 (some (.long (wq_J r0))) S0) args s 0 0 (wq_Ab b 32)) 0 0 38 [some (.ref (b + 0)), some (.int (wq_I j1)), some (.int (wq_I j2)), some (.long (wq_J j3)), none, some (.int (wq_I j5)), none, none] [] S := by
  unfold j_X9_changed_38 at h
  refine wq_aload_n F dX9_changed_38 rfl rfl rfl ?_
  refine wq_g_X9_29 F dX9_changed_39 rfl ?_
  refine wq_iload F dX9_changed_42 rfl rfl ?_
  obtain ⟨t6, ht6, wt6, h⟩ := wq_ix_some h
  refine wq_iald F (Nat.le_of_ble_eq_true rfl) wq_EM_unlike ht6 wt6 dX9_changed_44 rfl ?_
  refine wq_iconst (n := 1) F dX9_changed_45 rfl ?_
  refine wq_icmp_ge (tgt := 53) F dX9_changed_46 (by decide) rfl (fun hc => ?_) (fun hc => ?_)
  · replace h := wq_ift hc h
    refine wq_aload_n F dX9_changed_53 rfl rfl rfl ?_
    refine wq_g_X9_29 F dX9_changed_54 rfl ?_
    refine wq_iload F dX9_changed_57 rfl rfl ?_
    obtain ⟨t7, ht7, wt7, h⟩ := wq_ix_some h
    refine wq_iald F (Nat.le_of_ble_eq_true rfl) wq_EM_unlike ht7 wt7 dX9_changed_59 rfl ?_
    exact wq_lsub [some (.ref (b + 0)), some (.int (wq_I j1)), some (.int (wq_I j2)), some (.long (wq_J j3)), none, none, none, none] (by simp [wq_sub]) (tj_X9_changed_60 F (S 7 t7) S h)
  · replace h := wq_iff hc h
    refine wq_iconst (n := 1) F dX9_changed_49 rfl ?_
    refine wq_goto (tgt := 60) F dX9_changed_50 (by decide) ?_
    exact wq_lsub [some (.ref (b + 0)), some (.int (wq_I j1)), some (.int (wq_I j2)), some (.long (wq_J j3)), none, none, none, none] (by simp [wq_sub]) (tj_X9_changed_60 F 1 S h)
set_option maxHeartbeats 4000000 in
set_option maxRecDepth 100000 in
theorem tj_X9_changed_189 {p : Program} {l : Launch} {e : Env} {s : State} {m : MethodId} {args : Array Value} {below : List Frame} {meth : Method} {c : Code} {D : va_G} {Ar : Nat → ClassId} {b : Nat} (F : wq_Fr p s m args meth c cX9_changed 8 ((Option.some Jvm.ClassFile.FieldType.long)) "WharfQueryModel" D Ar) {r0 : Int} {S0 : wq_St} {j3 : Int} {j6 : Int} (z0 : Int) (S : wq_St) (h : j_X9_changed_189 j3 j6 z0 S = some (r0, S0)) : wq_Z p l e (wq_rm 2 0 0) s m args below meth c D (wq_EM Ar b) b 32 8 (wq_Ab b 32) (MQ below (wq_Qc D (wq_EM Ar b) b 32 (some (.long (wq_J r0))) S0) args s 0 0 (wq_Ab b 32)) 0 0 189 [none, none, none, some (.long (wq_J j3)), none, none, some (.int (wq_I j6)), none] [.int (wq_I z0)] S := by
  unfold j_X9_changed_189 at h
  refine wq_istore (L' := [none, none, none, some (.long (wq_J j3)), none, none, some (.int (wq_I j6)), some (.int (wq_I z0))]) F dX9_changed_189 (by decide) rfl rfl rfl ?_
  refine wq_iload F dX9_changed_191 rfl rfl ?_
  refine wq_if_ge (tgt := 200) F dX9_changed_193 (by decide) rfl (fun hc => ?_) (fun hc => ?_)
  · replace h := wq_ift hc h
    refine wq_iload F dX9_changed_200 rfl rfl ?_
    refine wq_iload F dX9_changed_202 rfl rfl ?_
    refine wq_icmp_le (tgt := 212) F dX9_changed_204 (by decide) rfl (fun hc => ?_) (fun hc => ?_)
    · replace h := wq_ift hc h
      refine wq_iload F dX9_changed_212 rfl rfl ?_
      refine wq_istore (L' := [none, none, none, some (.long (wq_J j3)), none, none, some (.int (wq_I j6)), some (.int (wq_I z0))]) F dX9_changed_214 (by decide) rfl rfl rfl ?_
      refine wq_lload_n F dX9_changed_216 rfl rfl rfl ?_
      refine wq_iload F dX9_changed_217 rfl rfl ?_
      refine wq_i2l_ F dX9_changed_219 rfl ?_
      refine wq_lmul F dX9_changed_220 rfl ?_
      refine wq_iload F dX9_changed_221 rfl rfl ?_
      refine wq_i2l_ F dX9_changed_223 rfl ?_
      obtain ⟨hg, h⟩ := wq_gd_some h
      refine wq_ldiv (hy := hg) F dX9_changed_224 rfl ?_
      cases h
      exact wq_lret F rfl rfl dX9_changed_225
    · replace h := wq_iff hc h
      refine wq_iload F dX9_changed_207 rfl rfl ?_
      refine wq_goto (tgt := 214) F dX9_changed_209 (by decide) ?_
      refine wq_istore (L' := [none, none, none, some (.long (wq_J j3)), none, none, some (.int (wq_I j6)), some (.int (wq_I j6))]) F dX9_changed_214 (by decide) rfl rfl rfl ?_
      refine wq_lload_n F dX9_changed_216 rfl rfl rfl ?_
      refine wq_iload F dX9_changed_217 rfl rfl ?_
      refine wq_i2l_ F dX9_changed_219 rfl ?_
      refine wq_lmul F dX9_changed_220 rfl ?_
      refine wq_iload F dX9_changed_221 rfl rfl ?_
      refine wq_i2l_ F dX9_changed_223 rfl ?_
      obtain ⟨hg, h⟩ := wq_gd_some h
      refine wq_ldiv (hy := hg) F dX9_changed_224 rfl ?_
      cases h
      exact wq_lret F rfl rfl dX9_changed_225
  · replace h := wq_iff hc h
    refine wq_iconst (n := 0) F dX9_changed_196 rfl ?_
    refine wq_goto (tgt := 214) F dX9_changed_197 (by decide) ?_
    refine wq_istore (L' := [none, none, none, some (.long (wq_J j3)), none, none, some (.int (wq_I j6)), some (.int (wq_I 0))]) F dX9_changed_214 (by decide) rfl rfl rfl ?_
    refine wq_lload_n F dX9_changed_216 rfl rfl rfl ?_
    refine wq_iload F dX9_changed_217 rfl rfl ?_
    refine wq_i2l_ F dX9_changed_219 rfl ?_
    refine wq_lmul F dX9_changed_220 rfl ?_
    refine wq_iload F dX9_changed_221 rfl rfl ?_
    refine wq_i2l_ F dX9_changed_223 rfl ?_
    obtain ⟨hg, h⟩ := wq_gd_some h
    refine wq_ldiv (hy := hg) F dX9_changed_224 rfl ?_
    cases h
    exact wq_lret F rfl rfl dX9_changed_225
set_option maxHeartbeats 4000000 in
set_option maxRecDepth 100000 in
theorem ct_X9_changed {l : Launch} {D : va_G} {Ar : Nat → ClassId} {b : Nat} {x1 : Int} {x2 : Int} {x3 : Int} {S S0 : wq_St} {r0 : Int} (h : f_X9_changed x1 x2 x3 S = some (r0, S0)) : wq_Ct l yX9_changed (.code yX9_changed cX9_changed 8 ((Option.some Jvm.ClassFile.FieldType.long))) 2 D Ar (wq_EM Ar b) b 32 [.ref (b + 0), .int (wq_I x1), .int (wq_I x2), .long (wq_J x3)] S (some (.long (wq_J r0))) S0 := by
  refine wq_start "WharfQueryModel" [some (.ref (b + 0)), some (.int (wq_I x1)), some (.int (wq_I x2)), some (.long (wq_J x3)), none, none, none, none] (by decide +kernel) rfl (Nat.le_of_ble_eq_true rfl) rfl ?_
  intro p e s m args below meth c F
  unfold f_X9_changed at h
  refine wq_aload_n F dX9_changed_0 rfl rfl rfl ?_
  refine wq_iload_n F dX9_changed_1 rfl rfl rfl ?_
  refine wq_aload_n F dX9_changed_2 rfl rfl rfl ?_
  refine wq_g_X9_63 F dX9_changed_3 rfl ?_
  refine wq_iload_n F dX9_changed_6 rfl rfl rfl ?_
  obtain ⟨t1, ht1, wt1, h⟩ := wq_ix_some h
  refine wq_iald F (Nat.le_of_ble_eq_true rfl) wq_EM_source ht1 wt1 dX9_changed_7 rfl ?_
  refine wq_aload_n F dX9_changed_8 rfl rfl rfl ?_
  refine wq_g_X9_66 F dX9_changed_9 rfl ?_
  refine wq_iload_n F dX9_changed_12 rfl rfl rfl ?_
  obtain ⟨t2, ht2, wt2, h⟩ := wq_ix_some h
  refine wq_iald F (Nat.le_of_ble_eq_true rfl) wq_EM_column ht2 wt2 dX9_changed_13 rfl ?_
  obtain ⟨r3, S4, h1r3, h⟩ := wq_bd_some h
  refine wq_callV (As := [.int (wq_I x1), .int (wq_I (S 17 t1)), .int (wq_I (S 18 t2))]) F lk_X9_183 (ct_X9_cellAt h1r3) ⟨Nat.le_of_ble_eq_true rfl, Nat.le_of_ble_eq_true rfl⟩ ⟨Nat.le_of_ble_eq_true rfl, Nat.le_of_ble_eq_true rfl⟩ (Nat.le_of_ble_eq_true rfl) rfl rfl (fun _ h9 => h9) rfl rfl (Nat.le_of_ble_eq_true rfl) dX9_changed_14 rfl ?_
  refine wq_istore (L' := [some (.ref (b + 0)), some (.int (wq_I x1)), some (.int (wq_I x2)), some (.long (wq_J x3)), none, some (.int (wq_I r3)), none, none]) F dX9_changed_17 (by decide) rfl rfl rfl ?_
  refine wq_aload_n F dX9_changed_19 rfl rfl rfl ?_
  refine wq_g_X9_60 F dX9_changed_20 rfl ?_
  refine wq_iload_n F dX9_changed_23 rfl rfl rfl ?_
  obtain ⟨t5, ht5, wt5, h⟩ := wq_ix_some h
  refine wq_iald F (Nat.le_of_ble_eq_true rfl) wq_EM_kind ht5 wt5 dX9_changed_24 rfl ?_
  refine wq_if_eq (tgt := 38) F dX9_changed_25 (by decide) rfl (fun hc => ?_) (fun hc => ?_)
  · replace h := wq_ift hc h
    exact wq_lsub [some (.ref (b + 0)), some (.int (wq_I x1)), some (.int (wq_I x2)), some (.long (wq_J x3)), none, some (.int (wq_I r3)), none, none] (by simp [wq_sub]) (tj_X9_changed_38 F S4 h)
  · replace h := wq_iff hc h
    refine wq_aload_n F dX9_changed_28 rfl rfl rfl ?_
    refine wq_g_X9_60 F dX9_changed_29 rfl ?_
    refine wq_iload_n F dX9_changed_32 rfl rfl rfl ?_
    obtain ⟨t19, ht19, wt19, h⟩ := wq_ix_some h
    refine wq_iald F (Nat.le_of_ble_eq_true rfl) wq_EM_kind ht19 wt19 dX9_changed_33 rfl ?_
    refine wq_iconst (n := 3) F dX9_changed_34 rfl ?_
    refine wq_icmp_ne (tgt := 129) F dX9_changed_35 (by decide) rfl (fun hc => ?_) (fun hc => ?_)
    · replace h := wq_iff hc h
      refine wq_aload_n F dX9_changed_129 rfl rfl rfl ?_
      refine wq_g_X9_35 F dX9_changed_130 rfl ?_
      refine wq_iload F dX9_changed_133 rfl rfl ?_
      obtain ⟨t20, ht20, wt20, h⟩ := wq_ix_some h
      refine wq_iald F (Nat.le_of_ble_eq_true rfl) wq_EM_greatest ht20 wt20 dX9_changed_135 rfl ?_
      refine wq_aload_n F dX9_changed_136 rfl rfl rfl ?_
      refine wq_g_X9_32 F dX9_changed_137 rfl ?_
      refine wq_iload F dX9_changed_140 rfl rfl ?_
      obtain ⟨t21, ht21, wt21, h⟩ := wq_ix_some h
      refine wq_iald F (Nat.le_of_ble_eq_true rfl) wq_EM_least ht21 wt21 dX9_changed_142 rfl ?_
      refine wq_isub F dX9_changed_143 rfl ?_
      refine wq_iconst (n := 1) F dX9_changed_144 rfl ?_
      refine wq_iadd F dX9_changed_145 rfl ?_
      obtain ⟨a22, ea22, h⟩ := wq_lt_some h
      refine wq_namI ea22 ?_
      refine wq_istore (L' := [some (.ref (b + 0)), some (.int (wq_I x1)), some (.int (wq_I x2)), some (.long (wq_J x3)), none, some (.int (wq_I r3)), some (.int (wq_I a22)), none]) F dX9_changed_146 (by decide) rfl rfl rfl ?_
      refine wq_aload_n F dX9_changed_148 rfl rfl rfl ?_
      refine wq_g_X9_60 F dX9_changed_149 rfl ?_
      refine wq_iload_n F dX9_changed_152 rfl rfl rfl ?_
      obtain ⟨t23, ht23, wt23, h⟩ := wq_ix_some h
      refine wq_iald F (Nat.le_of_ble_eq_true rfl) wq_EM_kind ht23 wt23 dX9_changed_153 rfl ?_
      refine wq_iconst (n := 1) F dX9_changed_154 rfl ?_
      refine wq_icmp_ne (tgt := 175) F dX9_changed_155 (by decide) rfl (fun hc => ?_) (fun hc => ?_)
      · replace h := wq_iff hc h
        refine wq_aload_n F dX9_changed_175 rfl rfl rfl ?_
        refine wq_g_X9_35 F dX9_changed_176 rfl ?_
        refine wq_iload F dX9_changed_179 rfl rfl ?_
        obtain ⟨t24, ht24, wt24, h⟩ := wq_ix_some h
        refine wq_iald F (Nat.le_of_ble_eq_true rfl) wq_EM_greatest ht24 wt24 dX9_changed_181 rfl ?_
        refine wq_aload_n F dX9_changed_182 rfl rfl rfl ?_
        refine wq_g_X9_69 F dX9_changed_183 rfl ?_
        refine wq_iload_n F dX9_changed_186 rfl rfl rfl ?_
        obtain ⟨t25, ht25, wt25, h⟩ := wq_ix_some h
        refine wq_iald F (Nat.le_of_ble_eq_true rfl) wq_EM_number ht25 wt25 dX9_changed_187 rfl ?_
        refine wq_isub F dX9_changed_188 rfl ?_
        exact wq_lsub [none, none, none, some (.long (wq_J x3)), none, none, some (.int (wq_I a22)), none] (by simp [wq_sub]) (tj_X9_changed_189 F ((S4 9 t24) - (S4 19 t25)) S4 h)
      · replace h := wq_ift hc h
        refine wq_aload_n F dX9_changed_158 rfl rfl rfl ?_
        refine wq_g_X9_69 F dX9_changed_159 rfl ?_
        refine wq_iload_n F dX9_changed_162 rfl rfl rfl ?_
        obtain ⟨t26, ht26, wt26, h⟩ := wq_ix_some h
        refine wq_iald F (Nat.le_of_ble_eq_true rfl) wq_EM_number ht26 wt26 dX9_changed_163 rfl ?_
        refine wq_aload_n F dX9_changed_164 rfl rfl rfl ?_
        refine wq_g_X9_32 F dX9_changed_165 rfl ?_
        refine wq_iload F dX9_changed_168 rfl rfl ?_
        obtain ⟨t27, ht27, wt27, h⟩ := wq_ix_some h
        refine wq_iald F (Nat.le_of_ble_eq_true rfl) wq_EM_least ht27 wt27 dX9_changed_170 rfl ?_
        refine wq_isub F dX9_changed_171 rfl ?_
        refine wq_goto (tgt := 189) F dX9_changed_172 (by decide) ?_
        exact wq_lsub [none, none, none, some (.long (wq_J x3)), none, none, some (.int (wq_I a22)), none] (by simp [wq_sub]) (tj_X9_changed_189 F ((S4 19 t26) - (S4 8 t27)) S4 h)
    · replace h := wq_ift hc h
      exact wq_lsub [some (.ref (b + 0)), some (.int (wq_I x1)), some (.int (wq_I x2)), some (.long (wq_J x3)), none, some (.int (wq_I r3)), none, none] (by simp [wq_sub]) (tj_X9_changed_38 F S4 h)
set_option maxHeartbeats 4000000 in
set_option maxRecDepth 100000 in
theorem tb_X9_cost_197 {p : Program} {l : Launch} {e : Env} {s : State} {m : MethodId} {args : Array Value} {below : List Frame} {meth : Method} {c : Code} {D : va_G} {Ar : Nat → ClassId} {b : Nat} (F : wq_Fr p s m args meth c cX9_cost 9 ((Option.some Jvm.ClassFile.FieldType.long)) "WharfQueryModel" D Ar) {r0 : Int} {S0 : wq_St} {c1 : Int} {c4 : Int} {c6 : Int} {kx : Int → wq_St → Option (Int × wq_St)} (hkx : ∀ (u2 : Int) (S : wq_St), kx u2 S = some (r0, S0) → wq_Z p l e (wq_rm 4 0 0) s m args below meth c D (wq_EM Ar b) b 32 9 (wq_Ab b 32) (MQ below (wq_Qc D (wq_EM Ar b) b 32 (some (.long (wq_J r0))) S0) args s 0 0 (wq_Ab b 32)) 0 0 243 [some (.ref (b + 0)), some (.int (wq_I c1)), some (.long (wq_J u2)), none, some (.long (wq_J c4)), none, some (.int (wq_I c6)), none, none] [] S) {rec : Int → Int → wq_St → Option (Int × wq_St)} (hrec : ∀ (y2 : Int) (y8 : Int) (S : wq_St), rec y2 y8 S = some (r0, S0) → wq_Z p l e (wq_rm 4 0 0) s m args below meth c D (wq_EM Ar b) b 32 9 (wq_Ab b 32) (MQ below (wq_Qc D (wq_EM Ar b) b 32 (some (.long (wq_J r0))) S0) args s 0 0 (wq_Ab b 32)) 0 0 197 [some (.ref (b + 0)), some (.int (wq_I c1)), some (.long (wq_J y2)), none, some (.long (wq_J c4)), none, some (.int (wq_I c6)), none, some (.int (wq_I y8))] [] S) (y2 : Int) (y8 : Int) (S : wq_St) (h : b_X9_cost_197 c1 c4 c6 kx rec y2 y8 S = some (r0, S0)) : wq_Z p l e (wq_rm 4 0 0) s m args below meth c D (wq_EM Ar b) b 32 9 (wq_Ab b 32) (MQ below (wq_Qc D (wq_EM Ar b) b 32 (some (.long (wq_J r0))) S0) args s 0 0 (wq_Ab b 32)) 0 0 197 [some (.ref (b + 0)), some (.int (wq_I c1)), some (.long (wq_J y2)), none, some (.long (wq_J c4)), none, some (.int (wq_I c6)), none, some (.int (wq_I y8))] [] S := by
  unfold b_X9_cost_197 at h
  refine wq_iload F dX9_cost_197 rfl rfl ?_
  refine wq_bipush (n := 6) F dX9_cost_199 (by decide) rfl ?_
  refine wq_iload_n F dX9_cost_201 rfl rfl rfl ?_
  refine wq_imul F dX9_cost_202 rfl ?_
  refine wq_aload_n F dX9_cost_203 rfl rfl rfl ?_
  refine wq_g_X9_57 F dX9_cost_204 rfl ?_
  refine wq_iload_n F dX9_cost_207 rfl rfl rfl ?_
  obtain ⟨t17, ht17, wt17, h⟩ := wq_ix_some h
  refine wq_iald F (Nat.le_of_ble_eq_true rfl) wq_EM_conditions ht17 wt17 dX9_cost_208 rfl ?_
  refine wq_iadd F dX9_cost_209 rfl ?_
  refine wq_icmp_ge (tgt := 243) F dX9_cost_210 (by decide) rfl (fun hc => ?_) (fun hc => ?_)
  · replace h := wq_ift hc h
    exact wq_lsub [some (.ref (b + 0)), some (.int (wq_I c1)), some (.long (wq_J y2)), none, some (.long (wq_J c4)), none, some (.int (wq_I c6)), none, none] (by simp [wq_sub]) (hkx y2 S h)
  · replace h := wq_iff hc h
    refine wq_aload_n F dX9_cost_213 rfl rfl rfl ?_
    refine wq_iload F dX9_cost_214 rfl rfl ?_
    obtain ⟨r18, S19, h1r18, h⟩ := wq_bd_some h
    refine wq_callV (As := [.int (wq_I y8)]) F lk_X9_177 (ct_X9_stepOfCondition h1r18) ⟨Nat.le_of_ble_eq_true rfl, Nat.le_of_ble_eq_true rfl⟩ ⟨Nat.le_of_ble_eq_true rfl, Nat.le_of_ble_eq_true rfl⟩ (Nat.le_of_ble_eq_true rfl) rfl rfl (fun _ h9 => h9) rfl rfl (Nat.le_of_ble_eq_true rfl) dX9_cost_216 rfl ?_
    refine wq_iload F dX9_cost_219 rfl rfl ?_
    refine wq_icmp_ne (tgt := 235) F dX9_cost_221 (by decide) rfl (fun hc => ?_) (fun hc => ?_)
    · replace h := wq_iff hc h
      refine wq_lload_n F dX9_cost_235 rfl rfl rfl ?_
      refine wq_lstore_n (L' := [some (.ref (b + 0)), some (.int (wq_I c1)), some (.long (wq_J y2)), none, some (.long (wq_J c4)), none, some (.int (wq_I c6)), none, some (.int (wq_I y8))]) F dX9_cost_236 rfl (by decide) rfl rfl rfl ?_
      refine wq_iinc (L' := [some (.ref (b + 0)), some (.int (wq_I c1)), some (.long (wq_J y2)), none, some (.long (wq_J c4)), none, some (.int (wq_I c6)), none, some (.int (wq_I (y8 + 1)))]) F dX9_cost_237 rfl (by decide) rfl rfl rfl ?_
      refine wq_goto (tgt := 197) F dX9_cost_240 (by decide) ?_
      exact wq_lsub [some (.ref (b + 0)), some (.int (wq_I c1)), some (.long (wq_J y2)), none, some (.long (wq_J c4)), none, some (.int (wq_I c6)), none, some (.int (wq_I (y8 + 1)))] (by simp [wq_sub]) (hrec y2 (y8 + 1) S19 h)
    · replace h := wq_ift hc h
      refine wq_aload_n F dX9_cost_224 rfl rfl rfl ?_
      refine wq_iload_n F dX9_cost_225 rfl rfl rfl ?_
      refine wq_iload F dX9_cost_226 rfl rfl ?_
      refine wq_lload_n F dX9_cost_228 rfl rfl rfl ?_
      obtain ⟨r20, S21, h1r20, h⟩ := wq_bd_some h
      refine wq_callV (As := [.int (wq_I c1), .int (wq_I y8), .long (wq_J y2)]) F lk_X9_193 (ct_X9_changed h1r20) ⟨Nat.le_of_ble_eq_true rfl, Nat.le_of_ble_eq_true rfl⟩ ⟨Nat.le_of_ble_eq_true rfl, Nat.le_of_ble_eq_true rfl⟩ (Nat.le_of_ble_eq_true rfl) rfl rfl (fun _ h9 => h9) rfl rfl (Nat.le_of_ble_eq_true rfl) dX9_cost_229 rfl ?_
      refine wq_goto (tgt := 236) F dX9_cost_232 (by decide) ?_
      refine wq_lstore_n (L' := [some (.ref (b + 0)), some (.int (wq_I c1)), some (.long (wq_J r20)), none, some (.long (wq_J c4)), none, some (.int (wq_I c6)), none, some (.int (wq_I y8))]) F dX9_cost_236 rfl (by decide) rfl rfl rfl ?_
      refine wq_iinc (L' := [some (.ref (b + 0)), some (.int (wq_I c1)), some (.long (wq_J r20)), none, some (.long (wq_J c4)), none, some (.int (wq_I c6)), none, some (.int (wq_I (y8 + 1)))]) F dX9_cost_237 rfl (by decide) rfl rfl rfl ?_
      refine wq_goto (tgt := 197) F dX9_cost_240 (by decide) ?_
      exact wq_lsub [some (.ref (b + 0)), some (.int (wq_I c1)), some (.long (wq_J r20)), none, some (.long (wq_J c4)), none, some (.int (wq_I c6)), none, some (.int (wq_I (y8 + 1)))] (by simp [wq_sub]) (hrec r20 (y8 + 1) S21 h)
set_option maxHeartbeats 4000000 in
set_option maxRecDepth 100000 in
theorem tl_X9_cost_197 {p : Program} {l : Launch} {e : Env} {s : State} {m : MethodId} {args : Array Value} {below : List Frame} {meth : Method} {c : Code} {D : va_G} {Ar : Nat → ClassId} {b : Nat} (F : wq_Fr p s m args meth c cX9_cost 9 ((Option.some Jvm.ClassFile.FieldType.long)) "WharfQueryModel" D Ar) {r0 : Int} {S0 : wq_St} {c1 : Int} {c4 : Int} {c6 : Int} {kx : Int → wq_St → Option (Int × wq_St)} (hkx : ∀ (u2 : Int) (S : wq_St), kx u2 S = some (r0, S0) → wq_Z p l e (wq_rm 4 0 0) s m args below meth c D (wq_EM Ar b) b 32 9 (wq_Ab b 32) (MQ below (wq_Qc D (wq_EM Ar b) b 32 (some (.long (wq_J r0))) S0) args s 0 0 (wq_Ab b 32)) 0 0 243 [some (.ref (b + 0)), some (.int (wq_I c1)), some (.long (wq_J u2)), none, some (.long (wq_J c4)), none, some (.int (wq_I c6)), none, none] [] S) (n : Nat) (y2 : Int) (y8 : Int) (S : wq_St) (h : l_X9_cost_197 c1 c4 c6 kx n y2 y8 S = some (r0, S0)) : wq_Z p l e (wq_rm 4 0 0) s m args below meth c D (wq_EM Ar b) b 32 9 (wq_Ab b 32) (MQ below (wq_Qc D (wq_EM Ar b) b 32 (some (.long (wq_J r0))) S0) args s 0 0 (wq_Ab b 32)) 0 0 197 [some (.ref (b + 0)), some (.int (wq_I c1)), some (.long (wq_J y2)), none, some (.long (wq_J c4)), none, some (.int (wq_I c6)), none, some (.int (wq_I y8))] [] S :=
  wq_loop_ind (f := fun (g : Int × Int × wq_St → Option (Int × wq_St)) (x : Int × Int × wq_St) => b_X9_cost_197 c1 c4 c6 kx (fun y2 y8 S => g (y2, y8, S)) x.1 x.2.1 x.2.2) (P := (fun x : Int × Int × wq_St => wq_Z p l e (wq_rm 4 0 0) s m args below meth c D (wq_EM Ar b) b 32 9 (wq_Ab b 32) (MQ below (wq_Qc D (wq_EM Ar b) b 32 (some (.long (wq_J r0))) S0) args s 0 0 (wq_Ab b 32)) 0 0 197 [some (.ref (b + 0)), some (.int (wq_I c1)), some (.long (wq_J (x.1))), none, some (.long (wq_J c4)), none, some (.int (wq_I c6)), none, some (.int (wq_I (x.2.1)))] [] x.2.2)) (fun g hg x hx => tb_X9_cost_197 F hkx (fun y2 y8 S h => hg (y2, y8, S) h) x.1 x.2.1 x.2.2 hx) n (y2, y8, S) h
set_option maxHeartbeats 4000000 in
set_option maxRecDepth 100000 in
theorem tj_X9_cost_180 {p : Program} {l : Launch} {e : Env} {s : State} {m : MethodId} {args : Array Value} {below : List Frame} {meth : Method} {c : Code} {D : va_G} {Ar : Nat → ClassId} {b : Nat} (F : wq_Fr p s m args meth c cX9_cost 9 ((Option.some Jvm.ClassFile.FieldType.long)) "WharfQueryModel" D Ar) {r0 : Int} {S0 : wq_St} {kx : Int → wq_St → Option (Int × wq_St)} {rec : Int → Int → Int → wq_St → Option (Int × wq_St)} {j1 : Int} {j2 : Int} {j4 : Int} {j6 : Int} {j7 : Int} (hkx : ∀ (u4 : Int) (S : wq_St), kx u4 S = some (r0, S0) → wq_Z p l e (wq_rm 4 0 0) s m args below meth c D (wq_EM Ar b) b 32 9 (wq_Ab b 32) (MQ below (wq_Qc D (wq_EM Ar b) b 32 (some (.long (wq_J r0))) S0) args s 0 0 (wq_Ab b 32)) 0 0 249 [none, none, none, none, some (.long (wq_J u4)), none, none, none, none] [] S) (hrec : ∀ (y2 : Int) (y4 : Int) (y6 : Int) (S : wq_St), rec y2 y4 y6 S = some (r0, S0) → wq_Z p l e (wq_rm 4 0 0) s m args below meth c D (wq_EM Ar b) b 32 9 (wq_Ab b 32) (MQ below (wq_Qc D (wq_EM Ar b) b 32 (some (.long (wq_J r0))) S0) args s 0 0 (wq_Ab b 32)) 0 0 10 [some (.ref (b + 0)), some (.int (wq_I j1)), some (.long (wq_J y2)), none, some (.long (wq_J y4)), none, some (.int (wq_I y6)), none, none] [] S) (S : wq_St) (h : j_X9_cost_180 kx rec j1 j2 j4 j6 j7 S = some (r0, S0)) : wq_Z p l e (wq_rm 4 0 0) s m args below meth c D (wq_EM Ar b) b 32 9 (wq_Ab b 32) (MQ below (wq_Qc D (wq_EM Ar b) b 32 (some (.long (wq_J r0))) S0) args s 0 0 (wq_Ab b 32)) 0 0 180 [some (.ref (b + 0)), some (.int (wq_I j1)), some (.long (wq_J j2)), none, some (.long (wq_J j4)), none, some (.int (wq_I j6)), some (.int (wq_I j7)), none] [] S := by
  unfold j_X9_cost_180 at h
  refine wq_lload_n F dX9_cost_180 rfl rfl rfl ?_
  refine wq_aload_n F dX9_cost_181 rfl rfl rfl ?_
  refine wq_g_X9_26 F dX9_cost_182 rfl ?_
  refine wq_iload F dX9_cost_185 rfl rfl ?_
  obtain ⟨t16, ht16, wt16, h⟩ := wq_ix_some h
  refine wq_iald F (Nat.le_of_ble_eq_true rfl) wq_EM_toldRows ht16 wt16 dX9_cost_187 rfl ?_
  refine wq_i2l_ F dX9_cost_188 rfl ?_
  refine wq_lmul F dX9_cost_189 rfl ?_
  refine wq_lstore_n (L' := [some (.ref (b + 0)), some (.int (wq_I j1)), some (.long (wq_J (j2 * (wq_w (S 6 t16))))), none, some (.long (wq_J j4)), none, some (.int (wq_I j6)), some (.int (wq_I j7)), none]) F dX9_cost_190 rfl (by decide) rfl rfl rfl ?_
  refine wq_bipush (n := 6) F dX9_cost_191 (by decide) rfl ?_
  refine wq_iload_n F dX9_cost_193 rfl rfl rfl ?_
  refine wq_imul F dX9_cost_194 rfl ?_
  refine wq_istore (L' := [some (.ref (b + 0)), some (.int (wq_I j1)), some (.long (wq_J (j2 * (wq_w (S 6 t16))))), none, some (.long (wq_J j4)), none, some (.int (wq_I j6)), some (.int (wq_I j7)), some (.int (wq_I (6 * j1)))]) F dX9_cost_195 (by decide) rfl rfl rfl ?_
  refine wq_lsub [some (.ref (b + 0)), some (.int (wq_I j1)), some (.long (wq_J (j2 * (wq_w (S 6 t16))))), none, some (.long (wq_J j4)), none, some (.int (wq_I j6)), none, some (.int (wq_I (6 * j1)))] (by simp [wq_sub]) (tl_X9_cost_197 F (fun u22 S23 h => ?_) wq_fu (j2 * (wq_w (S 6 t16))) (6 * j1) S h)
  refine wq_iinc (L' := [some (.ref (b + 0)), some (.int (wq_I j1)), some (.long (wq_J u22)), none, some (.long (wq_J j4)), none, some (.int (wq_I (j6 + 1))), none, none]) F dX9_cost_243 rfl (by decide) rfl rfl rfl ?_
  refine wq_goto (tgt := 10) F dX9_cost_246 (by decide) ?_
  exact wq_lsub [some (.ref (b + 0)), some (.int (wq_I j1)), some (.long (wq_J u22)), none, some (.long (wq_J j4)), none, some (.int (wq_I (j6 + 1))), none, none] (by simp [wq_sub]) (hrec u22 j4 (j6 + 1) S23 h)
set_option maxHeartbeats 4000000 in
set_option maxRecDepth 100000 in
theorem tj_X9_cost_167 {p : Program} {l : Launch} {e : Env} {s : State} {m : MethodId} {args : Array Value} {below : List Frame} {meth : Method} {c : Code} {D : va_G} {Ar : Nat → ClassId} {b : Nat} (F : wq_Fr p s m args meth c cX9_cost 9 ((Option.some Jvm.ClassFile.FieldType.long)) "WharfQueryModel" D Ar) {r0 : Int} {S0 : wq_St} {kx : Int → wq_St → Option (Int × wq_St)} {rec : Int → Int → Int → wq_St → Option (Int × wq_St)} {j1 : Int} {j2 : Int} {j6 : Int} {j7 : Int} (hkx : ∀ (u4 : Int) (S : wq_St), kx u4 S = some (r0, S0) → wq_Z p l e (wq_rm 4 0 0) s m args below meth c D (wq_EM Ar b) b 32 9 (wq_Ab b 32) (MQ below (wq_Qc D (wq_EM Ar b) b 32 (some (.long (wq_J r0))) S0) args s 0 0 (wq_Ab b 32)) 0 0 249 [none, none, none, none, some (.long (wq_J u4)), none, none, none, none] [] S) (hrec : ∀ (y2 : Int) (y4 : Int) (y6 : Int) (S : wq_St), rec y2 y4 y6 S = some (r0, S0) → wq_Z p l e (wq_rm 4 0 0) s m args below meth c D (wq_EM Ar b) b 32 9 (wq_Ab b 32) (MQ below (wq_Qc D (wq_EM Ar b) b 32 (some (.long (wq_J r0))) S0) args s 0 0 (wq_Ab b 32)) 0 0 10 [some (.ref (b + 0)), some (.int (wq_I j1)), some (.long (wq_J y2)), none, some (.long (wq_J y4)), none, some (.int (wq_I y6)), none, none] [] S) (z0 : Int) (z1 : Int) (z2 : Int) (z3 : Int) (S : wq_St) (h : j_X9_cost_167 kx rec j1 j2 j6 j7 z0 z1 z2 z3 S = some (r0, S0)) : wq_Z p l e (wq_rm 4 0 0) s m args below meth c D (wq_EM Ar b) b 32 9 (wq_Ab b 32) (MQ below (wq_Qc D (wq_EM Ar b) b 32 (some (.long (wq_J r0))) S0) args s 0 0 (wq_Ab b 32)) 0 0 167 [some (.ref (b + 0)), some (.int (wq_I j1)), some (.long (wq_J j2)), none, none, none, some (.int (wq_I j6)), some (.int (wq_I j7)), none] [.int (wq_I z0), .long (wq_J z1), .long (wq_J z2), .long (wq_J z3)] S := by
  unfold j_X9_cost_167 at h
  refine wq_i2l_ F dX9_cost_167 rfl ?_
  obtain ⟨hg, h⟩ := wq_gd_some h
  refine wq_ldiv (hy := hg) F dX9_cost_168 rfl ?_
  refine wq_ladd F dX9_cost_169 rfl ?_
  refine wq_ladd F dX9_cost_170 rfl ?_
  obtain ⟨a15, ea15, h⟩ := wq_lt_some h
  refine wq_namL ea15 ?_
  refine wq_lstore (L' := [some (.ref (b + 0)), some (.int (wq_I j1)), some (.long (wq_J j2)), none, some (.long (wq_J a15)), none, some (.int (wq_I j6)), some (.int (wq_I j7)), none]) F dX9_cost_171 (by decide) rfl rfl rfl ?_
  refine wq_goto (tgt := 180) F dX9_cost_173 (by decide) ?_
  exact wq_lsub [some (.ref (b + 0)), some (.int (wq_I j1)), some (.long (wq_J j2)), none, some (.long (wq_J a15)), none, some (.int (wq_I j6)), some (.int (wq_I j7)), none] (by simp [wq_sub]) (tj_X9_cost_180 F hkx hrec S h)
set_option maxHeartbeats 4000000 in
set_option maxRecDepth 100000 in
theorem tb_X9_cost_10 {p : Program} {l : Launch} {e : Env} {s : State} {m : MethodId} {args : Array Value} {below : List Frame} {meth : Method} {c : Code} {D : va_G} {Ar : Nat → ClassId} {b : Nat} (F : wq_Fr p s m args meth c cX9_cost 9 ((Option.some Jvm.ClassFile.FieldType.long)) "WharfQueryModel" D Ar) {r0 : Int} {S0 : wq_St} {c1 : Int} {kx : Int → wq_St → Option (Int × wq_St)} (hkx : ∀ (u4 : Int) (S : wq_St), kx u4 S = some (r0, S0) → wq_Z p l e (wq_rm 4 0 0) s m args below meth c D (wq_EM Ar b) b 32 9 (wq_Ab b 32) (MQ below (wq_Qc D (wq_EM Ar b) b 32 (some (.long (wq_J r0))) S0) args s 0 0 (wq_Ab b 32)) 0 0 249 [none, none, none, none, some (.long (wq_J u4)), none, none, none, none] [] S) {rec : Int → Int → Int → wq_St → Option (Int × wq_St)} (hrec : ∀ (y2 : Int) (y4 : Int) (y6 : Int) (S : wq_St), rec y2 y4 y6 S = some (r0, S0) → wq_Z p l e (wq_rm 4 0 0) s m args below meth c D (wq_EM Ar b) b 32 9 (wq_Ab b 32) (MQ below (wq_Qc D (wq_EM Ar b) b 32 (some (.long (wq_J r0))) S0) args s 0 0 (wq_Ab b 32)) 0 0 10 [some (.ref (b + 0)), some (.int (wq_I c1)), some (.long (wq_J y2)), none, some (.long (wq_J y4)), none, some (.int (wq_I y6)), none, none] [] S) (y2 : Int) (y4 : Int) (y6 : Int) (S : wq_St) (h : b_X9_cost_10 c1 kx rec y2 y4 y6 S = some (r0, S0)) : wq_Z p l e (wq_rm 4 0 0) s m args below meth c D (wq_EM Ar b) b 32 9 (wq_Ab b 32) (MQ below (wq_Qc D (wq_EM Ar b) b 32 (some (.long (wq_J r0))) S0) args s 0 0 (wq_Ab b 32)) 0 0 10 [some (.ref (b + 0)), some (.int (wq_I c1)), some (.long (wq_J y2)), none, some (.long (wq_J y4)), none, some (.int (wq_I y6)), none, none] [] S := by
  unfold b_X9_cost_10 at h
  refine wq_iload F dX9_cost_10 rfl rfl ?_
  refine wq_aload_n F dX9_cost_12 rfl rfl rfl ?_
  refine wq_g_X9_51 F dX9_cost_13 rfl ?_
  refine wq_iload_n F dX9_cost_16 rfl rfl rfl ?_
  obtain ⟨t1, ht1, wt1, h⟩ := wq_ix_some h
  refine wq_iald F (Nat.le_of_ble_eq_true rfl) wq_EM_sources ht1 wt1 dX9_cost_17 rfl ?_
  refine wq_icmp_ge (tgt := 249) F dX9_cost_18 (by decide) rfl (fun hc => ?_) (fun hc => ?_)
  · replace h := wq_ift hc h
    exact wq_lsub [none, none, none, none, some (.long (wq_J y4)), none, none, none, none] (by simp [wq_sub]) (hkx y4 S h)
  · replace h := wq_iff hc h
    refine wq_aload_n F dX9_cost_21 rfl rfl rfl ?_
    refine wq_g_X9_54 F dX9_cost_22 rfl ?_
    refine wq_iconst (n := 3) F dX9_cost_25 rfl ?_
    refine wq_iload_n F dX9_cost_26 rfl rfl rfl ?_
    refine wq_imul F dX9_cost_27 rfl ?_
    refine wq_aload_n F dX9_cost_28 rfl rfl rfl ?_
    refine wq_g_X9_93 F dX9_cost_29 rfl ?_
    refine wq_iload F dX9_cost_32 rfl rfl ?_
    obtain ⟨t2, ht2, wt2, h⟩ := wq_ix_some h
    refine wq_iald F (Nat.le_of_ble_eq_true rfl) wq_EM_order ht2 wt2 dX9_cost_34 rfl ?_
    refine wq_iadd F dX9_cost_35 rfl ?_
    obtain ⟨t3, ht3, wt3, h⟩ := wq_ix_some h
    refine wq_iald F (Nat.le_of_ble_eq_true rfl) wq_EM_tableOf ht3 wt3 dX9_cost_36 rfl ?_
    refine wq_istore (L' := [some (.ref (b + 0)), some (.int (wq_I c1)), some (.long (wq_J y2)), none, some (.long (wq_J y4)), none, some (.int (wq_I y6)), some (.int (wq_I (S 14 t3))), none]) F dX9_cost_37 (by decide) rfl rfl rfl ?_
    refine wq_aload_n F dX9_cost_39 rfl rfl rfl ?_
    refine wq_g_X9_96 F dX9_cost_40 rfl ?_
    refine wq_iload F dX9_cost_43 rfl rfl ?_
    obtain ⟨t4, ht4, wt4, h⟩ := wq_ix_some h
    refine wq_iald F (Nat.le_of_ble_eq_true rfl) wq_EM_way ht4 wt4 dX9_cost_45 rfl ?_
    refine wq_iconst (n := -1) F dX9_cost_46 rfl ?_
    refine wq_icmp_ne (tgt := 68) F dX9_cost_47 (by decide) rfl (fun hc => ?_) (fun hc => ?_)
    · replace h := wq_iff hc h
      refine wq_aload_n F dX9_cost_68 rfl rfl rfl ?_
      refine wq_g_X9_96 F dX9_cost_69 rfl ?_
      refine wq_iload F dX9_cost_72 rfl rfl ?_
      obtain ⟨t5, ht5, wt5, h⟩ := wq_ix_some h
      refine wq_iald F (Nat.le_of_ble_eq_true rfl) wq_EM_way ht5 wt5 dX9_cost_74 rfl ?_
      refine wq_aload_n F dX9_cost_75 rfl rfl rfl ?_
      refine wq_g_X9_7 F dX9_cost_76 rfl ?_
      refine wq_iload F dX9_cost_79 rfl rfl ?_
      obtain ⟨t6, ht6, wt6, h⟩ := wq_ix_some h
      refine wq_iald F (Nat.le_of_ble_eq_true rfl) wq_EM_columns ht6 wt6 dX9_cost_81 rfl ?_
      refine wq_icmp_ge (tgt := 176) F dX9_cost_82 (by decide) rfl (fun hc => ?_) (fun hc => ?_)
      · replace h := wq_ift hc h
        refine wq_ldc2 (v := -1) F dX9_cost_176 aw_1270 (by decide) rfl ?_
        cases h
        exact wq_lret F rfl rfl dX9_cost_179
      · replace h := wq_iff hc h
        refine wq_aload_n F dX9_cost_85 rfl rfl rfl ?_
        refine wq_g_X9_23 F dX9_cost_86 rfl ?_
        refine wq_iconst (n := 3) F dX9_cost_89 rfl ?_
        refine wq_iload F dX9_cost_90 rfl rfl ?_
        refine wq_imul F dX9_cost_92 rfl ?_
        refine wq_aload_n F dX9_cost_93 rfl rfl rfl ?_
        refine wq_g_X9_96 F dX9_cost_94 rfl ?_
        refine wq_iload F dX9_cost_97 rfl rfl ?_
        obtain ⟨t7, ht7, wt7, h⟩ := wq_ix_some h
        refine wq_iald F (Nat.le_of_ble_eq_true rfl) wq_EM_way ht7 wt7 dX9_cost_99 rfl ?_
        refine wq_iadd F dX9_cost_100 rfl ?_
        obtain ⟨t8, ht8, wt8, h⟩ := wq_ix_some h
        refine wq_zald F (Nat.le_of_ble_eq_true rfl) wq_EM_index ht8 wt8 dX9_cost_101 rfl ?_
        refine wq_if_eq (tgt := 176) F dX9_cost_102 (by decide) rfl (fun hc => ?_) (fun hc => ?_)
        · replace h := wq_ift hc h
          refine wq_ldc2 (v := -1) F dX9_cost_176 aw_1270 (by decide) rfl ?_
          cases h
          exact wq_lret F rfl rfl dX9_cost_179
        · replace h := wq_iff hc h
          refine wq_aload_n F dX9_cost_105 rfl rfl rfl ?_
          refine wq_iload_n F dX9_cost_106 rfl rfl rfl ?_
          refine wq_iload F dX9_cost_107 rfl rfl ?_
          refine wq_aload_n F dX9_cost_109 rfl rfl rfl ?_
          refine wq_g_X9_96 F dX9_cost_110 rfl ?_
          refine wq_iload F dX9_cost_113 rfl rfl ?_
          obtain ⟨t9, ht9, wt9, h⟩ := wq_ix_some h
          refine wq_iald F (Nat.le_of_ble_eq_true rfl) wq_EM_way ht9 wt9 dX9_cost_115 rfl ?_
          obtain ⟨r10, S11, h1r10, h⟩ := wq_bd_some h
          refine wq_callV (As := [.int (wq_I c1), .int (wq_I y6), .int (wq_I (S 28 t9))]) F lk_X9_188 (ct_X9_useOf h1r10) ⟨Nat.le_of_ble_eq_true rfl, Nat.le_of_ble_eq_true rfl⟩ ⟨Nat.le_of_ble_eq_true rfl, Nat.le_of_ble_eq_true rfl⟩ (Nat.le_of_ble_eq_true rfl) rfl rfl (fun _ h9 => h9) rfl rfl (Nat.le_of_ble_eq_true rfl) dX9_cost_116 rfl ?_
          refine wq_iconst (n := -1) F dX9_cost_119 rfl ?_
          refine wq_icmp_eq (tgt := 176) F dX9_cost_120 (by decide) rfl (fun hc => ?_) (fun hc => ?_)
          · replace h := wq_ift hc h
            refine wq_ldc2 (v := -1) F dX9_cost_176 aw_1270 (by decide) rfl ?_
            cases h
            exact wq_lret F rfl rfl dX9_cost_179
          · replace h := wq_iff hc h
            refine wq_aload_n F dX9_cost_123 rfl rfl rfl ?_
            refine wq_g_X9_29 F dX9_cost_124 rfl ?_
            refine wq_iconst (n := 3) F dX9_cost_127 rfl ?_
            refine wq_iload F dX9_cost_128 rfl rfl ?_
            refine wq_imul F dX9_cost_130 rfl ?_
            refine wq_aload_n F dX9_cost_131 rfl rfl rfl ?_
            refine wq_g_X9_96 F dX9_cost_132 rfl ?_
            refine wq_iload F dX9_cost_135 rfl rfl ?_
            obtain ⟨t12, ht12, wt12, h⟩ := wq_ix_some h
            refine wq_iald F (Nat.le_of_ble_eq_true rfl) wq_EM_way ht12 wt12 dX9_cost_137 rfl ?_
            refine wq_iadd F dX9_cost_138 rfl ?_
            obtain ⟨t13, ht13, wt13, h⟩ := wq_ix_some h
            refine wq_iald F (Nat.le_of_ble_eq_true rfl) wq_EM_unlike ht13 wt13 dX9_cost_139 rfl ?_
            refine wq_istore (L' := [some (.ref (b + 0)), some (.int (wq_I c1)), some (.long (wq_J y2)), none, some (.long (wq_J y4)), none, some (.int (wq_I y6)), some (.int (wq_I (S 14 t3))), some (.int (wq_I (S11 7 t13)))]) F dX9_cost_140 (by decide) rfl rfl rfl ?_
            refine wq_lload F dX9_cost_142 rfl rfl ?_
            refine wq_lload_n F dX9_cost_144 rfl rfl rfl ?_
            refine wq_lload_n F dX9_cost_145 rfl rfl rfl ?_
            refine wq_aload_n F dX9_cost_146 rfl rfl rfl ?_
            refine wq_g_X9_26 F dX9_cost_147 rfl ?_
            refine wq_iload F dX9_cost_150 rfl rfl ?_
            obtain ⟨t14, ht14, wt14, h⟩ := wq_ix_some h
            refine wq_iald F (Nat.le_of_ble_eq_true rfl) wq_EM_toldRows ht14 wt14 dX9_cost_152 rfl ?_
            refine wq_i2l_ F dX9_cost_153 rfl ?_
            refine wq_lmul F dX9_cost_154 rfl ?_
            refine wq_iload F dX9_cost_155 rfl rfl ?_
            refine wq_iconst (n := 1) F dX9_cost_157 rfl ?_
            refine wq_icmp_ge (tgt := 165) F dX9_cost_158 (by decide) rfl (fun hc => ?_) (fun hc => ?_)
            · replace h := wq_ift hc h
              refine wq_iload F dX9_cost_165 rfl rfl ?_
              exact wq_lsub [some (.ref (b + 0)), some (.int (wq_I c1)), some (.long (wq_J y2)), none, none, none, some (.int (wq_I y6)), some (.int (wq_I (S 14 t3))), none] (by simp [wq_sub]) (tj_X9_cost_167 F hkx hrec (S11 7 t13) (y2 * (wq_w (S11 6 t14))) y2 y4 S11 h)
            · replace h := wq_iff hc h
              refine wq_iconst (n := 1) F dX9_cost_161 rfl ?_
              refine wq_goto (tgt := 167) F dX9_cost_162 (by decide) ?_
              exact wq_lsub [some (.ref (b + 0)), some (.int (wq_I c1)), some (.long (wq_J y2)), none, none, none, some (.int (wq_I y6)), some (.int (wq_I (S 14 t3))), none] (by simp [wq_sub]) (tj_X9_cost_167 F hkx hrec 1 (y2 * (wq_w (S11 6 t14))) y2 y4 S11 h)
    · replace h := wq_ift hc h
      refine wq_lload F dX9_cost_50 rfl rfl ?_
      refine wq_lload_n F dX9_cost_52 rfl rfl rfl ?_
      refine wq_aload_n F dX9_cost_53 rfl rfl rfl ?_
      refine wq_g_X9_26 F dX9_cost_54 rfl ?_
      refine wq_iload F dX9_cost_57 rfl rfl ?_
      obtain ⟨t24, ht24, wt24, h⟩ := wq_ix_some h
      refine wq_iald F (Nat.le_of_ble_eq_true rfl) wq_EM_toldRows ht24 wt24 dX9_cost_59 rfl ?_
      refine wq_i2l_ F dX9_cost_60 rfl ?_
      refine wq_lmul F dX9_cost_61 rfl ?_
      refine wq_ladd F dX9_cost_62 rfl ?_
      obtain ⟨a25, ea25, h⟩ := wq_lt_some h
      refine wq_namL ea25 ?_
      refine wq_lstore (L' := [some (.ref (b + 0)), some (.int (wq_I c1)), some (.long (wq_J y2)), none, some (.long (wq_J a25)), none, some (.int (wq_I y6)), some (.int (wq_I (S 14 t3))), none]) F dX9_cost_63 (by decide) rfl rfl rfl ?_
      refine wq_goto (tgt := 180) F dX9_cost_65 (by decide) ?_
      exact wq_lsub [some (.ref (b + 0)), some (.int (wq_I c1)), some (.long (wq_J y2)), none, some (.long (wq_J a25)), none, some (.int (wq_I y6)), some (.int (wq_I (S 14 t3))), none] (by simp [wq_sub]) (tj_X9_cost_180 F hkx hrec S h)
set_option maxHeartbeats 4000000 in
set_option maxRecDepth 100000 in
theorem tl_X9_cost_10 {p : Program} {l : Launch} {e : Env} {s : State} {m : MethodId} {args : Array Value} {below : List Frame} {meth : Method} {c : Code} {D : va_G} {Ar : Nat → ClassId} {b : Nat} (F : wq_Fr p s m args meth c cX9_cost 9 ((Option.some Jvm.ClassFile.FieldType.long)) "WharfQueryModel" D Ar) {r0 : Int} {S0 : wq_St} {c1 : Int} {kx : Int → wq_St → Option (Int × wq_St)} (hkx : ∀ (u4 : Int) (S : wq_St), kx u4 S = some (r0, S0) → wq_Z p l e (wq_rm 4 0 0) s m args below meth c D (wq_EM Ar b) b 32 9 (wq_Ab b 32) (MQ below (wq_Qc D (wq_EM Ar b) b 32 (some (.long (wq_J r0))) S0) args s 0 0 (wq_Ab b 32)) 0 0 249 [none, none, none, none, some (.long (wq_J u4)), none, none, none, none] [] S) (n : Nat) (y2 : Int) (y4 : Int) (y6 : Int) (S : wq_St) (h : l_X9_cost_10 c1 kx n y2 y4 y6 S = some (r0, S0)) : wq_Z p l e (wq_rm 4 0 0) s m args below meth c D (wq_EM Ar b) b 32 9 (wq_Ab b 32) (MQ below (wq_Qc D (wq_EM Ar b) b 32 (some (.long (wq_J r0))) S0) args s 0 0 (wq_Ab b 32)) 0 0 10 [some (.ref (b + 0)), some (.int (wq_I c1)), some (.long (wq_J y2)), none, some (.long (wq_J y4)), none, some (.int (wq_I y6)), none, none] [] S :=
  wq_loop_ind (f := fun (g : Int × Int × Int × wq_St → Option (Int × wq_St)) (x : Int × Int × Int × wq_St) => b_X9_cost_10 c1 kx (fun y2 y4 y6 S => g (y2, y4, y6, S)) x.1 x.2.1 x.2.2.1 x.2.2.2) (P := (fun x : Int × Int × Int × wq_St => wq_Z p l e (wq_rm 4 0 0) s m args below meth c D (wq_EM Ar b) b 32 9 (wq_Ab b 32) (MQ below (wq_Qc D (wq_EM Ar b) b 32 (some (.long (wq_J r0))) S0) args s 0 0 (wq_Ab b 32)) 0 0 10 [some (.ref (b + 0)), some (.int (wq_I c1)), some (.long (wq_J (x.1))), none, some (.long (wq_J (x.2.1))), none, some (.int (wq_I (x.2.2.1))), none, none] [] x.2.2.2)) (fun g hg x hx => tb_X9_cost_10 F hkx (fun y2 y4 y6 S h => hg (y2, y4, y6, S) h) x.1 x.2.1 x.2.2.1 x.2.2.2 hx) n (y2, y4, y6, S) h
set_option maxHeartbeats 4000000 in
set_option maxRecDepth 100000 in
theorem ct_X9_cost {l : Launch} {D : va_G} {Ar : Nat → ClassId} {b : Nat} {x1 : Int} {S S0 : wq_St} {r0 : Int} (h : f_X9_cost x1 S = some (r0, S0)) : wq_Ct l yX9_cost (.code yX9_cost cX9_cost 9 ((Option.some Jvm.ClassFile.FieldType.long))) 4 D Ar (wq_EM Ar b) b 32 [.ref (b + 0), .int (wq_I x1)] S (some (.long (wq_J r0))) S0 := by
  refine wq_start "WharfQueryModel" [some (.ref (b + 0)), some (.int (wq_I x1)), none, none, none, none, none, none, none] (by decide +kernel) rfl (Nat.le_of_ble_eq_true rfl) rfl ?_
  intro p e s m args below meth c F
  unfold f_X9_cost at h
  refine wq_ldc2 (v := 1000) F dX9_cost_0 aw_1279 (by decide) rfl ?_
  refine wq_lstore_n (L' := [some (.ref (b + 0)), some (.int (wq_I x1)), some (.long (wq_J 1000)), none, none, none, none, none, none]) F dX9_cost_3 rfl (by decide) rfl rfl rfl ?_
  refine wq_lconst (v := 0) F dX9_cost_4 rfl rfl ?_
  refine wq_lstore (L' := [some (.ref (b + 0)), some (.int (wq_I x1)), some (.long (wq_J 1000)), none, some (.long (wq_J 0)), none, none, none, none]) F dX9_cost_5 (by decide) rfl rfl rfl ?_
  refine wq_iconst (n := 0) F dX9_cost_7 rfl ?_
  refine wq_istore (L' := [some (.ref (b + 0)), some (.int (wq_I x1)), some (.long (wq_J 1000)), none, some (.long (wq_J 0)), none, some (.int (wq_I 0)), none, none]) F dX9_cost_8 (by decide) rfl rfl rfl ?_
  refine wq_lsub [some (.ref (b + 0)), some (.int (wq_I x1)), some (.long (wq_J 1000)), none, some (.long (wq_J 0)), none, some (.int (wq_I 0)), none, none] (by simp [wq_sub]) (tl_X9_cost_10 F (fun u26 S27 h => ?_) wq_fu 1000 0 0 S h)
  refine wq_lload F dX9_cost_249 rfl rfl ?_
  cases h
  exact wq_lret F rfl rfl dX9_cost_251
set_option maxHeartbeats 4000000 in
set_option maxRecDepth 100000 in
theorem tb_X9_triesWays_119 {p : Program} {l : Launch} {e : Env} {s : State} {m : MethodId} {args : Array Value} {below : List Frame} {meth : Method} {c : Code} {D : va_G} {Ar : Nat → ClassId} {b : Nat} (F : wq_Fr p s m args meth c cX9_triesWays 9 ((Option.none : Option Jvm.ClassFile.FieldType)) "WharfQueryModel" D Ar) {r0 : Int} {S0 : wq_St} {c1 : Int} {c2 : Int} {c3 : Int} {c4 : Int} {c5 : Int} {kx : wq_St → Option (Int × wq_St)} (hkx : ∀ (S : wq_St), kx S = some (r0, S0) → wq_Z p l e (wq_rm 5 0 0) s m args below meth c D (wq_EM Ar b) b 32 9 (wq_Ab b 32) (MQ below (wq_Qc D (wq_EM Ar b) b 32 none S0) args s 0 0 (wq_Ab b 32)) 0 0 159 [some (.ref (b + 0)), some (.int (wq_I c1)), some (.int (wq_I c2)), some (.int (wq_I c3)), some (.int (wq_I c4)), some (.int (wq_I c5)), none, none, none] [] S) {rec : Int → wq_St → Option (Int × wq_St)} (hrec : ∀ (y8 : Int) (S : wq_St), rec y8 S = some (r0, S0) → wq_Z p l e (wq_rm 5 0 0) s m args below meth c D (wq_EM Ar b) b 32 9 (wq_Ab b 32) (MQ below (wq_Qc D (wq_EM Ar b) b 32 none S0) args s 0 0 (wq_Ab b 32)) 0 0 119 [some (.ref (b + 0)), some (.int (wq_I c1)), some (.int (wq_I c2)), some (.int (wq_I c3)), some (.int (wq_I c4)), some (.int (wq_I c5)), none, none, some (.int (wq_I y8))] [] S) (y8 : Int) (S : wq_St) (h : b_X9_triesWays_119 c1 c2 c3 c4 c5 kx rec y8 S = some (r0, S0)) : wq_Z p l e (wq_rm 5 0 0) s m args below meth c D (wq_EM Ar b) b 32 9 (wq_Ab b 32) (MQ below (wq_Qc D (wq_EM Ar b) b 32 none S0) args s 0 0 (wq_Ab b 32)) 0 0 119 [some (.ref (b + 0)), some (.int (wq_I c1)), some (.int (wq_I c2)), some (.int (wq_I c3)), some (.int (wq_I c4)), some (.int (wq_I c5)), none, none, some (.int (wq_I y8))] [] S := by
  unfold b_X9_triesWays_119 at h
  refine wq_iload F dX9_triesWays_119 rfl rfl ?_
  refine wq_iconst (n := 3) F dX9_triesWays_121 rfl ?_
  refine wq_icmp_ge (tgt := 159) F dX9_triesWays_122 (by decide) rfl (fun hc => ?_) (fun hc => ?_)
  · replace h := wq_ift hc h
    exact wq_lsub [some (.ref (b + 0)), some (.int (wq_I c1)), some (.int (wq_I c2)), some (.int (wq_I c3)), some (.int (wq_I c4)), some (.int (wq_I c5)), none, none, none] (by simp [wq_sub]) (hkx S h)
  · replace h := wq_iff hc h
    refine wq_aload_n F dX9_triesWays_125 rfl rfl rfl ?_
    refine wq_g_X9_99 F dX9_triesWays_126 rfl ?_
    refine wq_iload F dX9_triesWays_129 rfl rfl ?_
    refine wq_aload_n F dX9_triesWays_131 rfl rfl rfl ?_
    refine wq_g_X9_93 F dX9_triesWays_132 rfl ?_
    refine wq_iload F dX9_triesWays_135 rfl rfl ?_
    obtain ⟨t11, ht11, wt11, h⟩ := wq_ix_some h
    refine wq_iald F (Nat.le_of_ble_eq_true rfl) wq_EM_order ht11 wt11 dX9_triesWays_137 rfl ?_
    obtain ⟨t12, ht12, wt12, h⟩ := wq_ix_some h
    refine wq_iast F (Nat.le_of_ble_eq_true rfl) wq_EM_bestOrder wq_EM_bestOrder ht12 wt12 ⟨Nat.le_add_right _ _, Nat.add_lt_add_left (Nat.le_of_ble_eq_true rfl) b⟩ dX9_triesWays_138 rfl ?_
    obtain ⟨S13, eS13, h⟩ := wq_lt_some h
    refine wq_namS eS13 ?_
    refine wq_aload_n F dX9_triesWays_139 rfl rfl rfl ?_
    refine wq_g_X9_102 F dX9_triesWays_140 rfl ?_
    refine wq_iload F dX9_triesWays_143 rfl rfl ?_
    refine wq_aload_n F dX9_triesWays_145 rfl rfl rfl ?_
    refine wq_g_X9_96 F dX9_triesWays_146 rfl ?_
    refine wq_iload F dX9_triesWays_149 rfl rfl ?_
    obtain ⟨t14, ht14, wt14, h⟩ := wq_ix_some h
    refine wq_iald F (Nat.le_of_ble_eq_true rfl) wq_EM_way ht14 wt14 dX9_triesWays_151 rfl ?_
    obtain ⟨t15, ht15, wt15, h⟩ := wq_ix_some h
    refine wq_iast F (Nat.le_of_ble_eq_true rfl) wq_EM_bestWay wq_EM_bestWay ht15 wt15 ⟨Nat.le_add_right _ _, Nat.add_lt_add_left (Nat.le_of_ble_eq_true rfl) b⟩ dX9_triesWays_152 rfl ?_
    obtain ⟨S16, eS16, h⟩ := wq_lt_some h
    refine wq_namS eS16 ?_
    refine wq_iinc (L' := [some (.ref (b + 0)), some (.int (wq_I c1)), some (.int (wq_I c2)), some (.int (wq_I c3)), some (.int (wq_I c4)), some (.int (wq_I c5)), none, none, some (.int (wq_I (y8 + 1)))]) F dX9_triesWays_153 rfl (by decide) rfl rfl rfl ?_
    refine wq_goto (tgt := 119) F dX9_triesWays_156 (by decide) ?_
    exact wq_lsub [some (.ref (b + 0)), some (.int (wq_I c1)), some (.int (wq_I c2)), some (.int (wq_I c3)), some (.int (wq_I c4)), some (.int (wq_I c5)), none, none, some (.int (wq_I (y8 + 1)))] (by simp [wq_sub]) (hrec (y8 + 1) S16 h)
set_option maxHeartbeats 4000000 in
set_option maxRecDepth 100000 in
theorem tl_X9_triesWays_119 {p : Program} {l : Launch} {e : Env} {s : State} {m : MethodId} {args : Array Value} {below : List Frame} {meth : Method} {c : Code} {D : va_G} {Ar : Nat → ClassId} {b : Nat} (F : wq_Fr p s m args meth c cX9_triesWays 9 ((Option.none : Option Jvm.ClassFile.FieldType)) "WharfQueryModel" D Ar) {r0 : Int} {S0 : wq_St} {c1 : Int} {c2 : Int} {c3 : Int} {c4 : Int} {c5 : Int} {kx : wq_St → Option (Int × wq_St)} (hkx : ∀ (S : wq_St), kx S = some (r0, S0) → wq_Z p l e (wq_rm 5 0 0) s m args below meth c D (wq_EM Ar b) b 32 9 (wq_Ab b 32) (MQ below (wq_Qc D (wq_EM Ar b) b 32 none S0) args s 0 0 (wq_Ab b 32)) 0 0 159 [some (.ref (b + 0)), some (.int (wq_I c1)), some (.int (wq_I c2)), some (.int (wq_I c3)), some (.int (wq_I c4)), some (.int (wq_I c5)), none, none, none] [] S) (n : Nat) (y8 : Int) (S : wq_St) (h : l_X9_triesWays_119 c1 c2 c3 c4 c5 kx n y8 S = some (r0, S0)) : wq_Z p l e (wq_rm 5 0 0) s m args below meth c D (wq_EM Ar b) b 32 9 (wq_Ab b 32) (MQ below (wq_Qc D (wq_EM Ar b) b 32 none S0) args s 0 0 (wq_Ab b 32)) 0 0 119 [some (.ref (b + 0)), some (.int (wq_I c1)), some (.int (wq_I c2)), some (.int (wq_I c3)), some (.int (wq_I c4)), some (.int (wq_I c5)), none, none, some (.int (wq_I y8))] [] S :=
  wq_loop_ind (f := fun (g : Int × wq_St → Option (Int × wq_St)) (x : Int × wq_St) => b_X9_triesWays_119 c1 c2 c3 c4 c5 kx (fun y8 S => g (y8, S)) x.1 x.2) (P := (fun x : Int × wq_St => wq_Z p l e (wq_rm 5 0 0) s m args below meth c D (wq_EM Ar b) b 32 9 (wq_Ab b 32) (MQ below (wq_Qc D (wq_EM Ar b) b 32 none S0) args s 0 0 (wq_Ab b 32)) 0 0 119 [some (.ref (b + 0)), some (.int (wq_I c1)), some (.int (wq_I c2)), some (.int (wq_I c3)), some (.int (wq_I c4)), some (.int (wq_I c5)), none, none, some (.int (wq_I (x.1)))] [] x.2)) (fun g hg x hx => tb_X9_triesWays_119 F hkx (fun y8 S h => hg (y8, S) h) x.1 x.2 hx) n (y8, S) h
