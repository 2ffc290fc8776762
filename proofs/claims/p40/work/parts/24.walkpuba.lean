set_option maxHeartbeats 4000000 in
set_option maxRecDepth 100000 in
theorem ct_X8_addTable {l : Launch} (hlt : l.stackTraces = false) {D : va_G} {Ar : Nat → ClassId} {b : Nat} {x1 : Int} {S S0 : wq_St} {o0 : Nat} {r0 : Int} (h : f_X8_addTable x1 S = some (o0, r0, S0)) : wq_Cx l yX8_addTable (.code yX8_addTable cX8_addTable 2 ((Option.some Jvm.ClassFile.FieldType.int))) 7 1 6 D Ar (wq_EC Ar b) b 284 [.ref (b + 0), .int (wq_I x1)] S o0 (some (.int (wq_I r0))) S0 := by
  refine wq_startx "WharfQuery" [some (.ref (b + 0)), some (.int (wq_I x1))] (by decide +kernel) rfl (Nat.le_of_ble_eq_true rfl) rfl ?_
  intro p e s m args below meth c F K htab
  unfold f_X8_addTable at h
  refine wq_iload_n F dX8_addTable_0 rfl rfl rfl ?_
  refine wq_iconst (n := 1) F dX8_addTable_1 rfl ?_
  refine wq_icmp_lt (tgt := 10) F dX8_addTable_2 (by decide) rfl (fun hc => ?_) (fun hc => ?_)
  · replace h := wq_ift hc h
    cases h
    exact wq_throw (names := ["java/lang/RuntimeException", "java/lang/Exception"]) F K htab hlt rfl (by decide +kernel) (by decide +kernel) aw_466 aw_33 (List.mem_of_getElem? (i := 3) rfl) wq_hat1_67 wq_hat2_67 (by decide +kernel) (Nat.le_of_ble_eq_true rfl) (Nat.le_of_ble_eq_true rfl) (Nat.le_of_ble_eq_true rfl) (Nat.le_of_ble_eq_true rfl) (Nat.le_of_ble_eq_true rfl) (Nat.le_of_ble_eq_true rfl) (by decide) rfl rfl dX8_addTable_10 dX8_addTable_13 dX8_addTable_14 dX8_addTable_16 dX8_addTable_19
  · replace h := wq_iff hc h
    refine wq_iload_n F dX8_addTable_5 rfl rfl rfl ?_
    refine wq_iconst (n := 3) F dX8_addTable_6 rfl ?_
    refine wq_icmp_le (tgt := 20) F dX8_addTable_7 (by decide) rfl (fun hc => ?_) (fun hc => ?_)
    · replace h := wq_ift hc h
      refine wq_aload_n F dX8_addTable_20 rfl rfl rfl ?_
      refine wq_g_X8_70 F dX8_addTable_21 rfl ?_
      refine wq_iconst (n := 4) F dX8_addTable_24 rfl ?_
      refine wq_icmp_lt (tgt := 38) F dX8_addTable_25 (by decide) rfl (fun hc => ?_) (fun hc => ?_)
      · replace h := wq_ift hc h
        refine wq_aload_n F dX8_addTable_38 rfl rfl rfl ?_
        refine wq_g_X8_32 F dX8_addTable_39 rfl ?_
        refine wq_aload_n F dX8_addTable_42 rfl rfl rfl ?_
        refine wq_g_X8_70 F dX8_addTable_43 rfl ?_
        obtain ⟨t1, ht1, wt1, h⟩ := wq_ix_some h
        refine wq_aald F (Nat.le_of_ble_eq_true rfl) wq_E_tabs rfl rfl ht1 wt1 dX8_addTable_46 rfl ?_
        refine wq_iload_n F dX8_addTable_47 rfl rfl rfl ?_
        refine wq_p_X8_79 F (wq_tab_i ht1) wq_AbX dX8_addTable_48 rfl ?_
        obtain ⟨S2, eS2, h⟩ := wq_lt_some h
        refine wq_namS eS2 ?_
        refine wq_aload_n F dX8_addTable_51 rfl rfl rfl ?_
        refine wq_dup1 F rfl dX8_addTable_52 rfl ?_
        refine wq_g_X8_70 F dX8_addTable_53 rfl ?_
        refine wq_iconst (n := 1) F dX8_addTable_56 rfl ?_
        refine wq_iadd F dX8_addTable_57 rfl ?_
        refine wq_p_X8_70 F wq_AbX dX8_addTable_58 rfl ?_
        obtain ⟨S3, eS3, h⟩ := wq_lt_some h
        refine wq_namS eS3 ?_
        refine wq_aload_n F dX8_addTable_61 rfl rfl rfl ?_
        refine wq_g_X8_70 F dX8_addTable_62 rfl ?_
        refine wq_iconst (n := 1) F dX8_addTable_65 rfl ?_
        refine wq_isub F dX8_addTable_66 rfl ?_
        cases h
        exact wq_iretx F rfl rfl rfl (Nat.le_of_ble_eq_true rfl) (Nat.le_of_ble_eq_true rfl) dX8_addTable_67
      · replace h := wq_iff hc h
        cases h
        exact wq_throw (names := ["java/lang/RuntimeException", "java/lang/Exception"]) F K htab hlt rfl (by decide +kernel) (by decide +kernel) aw_482 aw_34 (List.mem_of_getElem? (i := 4) rfl) wq_hat1_78 wq_hat2_78 (by decide +kernel) (Nat.le_of_ble_eq_true rfl) (Nat.le_of_ble_eq_true rfl) (Nat.le_of_ble_eq_true rfl) (Nat.le_of_ble_eq_true rfl) (Nat.le_of_ble_eq_true rfl) (Nat.le_of_ble_eq_true rfl) (by decide) rfl rfl dX8_addTable_28 dX8_addTable_31 dX8_addTable_32 dX8_addTable_34 dX8_addTable_37
    · replace h := wq_iff hc h
      cases h
      exact wq_throw (names := ["java/lang/RuntimeException", "java/lang/Exception"]) F K htab hlt rfl (by decide +kernel) (by decide +kernel) aw_466 aw_33 (List.mem_of_getElem? (i := 3) rfl) wq_hat1_67 wq_hat2_67 (by decide +kernel) (Nat.le_of_ble_eq_true rfl) (Nat.le_of_ble_eq_true rfl) (Nat.le_of_ble_eq_true rfl) (Nat.le_of_ble_eq_true rfl) (Nat.le_of_ble_eq_true rfl) (Nat.le_of_ble_eq_true rfl) (by decide) rfl rfl dX8_addTable_10 dX8_addTable_13 dX8_addTable_14 dX8_addTable_16 dX8_addTable_19
set_option maxHeartbeats 4000000 in
set_option maxRecDepth 100000 in
theorem ct_X8_findTable {l : Launch} (hlt : l.stackTraces = false) {D : va_G} {Ar : Nat → ClassId} {b : Nat} {x1 : Int} {S S0 : wq_St} {o0 : Nat} {r0 : Nat} (h : f_X8_findTable x1 S = some (o0, r0, S0)) : wq_Cx l yX8_findTable (.code yX8_findTable cX8_findTable 2 ((Option.some (Jvm.ClassFile.FieldType.object "WharfQuery$Table")))) 7 1 6 D Ar (wq_EC Ar b) b 284 [.ref (b + 0), .int (wq_I x1)] S o0 (some (.ref (b + r0))) S0 := by
  refine wq_startx "WharfQuery" [some (.ref (b + 0)), some (.int (wq_I x1))] (by decide +kernel) rfl (Nat.le_of_ble_eq_true rfl) rfl ?_
  intro p e s m args below meth c F K htab
  unfold f_X8_findTable at h
  refine wq_iload_n F dX8_findTable_0 rfl rfl rfl ?_
  refine wq_if_lt (tgt := 12) F dX8_findTable_1 (by decide) rfl (fun hc => ?_) (fun hc => ?_)
  · replace h := wq_ift hc h
    cases h
    exact wq_throww (names := ["java/lang/RuntimeException", "java/lang/Exception"]) F K htab hlt rfl (by decide +kernel) (by decide +kernel) aw_394 aw_36 (List.mem_of_getElem? (i := 0) rfl) wq_hat1_290 wq_hat2_290 (by decide +kernel) (Nat.le_of_ble_eq_true rfl) (Nat.le_of_ble_eq_true rfl) (Nat.le_of_ble_eq_true rfl) (Nat.le_of_ble_eq_true rfl) (Nat.le_of_ble_eq_true rfl) (Nat.le_of_ble_eq_true rfl) (by decide) rfl rfl dX8_findTable_12 dX8_findTable_15 dX8_findTable_16 dX8_findTable_19 dX8_findTable_22
  · replace h := wq_iff hc h
    refine wq_iload_n F dX8_findTable_4 rfl rfl rfl ?_
    refine wq_aload_n F dX8_findTable_5 rfl rfl rfl ?_
    refine wq_g_X8_70 F dX8_findTable_6 rfl ?_
    refine wq_icmp_lt (tgt := 23) F dX8_findTable_9 (by decide) rfl (fun hc => ?_) (fun hc => ?_)
    · replace h := wq_ift hc h
      refine wq_aload_n F dX8_findTable_23 rfl rfl rfl ?_
      refine wq_g_X8_32 F dX8_findTable_24 rfl ?_
      refine wq_iload_n F dX8_findTable_27 rfl rfl rfl ?_
      obtain ⟨t1, ht1, wt1, h⟩ := wq_ix_some h
      refine wq_aald F (Nat.le_of_ble_eq_true rfl) wq_E_tabs rfl rfl ht1 wt1 dX8_findTable_28 rfl ?_
      cases h
      exact wq_aretx F (Or.inl ⟨_, rfl⟩) rfl rfl rfl (Nat.le_of_ble_eq_true rfl) (Nat.le_of_ble_eq_true rfl) dX8_findTable_29
    · replace h := wq_iff hc h
      cases h
      exact wq_throww (names := ["java/lang/RuntimeException", "java/lang/Exception"]) F K htab hlt rfl (by decide +kernel) (by decide +kernel) aw_394 aw_36 (List.mem_of_getElem? (i := 0) rfl) wq_hat1_290 wq_hat2_290 (by decide +kernel) (Nat.le_of_ble_eq_true rfl) (Nat.le_of_ble_eq_true rfl) (Nat.le_of_ble_eq_true rfl) (Nat.le_of_ble_eq_true rfl) (Nat.le_of_ble_eq_true rfl) (Nat.le_of_ble_eq_true rfl) (by decide) rfl rfl dX8_findTable_12 dX8_findTable_15 dX8_findTable_16 dX8_findTable_19 dX8_findTable_22
set_option maxHeartbeats 4000000 in
set_option maxRecDepth 100000 in
theorem ct_X8_insert {l : Launch} (hlt : l.stackTraces = false) {D : va_G} {Ar : Nat → ClassId} {b : Nat} {x1 : Int} {x2 : Int} {x3 : Int} {x4 : Int} {S S0 : wq_St} {o0 : Nat} {r0 : Int} (h : f_X8_insert x1 x2 x3 x4 S = some (o0, r0, S0)) : wq_Cx l yX8_insert (.code yX8_insert cX8_insert 6 ((Option.some Jvm.ClassFile.FieldType.int))) 8 2 12 D Ar (wq_EC Ar b) b 284 [.ref (b + 0), .int (wq_I x1), .int (wq_I x2), .int (wq_I x3), .int (wq_I x4)] S o0 (some (.int (wq_I r0))) S0 := by
  refine wq_startx "WharfQuery" [some (.ref (b + 0)), some (.int (wq_I x1)), some (.int (wq_I x2)), some (.int (wq_I x3)), some (.int (wq_I x4)), none] (by decide +kernel) rfl (Nat.le_of_ble_eq_true rfl) rfl ?_
  intro p e s m args below meth c F K htab
  unfold f_X8_insert at h
  refine wq_aload_n F dX8_insert_0 rfl rfl rfl ?_
  refine wq_iload_n F dX8_insert_1 rfl rfl rfl ?_
  rcases wq_bx_some h with ⟨r1, S2, h1r1, h⟩ | ⟨nr1, r1, S2, h1r1, ho⟩
  · refine wq_callVn (As := [.int (wq_I x1)]) (mc := 1) (ms := 6) (n := 7) F K lk_X8_82 (ct_X8_findTable hlt h1r1) ⟨Nat.le_of_ble_eq_true rfl, Nat.le_of_ble_eq_true rfl⟩ ⟨Nat.le_of_ble_eq_true rfl, Nat.le_of_ble_eq_true rfl⟩ (Nat.le_of_ble_eq_true rfl) rfl rfl rfl rfl (Nat.le_of_ble_eq_true rfl) dX8_insert_2 rfl ?_
    refine wq_astore (L' := [some (.ref (b + 0)), some (.int (wq_I x1)), some (.int (wq_I x2)), some (.int (wq_I x3)), some (.int (wq_I x4)), some (.ref (b + r1))]) F dX8_insert_5 (by decide) rfl rfl rfl ?_
    refine wq_aload F dX8_insert_7 rfl rfl ?_
    refine wq_iconst (n := 0) F dX8_insert_9 rfl ?_
    refine wq_iload_n F dX8_insert_10 rfl rfl rfl ?_
    obtain ⟨r3, S4, h1r3, h⟩ := wq_bd_some h
    refine wq_callV (As := [.int (wq_I 0), .int (wq_I x2)]) F lk_X8_86 (ct_X7_fits (pd_X8_findTable h1r1) h1r3) ⟨Nat.le_of_ble_eq_true rfl, Nat.le_of_ble_eq_true rfl⟩ ⟨Nat.le_of_ble_eq_true rfl, Nat.le_of_ble_eq_true rfl⟩ (wq_tab_lt (pd_X8_findTable h1r1)) (wq_E_tab (pd_X8_findTable h1r1)) rfl wq_AbX rfl rfl (Nat.le_of_ble_eq_true rfl) dX8_insert_11 rfl ?_
    refine wq_if_eq (tgt := 38) F dX8_insert_14 (by decide) rfl (fun hc => ?_) (fun hc => ?_)
    · replace h := wq_ift hc h
      cases h
      exact wq_throw (names := ["java/lang/RuntimeException", "java/lang/Exception"]) F K htab hlt rfl (by decide +kernel) (by decide +kernel) aw_466 aw_33 (List.mem_of_getElem? (i := 1) rfl) wq_hat1_67 wq_hat2_67 (by decide +kernel) (Nat.le_of_ble_eq_true rfl) (Nat.le_of_ble_eq_true rfl) (Nat.le_of_ble_eq_true rfl) (Nat.le_of_ble_eq_true rfl) (Nat.le_of_ble_eq_true rfl) (Nat.le_of_ble_eq_true rfl) (by decide) rfl rfl dX8_insert_38 dX8_insert_41 dX8_insert_42 dX8_insert_44 dX8_insert_47
    · replace h := wq_iff hc h
      refine wq_aload F dX8_insert_17 rfl rfl ?_
      refine wq_iconst (n := 1) F dX8_insert_19 rfl ?_
      refine wq_iload_n F dX8_insert_20 rfl rfl rfl ?_
      obtain ⟨r5, S6, h1r5, h⟩ := wq_bd_some h
      refine wq_callV (As := [.int (wq_I 1), .int (wq_I x3)]) F lk_X8_86 (ct_X7_fits (pd_X8_findTable h1r1) h1r5) ⟨Nat.le_of_ble_eq_true rfl, Nat.le_of_ble_eq_true rfl⟩ ⟨Nat.le_of_ble_eq_true rfl, Nat.le_of_ble_eq_true rfl⟩ (wq_tab_lt (pd_X8_findTable h1r1)) (wq_E_tab (pd_X8_findTable h1r1)) rfl wq_AbX rfl rfl (Nat.le_of_ble_eq_true rfl) dX8_insert_21 rfl ?_
      refine wq_if_eq (tgt := 38) F dX8_insert_24 (by decide) rfl (fun hc => ?_) (fun hc => ?_)
      · replace h := wq_ift hc h
        cases h
        exact wq_throw (names := ["java/lang/RuntimeException", "java/lang/Exception"]) F K htab hlt rfl (by decide +kernel) (by decide +kernel) aw_466 aw_33 (List.mem_of_getElem? (i := 1) rfl) wq_hat1_67 wq_hat2_67 (by decide +kernel) (Nat.le_of_ble_eq_true rfl) (Nat.le_of_ble_eq_true rfl) (Nat.le_of_ble_eq_true rfl) (Nat.le_of_ble_eq_true rfl) (Nat.le_of_ble_eq_true rfl) (Nat.le_of_ble_eq_true rfl) (by decide) rfl rfl dX8_insert_38 dX8_insert_41 dX8_insert_42 dX8_insert_44 dX8_insert_47
      · replace h := wq_iff hc h
        refine wq_aload F dX8_insert_27 rfl rfl ?_
        refine wq_iconst (n := 2) F dX8_insert_29 rfl ?_
        refine wq_iload F dX8_insert_30 rfl rfl ?_
        obtain ⟨r7, S8, h1r7, h⟩ := wq_bd_some h
        refine wq_callV (As := [.int (wq_I 2), .int (wq_I x4)]) F lk_X8_86 (ct_X7_fits (pd_X8_findTable h1r1) h1r7) ⟨Nat.le_of_ble_eq_true rfl, Nat.le_of_ble_eq_true rfl⟩ ⟨Nat.le_of_ble_eq_true rfl, Nat.le_of_ble_eq_true rfl⟩ (wq_tab_lt (pd_X8_findTable h1r1)) (wq_E_tab (pd_X8_findTable h1r1)) rfl wq_AbX rfl rfl (Nat.le_of_ble_eq_true rfl) dX8_insert_32 rfl ?_
        refine wq_if_ne (tgt := 48) F dX8_insert_35 (by decide) rfl (fun hc => ?_) (fun hc => ?_)
        · replace h := wq_iff hc h
          refine wq_aload F dX8_insert_48 rfl rfl ?_
          refine wq_g_X8_92 F (pd_X8_findTable h1r1) dX8_insert_50 rfl ?_
          refine wq_bipush (n := 40) F dX8_insert_53 (by decide) rfl ?_
          refine wq_icmp_lt (tgt := 68) F dX8_insert_55 (by decide) rfl (fun hc => ?_) (fun hc => ?_)
          · replace h := wq_ift hc h
            refine wq_aload F dX8_insert_68 rfl rfl ?_
            refine wq_iload_n F dX8_insert_70 rfl rfl rfl ?_
            refine wq_iload_n F dX8_insert_71 rfl rfl rfl ?_
            refine wq_iload F dX8_insert_72 rfl rfl ?_
            obtain ⟨r9, S10, h1r9, h⟩ := wq_bd_some h
            refine wq_callV (As := [.int (wq_I x2), .int (wq_I x3), .int (wq_I x4)]) F lk_X8_97 (ct_X7_put (pd_X8_findTable h1r1) h1r9) ⟨Nat.le_of_ble_eq_true rfl, Nat.le_of_ble_eq_true rfl⟩ ⟨Nat.le_of_ble_eq_true rfl, Nat.le_of_ble_eq_true rfl⟩ (wq_tab_lt (pd_X8_findTable h1r1)) (wq_E_tab (pd_X8_findTable h1r1)) rfl wq_AbX rfl rfl (Nat.le_of_ble_eq_true rfl) dX8_insert_74 rfl ?_
            cases h
            exact wq_iretx F rfl rfl rfl (Nat.le_of_ble_eq_true rfl) (Nat.le_of_ble_eq_true rfl) dX8_insert_77
          · replace h := wq_iff hc h
            cases h
            exact wq_throw (names := ["java/lang/RuntimeException", "java/lang/Exception"]) F K htab hlt rfl (by decide +kernel) (by decide +kernel) aw_482 aw_34 (List.mem_of_getElem? (i := 2) rfl) wq_hat1_78 wq_hat2_78 (by decide +kernel) (Nat.le_of_ble_eq_true rfl) (Nat.le_of_ble_eq_true rfl) (Nat.le_of_ble_eq_true rfl) (Nat.le_of_ble_eq_true rfl) (Nat.le_of_ble_eq_true rfl) (Nat.le_of_ble_eq_true rfl) (by decide) rfl rfl dX8_insert_58 dX8_insert_61 dX8_insert_62 dX8_insert_64 dX8_insert_67
        · replace h := wq_ift hc h
          cases h
          exact wq_throw (names := ["java/lang/RuntimeException", "java/lang/Exception"]) F K htab hlt rfl (by decide +kernel) (by decide +kernel) aw_466 aw_33 (List.mem_of_getElem? (i := 1) rfl) wq_hat1_67 wq_hat2_67 (by decide +kernel) (Nat.le_of_ble_eq_true rfl) (Nat.le_of_ble_eq_true rfl) (Nat.le_of_ble_eq_true rfl) (Nat.le_of_ble_eq_true rfl) (Nat.le_of_ble_eq_true rfl) (Nat.le_of_ble_eq_true rfl) (by decide) rfl rfl dX8_insert_38 dX8_insert_41 dX8_insert_42 dX8_insert_44 dX8_insert_47
  · cases ho
    exact wq_callVt (As := [.int (wq_I x1)]) (mc := 1) (ms := 6) (n := 7) F K lk_X8_82 (ct_X8_findTable hlt h1r1) ⟨Nat.le_of_ble_eq_true rfl, Nat.le_of_ble_eq_true rfl⟩ ⟨Nat.le_of_ble_eq_true rfl, Nat.le_of_ble_eq_true rfl⟩ (Nat.le_of_ble_eq_true rfl) rfl rfl rfl rfl (Nat.le_of_ble_eq_true rfl) dX8_insert_2 htab rfl rfl (Nat.le_of_ble_eq_true rfl) (Nat.le_of_ble_eq_true rfl)
set_option maxHeartbeats 4000000 in
set_option maxRecDepth 100000 in
theorem ct_X8_checkRow {l : Launch} (hlt : l.stackTraces = false) {D : va_G} {Ar : Nat → ClassId} {b : Nat} {k0 : Nat} {x1 : Int} {S S0 : wq_St} {o0 : Nat} {r0 : Int} (hk0 : wq_tab k0) (h : f_X8_checkRow k0 x1 S = some (o0, r0, S0)) : wq_Cx l yX8_checkRow (.code yX8_checkRow cX8_checkRow 2 ((Option.none : Option Jvm.ClassFile.FieldType))) 7 1 6 D Ar (wq_EC Ar b) b 284 [.ref (b + k0), .int (wq_I x1)] S o0 none S0 := by
  refine wq_startx "WharfQuery" [some (.ref (b + k0)), some (.int (wq_I x1))] (by decide +kernel) rfl (Nat.le_of_ble_eq_true rfl) rfl ?_
  intro p e s m args below meth c F K htab
  unfold f_X8_checkRow at h
  refine wq_iload_n F dX8_checkRow_0 rfl rfl rfl ?_
  refine wq_if_lt (tgt := 21) F dX8_checkRow_1 (by decide) rfl (fun hc => ?_) (fun hc => ?_)
  · replace h := wq_ift hc h
    cases h
    exact wq_throww (names := ["java/lang/RuntimeException", "java/lang/Exception"]) F K htab hlt rfl (by decide +kernel) (by decide +kernel) aw_394 aw_36 (List.mem_of_getElem? (i := 12) rfl) wq_hat1_290 wq_hat2_290 (by decide +kernel) (Nat.le_of_ble_eq_true rfl) (Nat.le_of_ble_eq_true rfl) (Nat.le_of_ble_eq_true rfl) (Nat.le_of_ble_eq_true rfl) (Nat.le_of_ble_eq_true rfl) (Nat.le_of_ble_eq_true rfl) (by decide) rfl rfl dX8_checkRow_21 dX8_checkRow_24 dX8_checkRow_25 dX8_checkRow_28 dX8_checkRow_31
  · replace h := wq_iff hc h
    refine wq_iload_n F dX8_checkRow_4 rfl rfl rfl ?_
    refine wq_aload_n F dX8_checkRow_5 rfl rfl rfl ?_
    refine wq_g_X8_92 F hk0 dX8_checkRow_6 rfl ?_
    refine wq_icmp_ge (tgt := 21) F dX8_checkRow_9 (by decide) rfl (fun hc => ?_) (fun hc => ?_)
    · replace h := wq_ift hc h
      cases h
      exact wq_throww (names := ["java/lang/RuntimeException", "java/lang/Exception"]) F K htab hlt rfl (by decide +kernel) (by decide +kernel) aw_394 aw_36 (List.mem_of_getElem? (i := 12) rfl) wq_hat1_290 wq_hat2_290 (by decide +kernel) (Nat.le_of_ble_eq_true rfl) (Nat.le_of_ble_eq_true rfl) (Nat.le_of_ble_eq_true rfl) (Nat.le_of_ble_eq_true rfl) (Nat.le_of_ble_eq_true rfl) (Nat.le_of_ble_eq_true rfl) (by decide) rfl rfl dX8_checkRow_21 dX8_checkRow_24 dX8_checkRow_25 dX8_checkRow_28 dX8_checkRow_31
    · replace h := wq_iff hc h
      refine wq_aload_n F dX8_checkRow_12 rfl rfl rfl ?_
      refine wq_g_X8_105 F hk0 dX8_checkRow_13 rfl ?_
      refine wq_iload_n F dX8_checkRow_16 rfl rfl rfl ?_
      obtain ⟨t1, ht1, wt1, h⟩ := wq_ix_some h
      refine wq_zald F (wq_tab_lt43 hk0) (wq_E_there hk0) ht1 wt1 dX8_checkRow_17 rfl ?_
      refine wq_if_ne (tgt := 32) F dX8_checkRow_18 (by decide) rfl (fun hc => ?_) (fun hc => ?_)
      · replace h := wq_iff hc h
        cases h
        exact wq_vretx F rfl rfl rfl (Nat.le_of_ble_eq_true rfl) (Nat.le_of_ble_eq_true rfl) dX8_checkRow_32
      · replace h := wq_ift hc h
        cases h
        exact wq_throww (names := ["java/lang/RuntimeException", "java/lang/Exception"]) F K htab hlt rfl (by decide +kernel) (by decide +kernel) aw_394 aw_36 (List.mem_of_getElem? (i := 12) rfl) wq_hat1_290 wq_hat2_290 (by decide +kernel) (Nat.le_of_ble_eq_true rfl) (Nat.le_of_ble_eq_true rfl) (Nat.le_of_ble_eq_true rfl) (Nat.le_of_ble_eq_true rfl) (Nat.le_of_ble_eq_true rfl) (Nat.le_of_ble_eq_true rfl) (by decide) rfl rfl dX8_checkRow_21 dX8_checkRow_24 dX8_checkRow_25 dX8_checkRow_28 dX8_checkRow_31
set_option maxHeartbeats 4000000 in
set_option maxRecDepth 100000 in
theorem ct_X8_delete {l : Launch} (hlt : l.stackTraces = false) {D : va_G} {Ar : Nat → ClassId} {b : Nat} {x1 : Int} {x2 : Int} {S S0 : wq_St} {o0 : Nat} {r0 : Int} (h : f_X8_delete x1 x2 S = some (o0, r0, S0)) : wq_Cx l yX8_delete (.code yX8_delete cX8_delete 4 ((Option.some Jvm.ClassFile.FieldType.int))) 8 2 12 D Ar (wq_EC Ar b) b 284 [.ref (b + 0), .int (wq_I x1), .int (wq_I x2)] S o0 (some (.int (wq_I r0))) S0 := by
  refine wq_startx "WharfQuery" [some (.ref (b + 0)), some (.int (wq_I x1)), some (.int (wq_I x2)), none] (by decide +kernel) rfl (Nat.le_of_ble_eq_true rfl) rfl ?_
  intro p e s m args below meth c F K htab
  unfold f_X8_delete at h
  refine wq_aload_n F dX8_delete_0 rfl rfl rfl ?_
  refine wq_iload_n F dX8_delete_1 rfl rfl rfl ?_
  rcases wq_bx_some h with ⟨r1, S2, h1r1, h⟩ | ⟨nr1, r1, S2, h1r1, ho⟩
  · refine wq_callVn (As := [.int (wq_I x1)]) (mc := 1) (ms := 6) (n := 7) F K lk_X8_82 (ct_X8_findTable hlt h1r1) ⟨Nat.le_of_ble_eq_true rfl, Nat.le_of_ble_eq_true rfl⟩ ⟨Nat.le_of_ble_eq_true rfl, Nat.le_of_ble_eq_true rfl⟩ (Nat.le_of_ble_eq_true rfl) rfl rfl rfl rfl (Nat.le_of_ble_eq_true rfl) dX8_delete_2 rfl ?_
    refine wq_astore_n (L' := [some (.ref (b + 0)), some (.int (wq_I x1)), some (.int (wq_I x2)), some (.ref (b + r1))]) F dX8_delete_5 rfl (by decide) rfl rfl rfl ?_
    refine wq_aload_n F dX8_delete_6 rfl rfl rfl ?_
    refine wq_iload_n F dX8_delete_7 rfl rfl rfl ?_
    rcases wq_bx_some h with ⟨r3, S4, h1r3, h⟩ | ⟨nr3, r3, S4, h1r3, ho⟩
    · refine wq_callSn (As := [.ref (b + r1), .int (wq_I x2)]) (mc := 1) (ms := 6) (n := 7) F K lk_X8_101 (ct_X8_checkRow hlt (pd_X8_findTable h1r1) h1r3) ⟨Nat.le_of_ble_eq_true rfl, Nat.le_of_ble_eq_true rfl⟩ ⟨Nat.le_of_ble_eq_true rfl, Nat.le_of_ble_eq_true rfl⟩ rfl rfl (Nat.le_of_ble_eq_true rfl) dX8_delete_8 rfl ?_
      refine wq_aload_n F dX8_delete_11 rfl rfl rfl ?_
      refine wq_g_X8_105 F (pd_X8_findTable h1r1) dX8_delete_12 rfl ?_
      refine wq_iload_n F dX8_delete_15 rfl rfl rfl ?_
      refine wq_iconst (n := 0) F dX8_delete_16 rfl ?_
      obtain ⟨t5, ht5, wt5, h⟩ := wq_ix_some h
      refine wq_zast F (by decide) (wq_tab_lt43 (pd_X8_findTable h1r1)) (wq_E_there (pd_X8_findTable h1r1)) (wq_E_there (pd_X8_findTable h1r1)) ht5 wt5 (Or.inl ⟨Nat.le_add_right _ _, Nat.add_lt_add_left (wq_tab_lt43 (pd_X8_findTable h1r1)) b⟩) dX8_delete_17 rfl ?_
      obtain ⟨S6, eS6, h⟩ := wq_lt_some h
      refine wq_namS eS6 ?_
      refine wq_aload_n F dX8_delete_18 rfl rfl rfl ?_
      refine wq_dup1 F rfl dX8_delete_19 rfl ?_
      refine wq_g_X8_109 F (pd_X8_findTable h1r1) dX8_delete_20 rfl ?_
      refine wq_iconst (n := 1) F dX8_delete_23 rfl ?_
      refine wq_isub F dX8_delete_24 rfl ?_
      refine wq_p_X8_109 F (pd_X8_findTable h1r1) wq_AbX dX8_delete_25 rfl ?_
      obtain ⟨S7, eS7, h⟩ := wq_lt_some h
      refine wq_namS eS7 ?_
      refine wq_aload_n F dX8_delete_28 rfl rfl rfl ?_
      refine wq_g_X8_109 F (pd_X8_findTable h1r1) dX8_delete_29 rfl ?_
      cases h
      exact wq_iretx F rfl rfl rfl (Nat.le_of_ble_eq_true rfl) (Nat.le_of_ble_eq_true rfl) dX8_delete_32
    · cases ho
      exact wq_callSt (As := [.ref (b + r1), .int (wq_I x2)]) (mc := 1) (ms := 6) (n := 7) F K lk_X8_101 (ct_X8_checkRow hlt (pd_X8_findTable h1r1) h1r3) ⟨Nat.le_of_ble_eq_true rfl, Nat.le_of_ble_eq_true rfl⟩ ⟨Nat.le_of_ble_eq_true rfl, Nat.le_of_ble_eq_true rfl⟩ rfl rfl (Nat.le_of_ble_eq_true rfl) dX8_delete_8 htab rfl rfl (Nat.le_of_ble_eq_true rfl) (Nat.le_of_ble_eq_true rfl)
  · cases ho
    exact wq_callVt (As := [.int (wq_I x1)]) (mc := 1) (ms := 6) (n := 7) F K lk_X8_82 (ct_X8_findTable hlt h1r1) ⟨Nat.le_of_ble_eq_true rfl, Nat.le_of_ble_eq_true rfl⟩ ⟨Nat.le_of_ble_eq_true rfl, Nat.le_of_ble_eq_true rfl⟩ (Nat.le_of_ble_eq_true rfl) rfl rfl rfl rfl (Nat.le_of_ble_eq_true rfl) dX8_delete_2 htab rfl rfl (Nat.le_of_ble_eq_true rfl) (Nat.le_of_ble_eq_true rfl)
set_option maxHeartbeats 4000000 in
set_option maxRecDepth 100000 in
theorem ct_X8_checkColumn {l : Launch} (hlt : l.stackTraces = false) {D : va_G} {Ar : Nat → ClassId} {b : Nat} {k0 : Nat} {x1 : Int} {S S0 : wq_St} {o0 : Nat} {r0 : Int} (hk0 : wq_tab k0) (h : f_X8_checkColumn k0 x1 S = some (o0, r0, S0)) : wq_Cx l yX8_checkColumn (.code yX8_checkColumn cX8_checkColumn 2 ((Option.none : Option Jvm.ClassFile.FieldType))) 7 1 6 D Ar (wq_EC Ar b) b 284 [.ref (b + k0), .int (wq_I x1)] S o0 none S0 := by
  refine wq_startx "WharfQuery" [some (.ref (b + k0)), some (.int (wq_I x1))] (by decide +kernel) rfl (Nat.le_of_ble_eq_true rfl) rfl ?_
  intro p e s m args below meth c F K htab
  unfold f_X8_checkColumn at h
  refine wq_iload_n F dX8_checkColumn_0 rfl rfl rfl ?_
  refine wq_if_lt (tgt := 12) F dX8_checkColumn_1 (by decide) rfl (fun hc => ?_) (fun hc => ?_)
  · replace h := wq_ift hc h
    cases h
    exact wq_throww (names := ["java/lang/RuntimeException", "java/lang/Exception"]) F K htab hlt rfl (by decide +kernel) (by decide +kernel) aw_394 aw_36 (List.mem_of_getElem? (i := 14) rfl) wq_hat1_290 wq_hat2_290 (by decide +kernel) (Nat.le_of_ble_eq_true rfl) (Nat.le_of_ble_eq_true rfl) (Nat.le_of_ble_eq_true rfl) (Nat.le_of_ble_eq_true rfl) (Nat.le_of_ble_eq_true rfl) (Nat.le_of_ble_eq_true rfl) (by decide) rfl rfl dX8_checkColumn_12 dX8_checkColumn_15 dX8_checkColumn_16 dX8_checkColumn_19 dX8_checkColumn_22
  · replace h := wq_iff hc h
    refine wq_iload_n F dX8_checkColumn_4 rfl rfl rfl ?_
    refine wq_aload_n F dX8_checkColumn_5 rfl rfl rfl ?_
    refine wq_g_X8_79 F hk0 dX8_checkColumn_6 rfl ?_
    refine wq_icmp_lt (tgt := 23) F dX8_checkColumn_9 (by decide) rfl (fun hc => ?_) (fun hc => ?_)
    · replace h := wq_ift hc h
      cases h
      exact wq_vretx F rfl rfl rfl (Nat.le_of_ble_eq_true rfl) (Nat.le_of_ble_eq_true rfl) dX8_checkColumn_23
    · replace h := wq_iff hc h
      cases h
      exact wq_throww (names := ["java/lang/RuntimeException", "java/lang/Exception"]) F K htab hlt rfl (by decide +kernel) (by decide +kernel) aw_394 aw_36 (List.mem_of_getElem? (i := 14) rfl) wq_hat1_290 wq_hat2_290 (by decide +kernel) (Nat.le_of_ble_eq_true rfl) (Nat.le_of_ble_eq_true rfl) (Nat.le_of_ble_eq_true rfl) (Nat.le_of_ble_eq_true rfl) (Nat.le_of_ble_eq_true rfl) (Nat.le_of_ble_eq_true rfl) (by decide) rfl rfl dX8_checkColumn_12 dX8_checkColumn_15 dX8_checkColumn_16 dX8_checkColumn_19 dX8_checkColumn_22
set_option maxHeartbeats 4000000 in
set_option maxRecDepth 100000 in
theorem ct_X8_findColumn {l : Launch} (hlt : l.stackTraces = false) {D : va_G} {Ar : Nat → ClassId} {b : Nat} {x1 : Int} {x2 : Int} {S S0 : wq_St} {o0 : Nat} {r0 : Nat} (h : f_X8_findColumn x1 x2 S = some (o0, r0, S0)) : wq_Cx l yX8_findColumn (.code yX8_findColumn cX8_findColumn 4 ((Option.some (Jvm.ClassFile.FieldType.object "WharfQuery$Column")))) 8 2 12 D Ar (wq_EC Ar b) b 284 [.ref (b + 0), .int (wq_I x1), .int (wq_I x2)] S o0 (some (.ref (b + r0))) S0 := by
  refine wq_startx "WharfQuery" [some (.ref (b + 0)), some (.int (wq_I x1)), some (.int (wq_I x2)), none] (by decide +kernel) rfl (Nat.le_of_ble_eq_true rfl) rfl ?_
  intro p e s m args below meth c F K htab
  unfold f_X8_findColumn at h
  refine wq_aload_n F dX8_findColumn_0 rfl rfl rfl ?_
  refine wq_iload_n F dX8_findColumn_1 rfl rfl rfl ?_
  rcases wq_bx_some h with ⟨r1, S2, h1r1, h⟩ | ⟨nr1, r1, S2, h1r1, ho⟩
  · refine wq_callVn (As := [.int (wq_I x1)]) (mc := 1) (ms := 6) (n := 7) F K lk_X8_82 (ct_X8_findTable hlt h1r1) ⟨Nat.le_of_ble_eq_true rfl, Nat.le_of_ble_eq_true rfl⟩ ⟨Nat.le_of_ble_eq_true rfl, Nat.le_of_ble_eq_true rfl⟩ (Nat.le_of_ble_eq_true rfl) rfl rfl rfl rfl (Nat.le_of_ble_eq_true rfl) dX8_findColumn_2 rfl ?_
    refine wq_astore_n (L' := [some (.ref (b + 0)), some (.int (wq_I x1)), some (.int (wq_I x2)), some (.ref (b + r1))]) F dX8_findColumn_5 rfl (by decide) rfl rfl rfl ?_
    refine wq_aload_n F dX8_findColumn_6 rfl rfl rfl ?_
    refine wq_iload_n F dX8_findColumn_7 rfl rfl rfl ?_
    rcases wq_bx_some h with ⟨r3, S4, h1r3, h⟩ | ⟨nr3, r3, S4, h1r3, ho⟩
    · refine wq_callSn (As := [.ref (b + r1), .int (wq_I x2)]) (mc := 1) (ms := 6) (n := 7) F K lk_X8_122 (ct_X8_checkColumn hlt (pd_X8_findTable h1r1) h1r3) ⟨Nat.le_of_ble_eq_true rfl, Nat.le_of_ble_eq_true rfl⟩ ⟨Nat.le_of_ble_eq_true rfl, Nat.le_of_ble_eq_true rfl⟩ rfl rfl (Nat.le_of_ble_eq_true rfl) dX8_findColumn_8 rfl ?_
      refine wq_aload_n F dX8_findColumn_11 rfl rfl rfl ?_
      refine wq_g_X8_291 F (pd_X8_findTable h1r1) dX8_findColumn_12 rfl ?_
      refine wq_iload_n F dX8_findColumn_15 rfl rfl rfl ?_
      obtain ⟨t5, ht5, wt5, h⟩ := wq_ix_some h
      refine wq_aald F (wq_tab_lt1 (pd_X8_findTable h1r1)) (wq_E_cols (pd_X8_findTable h1r1)) rfl rfl ht5 wt5 dX8_findColumn_16 rfl ?_
      cases h
      exact wq_aretx F (Or.inl ⟨_, rfl⟩) rfl rfl rfl (Nat.le_of_ble_eq_true rfl) (Nat.le_of_ble_eq_true rfl) dX8_findColumn_17
    · cases ho
      exact wq_callSt (As := [.ref (b + r1), .int (wq_I x2)]) (mc := 1) (ms := 6) (n := 7) F K lk_X8_122 (ct_X8_checkColumn hlt (pd_X8_findTable h1r1) h1r3) ⟨Nat.le_of_ble_eq_true rfl, Nat.le_of_ble_eq_true rfl⟩ ⟨Nat.le_of_ble_eq_true rfl, Nat.le_of_ble_eq_true rfl⟩ rfl rfl (Nat.le_of_ble_eq_true rfl) dX8_findColumn_8 htab rfl rfl (Nat.le_of_ble_eq_true rfl) (Nat.le_of_ble_eq_true rfl)
  · cases ho
    exact wq_callVt (As := [.int (wq_I x1)]) (mc := 1) (ms := 6) (n := 7) F K lk_X8_82 (ct_X8_findTable hlt h1r1) ⟨Nat.le_of_ble_eq_true rfl, Nat.le_of_ble_eq_true rfl⟩ ⟨Nat.le_of_ble_eq_true rfl, Nat.le_of_ble_eq_true rfl⟩ (Nat.le_of_ble_eq_true rfl) rfl rfl rfl rfl (Nat.le_of_ble_eq_true rfl) dX8_findColumn_2 htab rfl rfl (Nat.le_of_ble_eq_true rfl) (Nat.le_of_ble_eq_true rfl)
set_option maxHeartbeats 4000000 in
set_option maxRecDepth 100000 in
theorem ct_X8_setIndex {l : Launch} (hlt : l.stackTraces = false) {D : va_G} {Ar : Nat → ClassId} {b : Nat} {x1 : Int} {x2 : Int} {x3 : Int} {S S0 : wq_St} {o0 : Nat} {r0 : Int} (h : f_X8_setIndex x1 x2 x3 S = some (o0, r0, S0)) : wq_Cx l yX8_setIndex (.code yX8_setIndex cX8_setIndex 6 ((Option.some Jvm.ClassFile.FieldType.boolean))) 9 2 12 D Ar (wq_EC Ar b) b 284 [.ref (b + 0), .int (wq_I x1), .int (wq_I x2), .int (wq_I x3)] S o0 (some (.int (wq_I r0))) S0 := by
  refine wq_startx "WharfQuery" [some (.ref (b + 0)), some (.int (wq_I x1)), some (.int (wq_I x2)), some (.int (wq_I x3)), none, none] (by decide +kernel) rfl (Nat.le_of_ble_eq_true rfl) rfl ?_
  intro p e s m args below meth c F K htab
  unfold f_X8_setIndex at h
  refine wq_aload_n F dX8_setIndex_0 rfl rfl rfl ?_
  refine wq_iload_n F dX8_setIndex_1 rfl rfl rfl ?_
  refine wq_iload_n F dX8_setIndex_2 rfl rfl rfl ?_
  rcases wq_bx_some h with ⟨r1, S2, h1r1, h⟩ | ⟨nr1, r1, S2, h1r1, ho⟩
  · refine wq_callVn (As := [.int (wq_I x1), .int (wq_I x2)]) (mc := 2) (ms := 12) (n := 8) F K lk_X8_112 (ct_X8_findColumn hlt h1r1) ⟨Nat.le_of_ble_eq_true rfl, Nat.le_of_ble_eq_true rfl⟩ ⟨Nat.le_of_ble_eq_true rfl, Nat.le_of_ble_eq_true rfl⟩ (Nat.le_of_ble_eq_true rfl) rfl rfl rfl rfl (Nat.le_of_ble_eq_true rfl) dX8_setIndex_3 rfl ?_
    refine wq_astore (L' := [some (.ref (b + 0)), some (.int (wq_I x1)), some (.int (wq_I x2)), some (.int (wq_I x3)), some (.ref (b + r1)), none]) F dX8_setIndex_6 (by decide) rfl rfl rfl ?_
    refine wq_aload F dX8_setIndex_8 rfl rfl ?_
    refine wq_g_X8_116 F (pd_X8_findColumn h1r1) dX8_setIndex_10 rfl ?_
    refine wq_istore (L' := [some (.ref (b + 0)), some (.int (wq_I x1)), some (.int (wq_I x2)), some (.int (wq_I x3)), some (.ref (b + r1)), some (.int (wq_I (S2 r1 0)))]) F dX8_setIndex_13 (by decide) rfl rfl rfl ?_
    refine wq_aload F dX8_setIndex_15 rfl rfl ?_
    refine wq_iload_n F dX8_setIndex_17 rfl rfl rfl ?_
    obtain ⟨hg, h⟩ := wq_gd_some h
    refine wq_p_X8_116 F (pd_X8_findColumn h1r1) hg wq_AbX dX8_setIndex_18 rfl ?_
    obtain ⟨S3, eS3, h⟩ := wq_lt_some h
    refine wq_namS eS3 ?_
    refine wq_iload F dX8_setIndex_21 rfl rfl ?_
    obtain ⟨hg, h⟩ := wq_gd_some h
    cases h
    exact wq_zretx F hg rfl rfl rfl (Nat.le_of_ble_eq_true rfl) (Nat.le_of_ble_eq_true rfl) dX8_setIndex_23
  · cases ho
    exact wq_callVt (As := [.int (wq_I x1), .int (wq_I x2)]) (mc := 2) (ms := 12) (n := 8) F K lk_X8_112 (ct_X8_findColumn hlt h1r1) ⟨Nat.le_of_ble_eq_true rfl, Nat.le_of_ble_eq_true rfl⟩ ⟨Nat.le_of_ble_eq_true rfl, Nat.le_of_ble_eq_true rfl⟩ (Nat.le_of_ble_eq_true rfl) rfl rfl rfl rfl (Nat.le_of_ble_eq_true rfl) dX8_setIndex_3 htab rfl rfl (Nat.le_of_ble_eq_true rfl) (Nat.le_of_ble_eq_true rfl)
set_option maxHeartbeats 4000000 in
set_option maxRecDepth 100000 in
theorem ct_X8_rows {l : Launch} (hlt : l.stackTraces = false) {D : va_G} {Ar : Nat → ClassId} {b : Nat} {x1 : Int} {S S0 : wq_St} {o0 : Nat} {r0 : Int} (h : f_X8_rows x1 S = some (o0, r0, S0)) : wq_Cx l yX8_rows (.code yX8_rows cX8_rows 2 ((Option.some Jvm.ClassFile.FieldType.int))) 8 1 6 D Ar (wq_EC Ar b) b 284 [.ref (b + 0), .int (wq_I x1)] S o0 (some (.int (wq_I r0))) S0 := by
  refine wq_startx "WharfQuery" [some (.ref (b + 0)), some (.int (wq_I x1))] (by decide +kernel) rfl (Nat.le_of_ble_eq_true rfl) rfl ?_
  intro p e s m args below meth c F K htab
  unfold f_X8_rows at h
  refine wq_aload_n F dX8_rows_0 rfl rfl rfl ?_
  refine wq_iload_n F dX8_rows_1 rfl rfl rfl ?_
  rcases wq_bx_some h with ⟨r1, S2, h1r1, h⟩ | ⟨nr1, r1, S2, h1r1, ho⟩
  · refine wq_callVn (As := [.int (wq_I x1)]) (mc := 1) (ms := 6) (n := 7) F K lk_X8_82 (ct_X8_findTable hlt h1r1) ⟨Nat.le_of_ble_eq_true rfl, Nat.le_of_ble_eq_true rfl⟩ ⟨Nat.le_of_ble_eq_true rfl, Nat.le_of_ble_eq_true rfl⟩ (Nat.le_of_ble_eq_true rfl) rfl rfl rfl rfl (Nat.le_of_ble_eq_true rfl) dX8_rows_2 rfl ?_
    refine wq_g_X8_109 F (pd_X8_findTable h1r1) dX8_rows_5 rfl ?_
    cases h
    exact wq_iretx F rfl rfl rfl (Nat.le_of_ble_eq_true rfl) (Nat.le_of_ble_eq_true rfl) dX8_rows_8
  · cases ho
    exact wq_callVt (As := [.int (wq_I x1)]) (mc := 1) (ms := 6) (n := 7) F K lk_X8_82 (ct_X8_findTable hlt h1r1) ⟨Nat.le_of_ble_eq_true rfl, Nat.le_of_ble_eq_true rfl⟩ ⟨Nat.le_of_ble_eq_true rfl, Nat.le_of_ble_eq_true rfl⟩ (Nat.le_of_ble_eq_true rfl) rfl rfl rfl rfl (Nat.le_of_ble_eq_true rfl) dX8_rows_2 htab rfl rfl (Nat.le_of_ble_eq_true rfl) (Nat.le_of_ble_eq_true rfl)
set_option maxHeartbeats 4000000 in
set_option maxRecDepth 100000 in
theorem ct_X8_value {l : Launch} (hlt : l.stackTraces = false) {D : va_G} {Ar : Nat → ClassId} {b : Nat} {x1 : Int} {x2 : Int} {x3 : Int} {S S0 : wq_St} {o0 : Nat} {r0 : Int} (h : f_X8_value x1 x2 x3 S = some (o0, r0, S0)) : wq_Cx l yX8_value (.code yX8_value cX8_value 5 ((Option.some Jvm.ClassFile.FieldType.int))) 8 3 18 D Ar (wq_EC Ar b) b 284 [.ref (b + 0), .int (wq_I x1), .int (wq_I x2), .int (wq_I x3)] S o0 (some (.int (wq_I r0))) S0 := by
  refine wq_startx "WharfQuery" [some (.ref (b + 0)), some (.int (wq_I x1)), some (.int (wq_I x2)), some (.int (wq_I x3)), none] (by decide +kernel) rfl (Nat.le_of_ble_eq_true rfl) rfl ?_
  intro p e s m args below meth c F K htab
  unfold f_X8_value at h
  refine wq_aload_n F dX8_value_0 rfl rfl rfl ?_
  refine wq_iload_n F dX8_value_1 rfl rfl rfl ?_
  rcases wq_bx_some h with ⟨r1, S2, h1r1, h⟩ | ⟨nr1, r1, S2, h1r1, ho⟩
  · refine wq_callVn (As := [.int (wq_I x1)]) (mc := 1) (ms := 6) (n := 7) F K lk_X8_82 (ct_X8_findTable hlt h1r1) ⟨Nat.le_of_ble_eq_true rfl, Nat.le_of_ble_eq_true rfl⟩ ⟨Nat.le_of_ble_eq_true rfl, Nat.le_of_ble_eq_true rfl⟩ (Nat.le_of_ble_eq_true rfl) rfl rfl rfl rfl (Nat.le_of_ble_eq_true rfl) dX8_value_2 rfl ?_
    refine wq_astore (L' := [some (.ref (b + 0)), some (.int (wq_I x1)), some (.int (wq_I x2)), some (.int (wq_I x3)), some (.ref (b + r1))]) F dX8_value_5 (by decide) rfl rfl rfl ?_
    refine wq_aload F dX8_value_7 rfl rfl ?_
    refine wq_iload_n F dX8_value_9 rfl rfl rfl ?_
    rcases wq_bx_some h with ⟨r3, S4, h1r3, h⟩ | ⟨nr3, r3, S4, h1r3, ho⟩
    · refine wq_callSn (As := [.ref (b + r1), .int (wq_I x2)]) (mc := 1) (ms := 6) (n := 7) F K lk_X8_101 (ct_X8_checkRow hlt (pd_X8_findTable h1r1) h1r3) ⟨Nat.le_of_ble_eq_true rfl, Nat.le_of_ble_eq_true rfl⟩ ⟨Nat.le_of_ble_eq_true rfl, Nat.le_of_ble_eq_true rfl⟩ rfl rfl (Nat.le_of_ble_eq_true rfl) dX8_value_10 rfl ?_
      refine wq_aload F dX8_value_13 rfl rfl ?_
      refine wq_iload_n F dX8_value_15 rfl rfl rfl ?_
      rcases wq_bx_some h with ⟨r5, S6, h1r5, h⟩ | ⟨nr5, r5, S6, h1r5, ho⟩
      · refine wq_callSn (As := [.ref (b + r1), .int (wq_I x3)]) (mc := 1) (ms := 6) (n := 7) F K lk_X8_122 (ct_X8_checkColumn hlt (pd_X8_findTable h1r1) h1r5) ⟨Nat.le_of_ble_eq_true rfl, Nat.le_of_ble_eq_true rfl⟩ ⟨Nat.le_of_ble_eq_true rfl, Nat.le_of_ble_eq_true rfl⟩ rfl rfl (Nat.le_of_ble_eq_true rfl) dX8_value_16 rfl ?_
        refine wq_aload F dX8_value_19 rfl rfl ?_
        refine wq_g_X8_125 F (pd_X8_findTable h1r1) dX8_value_21 rfl ?_
        refine wq_iload_n F dX8_value_24 rfl rfl rfl ?_
        obtain ⟨t7, ht7, wt7, h⟩ := wq_ix_some h
        refine wq_aald F (wq_tab_lt2 (pd_X8_findTable h1r1)) (wq_E_vals (pd_X8_findTable h1r1)) rfl rfl ht7 wt7 dX8_value_25 rfl ?_
        refine wq_iload_n F dX8_value_26 rfl rfl rfl ?_
        obtain ⟨t8, ht8, wt8, h⟩ := wq_ix_some h
        refine wq_iald F (wq_row_lt (pd_X8_findTable h1r1) ht7) (wq_E_row (pd_X8_findTable h1r1) ht7) ht8 wt8 dX8_value_27 rfl ?_
        cases h
        exact wq_iretx F rfl rfl rfl (Nat.le_of_ble_eq_true rfl) (Nat.le_of_ble_eq_true rfl) dX8_value_28
      · cases ho
        exact wq_callSt (As := [.ref (b + r1), .int (wq_I x3)]) (mc := 1) (ms := 6) (n := 7) F K lk_X8_122 (ct_X8_checkColumn hlt (pd_X8_findTable h1r1) h1r5) ⟨Nat.le_of_ble_eq_true rfl, Nat.le_of_ble_eq_true rfl⟩ ⟨Nat.le_of_ble_eq_true rfl, Nat.le_of_ble_eq_true rfl⟩ rfl rfl (Nat.le_of_ble_eq_true rfl) dX8_value_16 htab rfl rfl (Nat.le_of_ble_eq_true rfl) (Nat.le_of_ble_eq_true rfl)
    · cases ho
      exact wq_callSt (As := [.ref (b + r1), .int (wq_I x2)]) (mc := 1) (ms := 6) (n := 7) F K lk_X8_101 (ct_X8_checkRow hlt (pd_X8_findTable h1r1) h1r3) ⟨Nat.le_of_ble_eq_true rfl, Nat.le_of_ble_eq_true rfl⟩ ⟨Nat.le_of_ble_eq_true rfl, Nat.le_of_ble_eq_true rfl⟩ rfl rfl (Nat.le_of_ble_eq_true rfl) dX8_value_10 htab rfl rfl (Nat.le_of_ble_eq_true rfl) (Nat.le_of_ble_eq_true rfl)
  · cases ho
    exact wq_callVt (As := [.int (wq_I x1)]) (mc := 1) (ms := 6) (n := 7) F K lk_X8_82 (ct_X8_findTable hlt h1r1) ⟨Nat.le_of_ble_eq_true rfl, Nat.le_of_ble_eq_true rfl⟩ ⟨Nat.le_of_ble_eq_true rfl, Nat.le_of_ble_eq_true rfl⟩ (Nat.le_of_ble_eq_true rfl) rfl rfl rfl rfl (Nat.le_of_ble_eq_true rfl) dX8_value_2 htab rfl rfl (Nat.le_of_ble_eq_true rfl) (Nat.le_of_ble_eq_true rfl)
set_option maxHeartbeats 4000000 in
set_option maxRecDepth 100000 in
theorem ct_X8_checkSampleStep {l : Launch} (hlt : l.stackTraces = false) {D : va_G} {Ar : Nat → ClassId} {b : Nat} {x0 : Int} {S S0 : wq_St} {o0 : Nat} {r0 : Int} (h : f_X8_checkSampleStep x0 S = some (o0, r0, S0)) : wq_Cx l yX8_checkSampleStep (.code yX8_checkSampleStep cX8_checkSampleStep 1 ((Option.none : Option Jvm.ClassFile.FieldType))) 7 1 6 D Ar (wq_EC Ar b) b 284 [.int (wq_I x0)] S o0 none S0 := by
  refine wq_startx "WharfQuery" [some (.int (wq_I x0))] (by decide +kernel) rfl (Nat.le_of_ble_eq_true rfl) rfl ?_
  intro p e s m args below meth c F K htab
  unfold f_X8_checkSampleStep at h
  refine wq_iload_n F dX8_checkSampleStep_0 rfl rfl rfl ?_
  refine wq_iconst (n := 1) F dX8_checkSampleStep_1 rfl ?_
  refine wq_icmp_lt (tgt := 11) F dX8_checkSampleStep_2 (by decide) rfl (fun hc => ?_) (fun hc => ?_)
  · replace h := wq_ift hc h
    cases h
    exact wq_throww (names := ["java/lang/RuntimeException", "java/lang/Exception"]) F K htab hlt rfl (by decide +kernel) (by decide +kernel) aw_466 aw_33 (List.mem_of_getElem? (i := 7) rfl) wq_hat1_67 wq_hat2_67 (by decide +kernel) (Nat.le_of_ble_eq_true rfl) (Nat.le_of_ble_eq_true rfl) (Nat.le_of_ble_eq_true rfl) (Nat.le_of_ble_eq_true rfl) (Nat.le_of_ble_eq_true rfl) (Nat.le_of_ble_eq_true rfl) (by decide) rfl rfl dX8_checkSampleStep_11 dX8_checkSampleStep_14 dX8_checkSampleStep_15 dX8_checkSampleStep_18 dX8_checkSampleStep_21
  · replace h := wq_iff hc h
    refine wq_iload_n F dX8_checkSampleStep_5 rfl rfl rfl ?_
    refine wq_bipush (n := 10) F dX8_checkSampleStep_6 (by decide) rfl ?_
    refine wq_icmp_le (tgt := 22) F dX8_checkSampleStep_8 (by decide) rfl (fun hc => ?_) (fun hc => ?_)
    · replace h := wq_ift hc h
      cases h
      exact wq_vretx F rfl rfl rfl (Nat.le_of_ble_eq_true rfl) (Nat.le_of_ble_eq_true rfl) dX8_checkSampleStep_22
    · replace h := wq_iff hc h
      cases h
      exact wq_throww (names := ["java/lang/RuntimeException", "java/lang/Exception"]) F K htab hlt rfl (by decide +kernel) (by decide +kernel) aw_466 aw_33 (List.mem_of_getElem? (i := 7) rfl) wq_hat1_67 wq_hat2_67 (by decide +kernel) (Nat.le_of_ble_eq_true rfl) (Nat.le_of_ble_eq_true rfl) (Nat.le_of_ble_eq_true rfl) (Nat.le_of_ble_eq_true rfl) (Nat.le_of_ble_eq_true rfl) (Nat.le_of_ble_eq_true rfl) (by decide) rfl rfl dX8_checkSampleStep_11 dX8_checkSampleStep_14 dX8_checkSampleStep_15 dX8_checkSampleStep_18 dX8_checkSampleStep_21
set_option maxHeartbeats 4000000 in
set_option maxRecDepth 100000 in
theorem ct_X8_renew {l : Launch} (hlt : l.stackTraces = false) {D : va_G} {Ar : Nat → ClassId} {b : Nat} {x1 : Int} {x2 : Int} {S S0 : wq_St} {o0 : Nat} {r0 : Int} (h : f_X8_renew x1 x2 S = some (o0, r0, S0)) : wq_Cx l yX8_renew (.code yX8_renew cX8_renew 4 ((Option.some Jvm.ClassFile.FieldType.int))) 8 2 12 D Ar (wq_EC Ar b) b 284 [.ref (b + 0), .int (wq_I x1), .int (wq_I x2)] S o0 (some (.int (wq_I r0))) S0 := by
  refine wq_startx "WharfQuery" [some (.ref (b + 0)), some (.int (wq_I x1)), some (.int (wq_I x2)), none] (by decide +kernel) rfl (Nat.le_of_ble_eq_true rfl) rfl ?_
  intro p e s m args below meth c F K htab
  unfold f_X8_renew at h
  refine wq_aload_n F dX8_renew_0 rfl rfl rfl ?_
  refine wq_iload_n F dX8_renew_1 rfl rfl rfl ?_
  rcases wq_bx_some h with ⟨r1, S2, h1r1, h⟩ | ⟨nr1, r1, S2, h1r1, ho⟩
  · refine wq_callVn (As := [.int (wq_I x1)]) (mc := 1) (ms := 6) (n := 7) F K lk_X8_82 (ct_X8_findTable hlt h1r1) ⟨Nat.le_of_ble_eq_true rfl, Nat.le_of_ble_eq_true rfl⟩ ⟨Nat.le_of_ble_eq_true rfl, Nat.le_of_ble_eq_true rfl⟩ (Nat.le_of_ble_eq_true rfl) rfl rfl rfl rfl (Nat.le_of_ble_eq_true rfl) dX8_renew_2 rfl ?_
    refine wq_astore_n (L' := [some (.ref (b + 0)), some (.int (wq_I x1)), some (.int (wq_I x2)), some (.ref (b + r1))]) F dX8_renew_5 rfl (by decide) rfl rfl rfl ?_
    refine wq_iload_n F dX8_renew_6 rfl rfl rfl ?_
    rcases wq_bx_some h with ⟨r3, S4, h1r3, h⟩ | ⟨nr3, r3, S4, h1r3, ho⟩
    · refine wq_callSn (As := [.int (wq_I x2)]) (mc := 1) (ms := 6) (n := 7) F K lk_X8_129 (ct_X8_checkSampleStep hlt h1r3) ⟨Nat.le_of_ble_eq_true rfl, Nat.le_of_ble_eq_true rfl⟩ ⟨Nat.le_of_ble_eq_true rfl, Nat.le_of_ble_eq_true rfl⟩ rfl rfl (Nat.le_of_ble_eq_true rfl) dX8_renew_7 rfl ?_
      refine wq_aload_n F dX8_renew_10 rfl rfl rfl ?_
      refine wq_iload_n F dX8_renew_11 rfl rfl rfl ?_
      obtain ⟨r5, S6, h1r5, h⟩ := wq_bd_some h
      refine wq_callV (As := [.int (wq_I x2)]) F lk_X8_133 (ct_X7_renewCounts (pd_X8_findTable h1r1) h1r5) ⟨Nat.le_of_ble_eq_true rfl, Nat.le_of_ble_eq_true rfl⟩ ⟨Nat.le_of_ble_eq_true rfl, Nat.le_of_ble_eq_true rfl⟩ (wq_tab_lt (pd_X8_findTable h1r1)) (wq_E_tab (pd_X8_findTable h1r1)) rfl wq_AbX rfl rfl (Nat.le_of_ble_eq_true rfl) dX8_renew_12 rfl ?_
      cases h
      exact wq_iretx F rfl rfl rfl (Nat.le_of_ble_eq_true rfl) (Nat.le_of_ble_eq_true rfl) dX8_renew_15
    · cases ho
      exact wq_callSt (As := [.int (wq_I x2)]) (mc := 1) (ms := 6) (n := 7) F K lk_X8_129 (ct_X8_checkSampleStep hlt h1r3) ⟨Nat.le_of_ble_eq_true rfl, Nat.le_of_ble_eq_true rfl⟩ ⟨Nat.le_of_ble_eq_true rfl, Nat.le_of_ble_eq_true rfl⟩ rfl rfl (Nat.le_of_ble_eq_true rfl) dX8_renew_7 htab rfl rfl (Nat.le_of_ble_eq_true rfl) (Nat.le_of_ble_eq_true rfl)
  · cases ho
    exact wq_callVt (As := [.int (wq_I x1)]) (mc := 1) (ms := 6) (n := 7) F K lk_X8_82 (ct_X8_findTable hlt h1r1) ⟨Nat.le_of_ble_eq_true rfl, Nat.le_of_ble_eq_true rfl⟩ ⟨Nat.le_of_ble_eq_true rfl, Nat.le_of_ble_eq_true rfl⟩ (Nat.le_of_ble_eq_true rfl) rfl rfl rfl rfl (Nat.le_of_ble_eq_true rfl) dX8_renew_2 htab rfl rfl (Nat.le_of_ble_eq_true rfl) (Nat.le_of_ble_eq_true rfl)
set_option maxHeartbeats 4000000 in
set_option maxRecDepth 100000 in
theorem ct_X8_setStep {l : Launch} (hlt : l.stackTraces = false) {D : va_G} {Ar : Nat → ClassId} {b : Nat} {x1 : Int} {S S0 : wq_St} {o0 : Nat} {r0 : Int} (h : f_X8_setStep x1 S = some (o0, r0, S0)) : wq_Cx l yX8_setStep (.code yX8_setStep cX8_setStep 3 ((Option.some Jvm.ClassFile.FieldType.int))) 8 1 6 D Ar (wq_EC Ar b) b 284 [.ref (b + 0), .int (wq_I x1)] S o0 (some (.int (wq_I r0))) S0 := by
  refine wq_startx "WharfQuery" [some (.ref (b + 0)), some (.int (wq_I x1)), none] (by decide +kernel) rfl (Nat.le_of_ble_eq_true rfl) rfl ?_
  intro p e s m args below meth c F K htab
  unfold f_X8_setStep at h
  refine wq_iload_n F dX8_setStep_0 rfl rfl rfl ?_
  rcases wq_bx_some h with ⟨r1, S2, h1r1, h⟩ | ⟨nr1, r1, S2, h1r1, ho⟩
  · refine wq_callSn (As := [.int (wq_I x1)]) (mc := 1) (ms := 6) (n := 7) F K lk_X8_129 (ct_X8_checkSampleStep hlt h1r1) ⟨Nat.le_of_ble_eq_true rfl, Nat.le_of_ble_eq_true rfl⟩ ⟨Nat.le_of_ble_eq_true rfl, Nat.le_of_ble_eq_true rfl⟩ rfl rfl (Nat.le_of_ble_eq_true rfl) dX8_setStep_1 rfl ?_
    refine wq_aload_n F dX8_setStep_4 rfl rfl rfl ?_
    refine wq_g_X8_53 F dX8_setStep_5 rfl ?_
    refine wq_g_X8_137 F dX8_setStep_8 rfl ?_
    refine wq_istore_n (L' := [some (.ref (b + 0)), some (.int (wq_I x1)), some (.int (wq_I (S2 282 5)))]) F dX8_setStep_11 rfl (by decide) rfl rfl rfl ?_
    refine wq_aload_n F dX8_setStep_12 rfl rfl rfl ?_
    refine wq_g_X8_53 F dX8_setStep_13 rfl ?_
    refine wq_iload_n F dX8_setStep_16 rfl rfl rfl ?_
    refine wq_p_X8_137 F wq_AbX dX8_setStep_17 rfl ?_
    obtain ⟨S3, eS3, h⟩ := wq_lt_some h
    refine wq_namS eS3 ?_
    refine wq_iload_n F dX8_setStep_20 rfl rfl rfl ?_
    cases h
    exact wq_iretx F rfl rfl rfl (Nat.le_of_ble_eq_true rfl) (Nat.le_of_ble_eq_true rfl) dX8_setStep_21
  · cases ho
    exact wq_callSt (As := [.int (wq_I x1)]) (mc := 1) (ms := 6) (n := 7) F K lk_X8_129 (ct_X8_checkSampleStep hlt h1r1) ⟨Nat.le_of_ble_eq_true rfl, Nat.le_of_ble_eq_true rfl⟩ ⟨Nat.le_of_ble_eq_true rfl, Nat.le_of_ble_eq_true rfl⟩ rfl rfl (Nat.le_of_ble_eq_true rfl) dX8_setStep_1 htab rfl rfl (Nat.le_of_ble_eq_true rfl) (Nat.le_of_ble_eq_true rfl)
set_option maxHeartbeats 4000000 in
set_option maxRecDepth 100000 in
theorem ct_X8_toldRows {l : Launch} (hlt : l.stackTraces = false) {D : va_G} {Ar : Nat → ClassId} {b : Nat} {x1 : Int} {S S0 : wq_St} {o0 : Nat} {r0 : Int} (h : f_X8_toldRows x1 S = some (o0, r0, S0)) : wq_Cx l yX8_toldRows (.code yX8_toldRows cX8_toldRows 2 ((Option.some Jvm.ClassFile.FieldType.int))) 8 1 6 D Ar (wq_EC Ar b) b 284 [.ref (b + 0), .int (wq_I x1)] S o0 (some (.int (wq_I r0))) S0 := by
  refine wq_startx "WharfQuery" [some (.ref (b + 0)), some (.int (wq_I x1))] (by decide +kernel) rfl (Nat.le_of_ble_eq_true rfl) rfl ?_
  intro p e s m args below meth c F K htab
  unfold f_X8_toldRows at h
  refine wq_aload_n F dX8_toldRows_0 rfl rfl rfl ?_
  refine wq_iload_n F dX8_toldRows_1 rfl rfl rfl ?_
  rcases wq_bx_some h with ⟨r1, S2, h1r1, h⟩ | ⟨nr1, r1, S2, h1r1, ho⟩
  · refine wq_callVn (As := [.int (wq_I x1)]) (mc := 1) (ms := 6) (n := 7) F K lk_X8_82 (ct_X8_findTable hlt h1r1) ⟨Nat.le_of_ble_eq_true rfl, Nat.le_of_ble_eq_true rfl⟩ ⟨Nat.le_of_ble_eq_true rfl, Nat.le_of_ble_eq_true rfl⟩ (Nat.le_of_ble_eq_true rfl) rfl rfl rfl rfl (Nat.le_of_ble_eq_true rfl) dX8_toldRows_2 rfl ?_
    refine wq_g_X8_140 F (pd_X8_findTable h1r1) dX8_toldRows_5 rfl ?_
    cases h
    exact wq_iretx F rfl rfl rfl (Nat.le_of_ble_eq_true rfl) (Nat.le_of_ble_eq_true rfl) dX8_toldRows_8
  · cases ho
    exact wq_callVt (As := [.int (wq_I x1)]) (mc := 1) (ms := 6) (n := 7) F K lk_X8_82 (ct_X8_findTable hlt h1r1) ⟨Nat.le_of_ble_eq_true rfl, Nat.le_of_ble_eq_true rfl⟩ ⟨Nat.le_of_ble_eq_true rfl, Nat.le_of_ble_eq_true rfl⟩ (Nat.le_of_ble_eq_true rfl) rfl rfl rfl rfl (Nat.le_of_ble_eq_true rfl) dX8_toldRows_2 htab rfl rfl (Nat.le_of_ble_eq_true rfl) (Nat.le_of_ble_eq_true rfl)
set_option maxHeartbeats 4000000 in
set_option maxRecDepth 100000 in
theorem ct_X8_unlike {l : Launch} (hlt : l.stackTraces = false) {D : va_G} {Ar : Nat → ClassId} {b : Nat} {x1 : Int} {x2 : Int} {S S0 : wq_St} {o0 : Nat} {r0 : Int} (h : f_X8_unlike x1 x2 S = some (o0, r0, S0)) : wq_Cx l yX8_unlike (.code yX8_unlike cX8_unlike 3 ((Option.some Jvm.ClassFile.FieldType.int))) 9 2 12 D Ar (wq_EC Ar b) b 284 [.ref (b + 0), .int (wq_I x1), .int (wq_I x2)] S o0 (some (.int (wq_I r0))) S0 := by
  refine wq_startx "WharfQuery" [some (.ref (b + 0)), some (.int (wq_I x1)), some (.int (wq_I x2))] (by decide +kernel) rfl (Nat.le_of_ble_eq_true rfl) rfl ?_
  intro p e s m args below meth c F K htab
  unfold f_X8_unlike at h
  refine wq_aload_n F dX8_unlike_0 rfl rfl rfl ?_
  refine wq_iload_n F dX8_unlike_1 rfl rfl rfl ?_
  refine wq_iload_n F dX8_unlike_2 rfl rfl rfl ?_
  rcases wq_bx_some h with ⟨r1, S2, h1r1, h⟩ | ⟨nr1, r1, S2, h1r1, ho⟩
  · refine wq_callVn (As := [.int (wq_I x1), .int (wq_I x2)]) (mc := 2) (ms := 12) (n := 8) F K lk_X8_112 (ct_X8_findColumn hlt h1r1) ⟨Nat.le_of_ble_eq_true rfl, Nat.le_of_ble_eq_true rfl⟩ ⟨Nat.le_of_ble_eq_true rfl, Nat.le_of_ble_eq_true rfl⟩ (Nat.le_of_ble_eq_true rfl) rfl rfl rfl rfl (Nat.le_of_ble_eq_true rfl) dX8_unlike_3 rfl ?_
    refine wq_g_X8_143 F (pd_X8_findColumn h1r1) dX8_unlike_6 rfl ?_
    cases h
    exact wq_iretx F rfl rfl rfl (Nat.le_of_ble_eq_true rfl) (Nat.le_of_ble_eq_true rfl) dX8_unlike_9
  · cases ho
    exact wq_callVt (As := [.int (wq_I x1), .int (wq_I x2)]) (mc := 2) (ms := 12) (n := 8) F K lk_X8_112 (ct_X8_findColumn hlt h1r1) ⟨Nat.le_of_ble_eq_true rfl, Nat.le_of_ble_eq_true rfl⟩ ⟨Nat.le_of_ble_eq_true rfl, Nat.le_of_ble_eq_true rfl⟩ (Nat.le_of_ble_eq_true rfl) rfl rfl rfl rfl (Nat.le_of_ble_eq_true rfl) dX8_unlike_3 htab rfl rfl (Nat.le_of_ble_eq_true rfl) (Nat.le_of_ble_eq_true rfl)
set_option maxHeartbeats 4000000 in
set_option maxRecDepth 100000 in
theorem ct_X8_least {l : Launch} (hlt : l.stackTraces = false) {D : va_G} {Ar : Nat → ClassId} {b : Nat} {x1 : Int} {x2 : Int} {S S0 : wq_St} {o0 : Nat} {r0 : Int} (h : f_X8_least x1 x2 S = some (o0, r0, S0)) : wq_Cx l yX8_least (.code yX8_least cX8_least 3 ((Option.some Jvm.ClassFile.FieldType.int))) 9 2 12 D Ar (wq_EC Ar b) b 284 [.ref (b + 0), .int (wq_I x1), .int (wq_I x2)] S o0 (some (.int (wq_I r0))) S0 := by
  refine wq_startx "WharfQuery" [some (.ref (b + 0)), some (.int (wq_I x1)), some (.int (wq_I x2))] (by decide +kernel) rfl (Nat.le_of_ble_eq_true rfl) rfl ?_
  intro p e s m args below meth c F K htab
  unfold f_X8_least at h
  refine wq_aload_n F dX8_least_0 rfl rfl rfl ?_
  refine wq_iload_n F dX8_least_1 rfl rfl rfl ?_
  refine wq_iload_n F dX8_least_2 rfl rfl rfl ?_
  rcases wq_bx_some h with ⟨r1, S2, h1r1, h⟩ | ⟨nr1, r1, S2, h1r1, ho⟩
  · refine wq_callVn (As := [.int (wq_I x1), .int (wq_I x2)]) (mc := 2) (ms := 12) (n := 8) F K lk_X8_112 (ct_X8_findColumn hlt h1r1) ⟨Nat.le_of_ble_eq_true rfl, Nat.le_of_ble_eq_true rfl⟩ ⟨Nat.le_of_ble_eq_true rfl, Nat.le_of_ble_eq_true rfl⟩ (Nat.le_of_ble_eq_true rfl) rfl rfl rfl rfl (Nat.le_of_ble_eq_true rfl) dX8_least_3 rfl ?_
    refine wq_g_X8_146 F (pd_X8_findColumn h1r1) dX8_least_6 rfl ?_
    cases h
    exact wq_iretx F rfl rfl rfl (Nat.le_of_ble_eq_true rfl) (Nat.le_of_ble_eq_true rfl) dX8_least_9
  · cases ho
    exact wq_callVt (As := [.int (wq_I x1), .int (wq_I x2)]) (mc := 2) (ms := 12) (n := 8) F K lk_X8_112 (ct_X8_findColumn hlt h1r1) ⟨Nat.le_of_ble_eq_true rfl, Nat.le_of_ble_eq_true rfl⟩ ⟨Nat.le_of_ble_eq_true rfl, Nat.le_of_ble_eq_true rfl⟩ (Nat.le_of_ble_eq_true rfl) rfl rfl rfl rfl (Nat.le_of_ble_eq_true rfl) dX8_least_3 htab rfl rfl (Nat.le_of_ble_eq_true rfl) (Nat.le_of_ble_eq_true rfl)
set_option maxHeartbeats 4000000 in
set_option maxRecDepth 100000 in
theorem ct_X8_greatest {l : Launch} (hlt : l.stackTraces = false) {D : va_G} {Ar : Nat → ClassId} {b : Nat} {x1 : Int} {x2 : Int} {S S0 : wq_St} {o0 : Nat} {r0 : Int} (h : f_X8_greatest x1 x2 S = some (o0, r0, S0)) : wq_Cx l yX8_greatest (.code yX8_greatest cX8_greatest 3 ((Option.some Jvm.ClassFile.FieldType.int))) 9 2 12 D Ar (wq_EC Ar b) b 284 [.ref (b + 0), .int (wq_I x1), .int (wq_I x2)] S o0 (some (.int (wq_I r0))) S0 := by
  refine wq_startx "WharfQuery" [some (.ref (b + 0)), some (.int (wq_I x1)), some (.int (wq_I x2))] (by decide +kernel) rfl (Nat.le_of_ble_eq_true rfl) rfl ?_
  intro p e s m args below meth c F K htab
  unfold f_X8_greatest at h
  refine wq_aload_n F dX8_greatest_0 rfl rfl rfl ?_
  refine wq_iload_n F dX8_greatest_1 rfl rfl rfl ?_
  refine wq_iload_n F dX8_greatest_2 rfl rfl rfl ?_
  rcases wq_bx_some h with ⟨r1, S2, h1r1, h⟩ | ⟨nr1, r1, S2, h1r1, ho⟩
  · refine wq_callVn (As := [.int (wq_I x1), .int (wq_I x2)]) (mc := 2) (ms := 12) (n := 8) F K lk_X8_112 (ct_X8_findColumn hlt h1r1) ⟨Nat.le_of_ble_eq_true rfl, Nat.le_of_ble_eq_true rfl⟩ ⟨Nat.le_of_ble_eq_true rfl, Nat.le_of_ble_eq_true rfl⟩ (Nat.le_of_ble_eq_true rfl) rfl rfl rfl rfl (Nat.le_of_ble_eq_true rfl) dX8_greatest_3 rfl ?_
    refine wq_g_X8_149 F (pd_X8_findColumn h1r1) dX8_greatest_6 rfl ?_
    cases h
    exact wq_iretx F rfl rfl rfl (Nat.le_of_ble_eq_true rfl) (Nat.le_of_ble_eq_true rfl) dX8_greatest_9
  · cases ho
    exact wq_callVt (As := [.int (wq_I x1), .int (wq_I x2)]) (mc := 2) (ms := 12) (n := 8) F K lk_X8_112 (ct_X8_findColumn hlt h1r1) ⟨Nat.le_of_ble_eq_true rfl, Nat.le_of_ble_eq_true rfl⟩ ⟨Nat.le_of_ble_eq_true rfl, Nat.le_of_ble_eq_true rfl⟩ (Nat.le_of_ble_eq_true rfl) rfl rfl rfl rfl (Nat.le_of_ble_eq_true rfl) dX8_greatest_3 htab rfl rfl (Nat.le_of_ble_eq_true rfl) (Nat.le_of_ble_eq_true rfl)
set_option maxHeartbeats 4000000 in
set_option maxRecDepth 100000 in
theorem ct_X8_isMarked {l : Launch} (hlt : l.stackTraces = false) {D : va_G} {Ar : Nat → ClassId} {b : Nat} {x1 : Int} {S S0 : wq_St} {o0 : Nat} {r0 : Int} (h : f_X8_isMarked x1 S = some (o0, r0, S0)) : wq_Cx l yX8_isMarked (.code yX8_isMarked cX8_isMarked 2 ((Option.some Jvm.ClassFile.FieldType.boolean))) 8 1 6 D Ar (wq_EC Ar b) b 284 [.ref (b + 0), .int (wq_I x1)] S o0 (some (.int (wq_I r0))) S0 := by
  refine wq_startx "WharfQuery" [some (.ref (b + 0)), some (.int (wq_I x1))] (by decide +kernel) rfl (Nat.le_of_ble_eq_true rfl) rfl ?_
  intro p e s m args below meth c F K htab
  unfold f_X8_isMarked at h
  refine wq_aload_n F dX8_isMarked_0 rfl rfl rfl ?_
  refine wq_iload_n F dX8_isMarked_1 rfl rfl rfl ?_
  rcases wq_bx_some h with ⟨r1, S2, h1r1, h⟩ | ⟨nr1, r1, S2, h1r1, ho⟩
  · refine wq_callVn (As := [.int (wq_I x1)]) (mc := 1) (ms := 6) (n := 7) F K lk_X8_82 (ct_X8_findTable hlt h1r1) ⟨Nat.le_of_ble_eq_true rfl, Nat.le_of_ble_eq_true rfl⟩ ⟨Nat.le_of_ble_eq_true rfl, Nat.le_of_ble_eq_true rfl⟩ (Nat.le_of_ble_eq_true rfl) rfl rfl rfl rfl (Nat.le_of_ble_eq_true rfl) dX8_isMarked_2 rfl ?_
    refine wq_g_X8_152 F (pd_X8_findTable h1r1) dX8_isMarked_5 rfl ?_
    obtain ⟨hg, h⟩ := wq_gd_some h
    cases h
    exact wq_zretx F hg rfl rfl rfl (Nat.le_of_ble_eq_true rfl) (Nat.le_of_ble_eq_true rfl) dX8_isMarked_8
  · cases ho
    exact wq_callVt (As := [.int (wq_I x1)]) (mc := 1) (ms := 6) (n := 7) F K lk_X8_82 (ct_X8_findTable hlt h1r1) ⟨Nat.le_of_ble_eq_true rfl, Nat.le_of_ble_eq_true rfl⟩ ⟨Nat.le_of_ble_eq_true rfl, Nat.le_of_ble_eq_true rfl⟩ (Nat.le_of_ble_eq_true rfl) rfl rfl rfl rfl (Nat.le_of_ble_eq_true rfl) dX8_isMarked_2 htab rfl rfl (Nat.le_of_ble_eq_true rfl) (Nat.le_of_ble_eq_true rfl)
set_option maxHeartbeats 4000000 in
set_option maxRecDepth 100000 in
theorem ct_X8_addReport {l : Launch} (hlt : l.stackTraces = false) {D : va_G} {Ar : Nat → ClassId} {b : Nat} {x1 : Int} {S S0 : wq_St} {o0 : Nat} {r0 : Int} (h : f_X8_addReport x1 S = some (o0, r0, S0)) : wq_Cx l yX8_addReport (.code yX8_addReport cX8_addReport 2 ((Option.some Jvm.ClassFile.FieldType.int))) 7 1 6 D Ar (wq_EC Ar b) b 284 [.ref (b + 0), .int (wq_I x1)] S o0 (some (.int (wq_I r0))) S0 := by
  refine wq_startx "WharfQuery" [some (.ref (b + 0)), some (.int (wq_I x1))] (by decide +kernel) rfl (Nat.le_of_ble_eq_true rfl) rfl ?_
  intro p e s m args below meth c F K htab
  unfold f_X8_addReport at h
  refine wq_iload_n F dX8_addReport_0 rfl rfl rfl ?_
  refine wq_if_lt (tgt := 11) F dX8_addReport_1 (by decide) rfl (fun hc => ?_) (fun hc => ?_)
  · replace h := wq_ift hc h
    cases h
    exact wq_throw (names := ["java/lang/RuntimeException", "java/lang/Exception"]) F K htab hlt rfl (by decide +kernel) (by decide +kernel) aw_466 aw_33 (List.mem_of_getElem? (i := 5) rfl) wq_hat1_67 wq_hat2_67 (by decide +kernel) (Nat.le_of_ble_eq_true rfl) (Nat.le_of_ble_eq_true rfl) (Nat.le_of_ble_eq_true rfl) (Nat.le_of_ble_eq_true rfl) (Nat.le_of_ble_eq_true rfl) (Nat.le_of_ble_eq_true rfl) (by decide) rfl rfl dX8_addReport_11 dX8_addReport_14 dX8_addReport_15 dX8_addReport_17 dX8_addReport_20
  · replace h := wq_iff hc h
    refine wq_iload_n F dX8_addReport_4 rfl rfl rfl ?_
    refine wq_sipush (n := 1000) F dX8_addReport_5 (by decide) rfl ?_
    refine wq_icmp_le (tgt := 21) F dX8_addReport_8 (by decide) rfl (fun hc => ?_) (fun hc => ?_)
    · replace h := wq_ift hc h
      refine wq_aload_n F dX8_addReport_21 rfl rfl rfl ?_
      refine wq_g_X8_157 F dX8_addReport_22 rfl ?_
      refine wq_bipush (n := 8) F dX8_addReport_25 (by decide) rfl ?_
      refine wq_icmp_lt (tgt := 40) F dX8_addReport_27 (by decide) rfl (fun hc => ?_) (fun hc => ?_)
      · replace h := wq_ift hc h
        refine wq_aload_n F dX8_addReport_40 rfl rfl rfl ?_
        refine wq_g_X8_36 F dX8_addReport_41 rfl ?_
        refine wq_aload_n F dX8_addReport_44 rfl rfl rfl ?_
        refine wq_g_X8_157 F dX8_addReport_45 rfl ?_
        obtain ⟨t1, ht1, wt1, h⟩ := wq_ix_some h
        refine wq_aald F (Nat.le_of_ble_eq_true rfl) wq_E_reps rfl rfl ht1 wt1 dX8_addReport_48 rfl ?_
        refine wq_iload_n F dX8_addReport_49 rfl rfl rfl ?_
        refine wq_p_X8_162 F (wq_rep_i ht1) wq_AbX dX8_addReport_50 rfl ?_
        obtain ⟨S2, eS2, h⟩ := wq_lt_some h
        refine wq_namS eS2 ?_
        refine wq_aload_n F dX8_addReport_53 rfl rfl rfl ?_
        refine wq_dup1 F rfl dX8_addReport_54 rfl ?_
        refine wq_g_X8_157 F dX8_addReport_55 rfl ?_
        refine wq_iconst (n := 1) F dX8_addReport_58 rfl ?_
        refine wq_iadd F dX8_addReport_59 rfl ?_
        refine wq_p_X8_157 F wq_AbX dX8_addReport_60 rfl ?_
        obtain ⟨S3, eS3, h⟩ := wq_lt_some h
        refine wq_namS eS3 ?_
        refine wq_aload_n F dX8_addReport_63 rfl rfl rfl ?_
        refine wq_g_X8_157 F dX8_addReport_64 rfl ?_
        refine wq_iconst (n := 1) F dX8_addReport_67 rfl ?_
        refine wq_isub F dX8_addReport_68 rfl ?_
        cases h
        exact wq_iretx F rfl rfl rfl (Nat.le_of_ble_eq_true rfl) (Nat.le_of_ble_eq_true rfl) dX8_addReport_69
      · replace h := wq_iff hc h
        cases h
        exact wq_throw (names := ["java/lang/RuntimeException", "java/lang/Exception"]) F K htab hlt rfl (by decide +kernel) (by decide +kernel) aw_482 aw_34 (List.mem_of_getElem? (i := 6) rfl) wq_hat1_78 wq_hat2_78 (by decide +kernel) (Nat.le_of_ble_eq_true rfl) (Nat.le_of_ble_eq_true rfl) (Nat.le_of_ble_eq_true rfl) (Nat.le_of_ble_eq_true rfl) (Nat.le_of_ble_eq_true rfl) (Nat.le_of_ble_eq_true rfl) (by decide) rfl rfl dX8_addReport_30 dX8_addReport_33 dX8_addReport_34 dX8_addReport_36 dX8_addReport_39
    · replace h := wq_iff hc h
      cases h
      exact wq_throw (names := ["java/lang/RuntimeException", "java/lang/Exception"]) F K htab hlt rfl (by decide +kernel) (by decide +kernel) aw_466 aw_33 (List.mem_of_getElem? (i := 5) rfl) wq_hat1_67 wq_hat2_67 (by decide +kernel) (Nat.le_of_ble_eq_true rfl) (Nat.le_of_ble_eq_true rfl) (Nat.le_of_ble_eq_true rfl) (Nat.le_of_ble_eq_true rfl) (Nat.le_of_ble_eq_true rfl) (Nat.le_of_ble_eq_true rfl) (by decide) rfl rfl dX8_addReport_11 dX8_addReport_14 dX8_addReport_15 dX8_addReport_17 dX8_addReport_20
set_option maxHeartbeats 4000000 in
set_option maxRecDepth 100000 in
theorem ct_X8_findReport {l : Launch} (hlt : l.stackTraces = false) {D : va_G} {Ar : Nat → ClassId} {b : Nat} {x1 : Int} {S S0 : wq_St} {o0 : Nat} {r0 : Nat} (h : f_X8_findReport x1 S = some (o0, r0, S0)) : wq_Cx l yX8_findReport (.code yX8_findReport cX8_findReport 2 ((Option.some (Jvm.ClassFile.FieldType.object "WharfQuery$Report")))) 7 1 6 D Ar (wq_EC Ar b) b 284 [.ref (b + 0), .int (wq_I x1)] S o0 (some (.ref (b + r0))) S0 := by
  refine wq_startx "WharfQuery" [some (.ref (b + 0)), some (.int (wq_I x1))] (by decide +kernel) rfl (Nat.le_of_ble_eq_true rfl) rfl ?_
  intro p e s m args below meth c F K htab
  unfold f_X8_findReport at h
  refine wq_iload_n F dX8_findReport_0 rfl rfl rfl ?_
  refine wq_if_lt (tgt := 12) F dX8_findReport_1 (by decide) rfl (fun hc => ?_) (fun hc => ?_)
  · replace h := wq_ift hc h
    cases h
    exact wq_throww (names := ["java/lang/RuntimeException", "java/lang/Exception"]) F K htab hlt rfl (by decide +kernel) (by decide +kernel) aw_394 aw_36 (List.mem_of_getElem? (i := 10) rfl) wq_hat1_290 wq_hat2_290 (by decide +kernel) (Nat.le_of_ble_eq_true rfl) (Nat.le_of_ble_eq_true rfl) (Nat.le_of_ble_eq_true rfl) (Nat.le_of_ble_eq_true rfl) (Nat.le_of_ble_eq_true rfl) (Nat.le_of_ble_eq_true rfl) (by decide) rfl rfl dX8_findReport_12 dX8_findReport_15 dX8_findReport_16 dX8_findReport_19 dX8_findReport_22
  · replace h := wq_iff hc h
    refine wq_iload_n F dX8_findReport_4 rfl rfl rfl ?_
    refine wq_aload_n F dX8_findReport_5 rfl rfl rfl ?_
    refine wq_g_X8_157 F dX8_findReport_6 rfl ?_
    refine wq_icmp_lt (tgt := 23) F dX8_findReport_9 (by decide) rfl (fun hc => ?_) (fun hc => ?_)
    · replace h := wq_ift hc h
      refine wq_aload_n F dX8_findReport_23 rfl rfl rfl ?_
      refine wq_g_X8_36 F dX8_findReport_24 rfl ?_
      refine wq_iload_n F dX8_findReport_27 rfl rfl rfl ?_
      obtain ⟨t1, ht1, wt1, h⟩ := wq_ix_some h
      refine wq_aald F (Nat.le_of_ble_eq_true rfl) wq_E_reps rfl rfl ht1 wt1 dX8_findReport_28 rfl ?_
      cases h
      exact wq_aretx F (Or.inl ⟨_, rfl⟩) rfl rfl rfl (Nat.le_of_ble_eq_true rfl) (Nat.le_of_ble_eq_true rfl) dX8_findReport_29
    · replace h := wq_iff hc h
      cases h
      exact wq_throww (names := ["java/lang/RuntimeException", "java/lang/Exception"]) F K htab hlt rfl (by decide +kernel) (by decide +kernel) aw_394 aw_36 (List.mem_of_getElem? (i := 10) rfl) wq_hat1_290 wq_hat2_290 (by decide +kernel) (Nat.le_of_ble_eq_true rfl) (Nat.le_of_ble_eq_true rfl) (Nat.le_of_ble_eq_true rfl) (Nat.le_of_ble_eq_true rfl) (Nat.le_of_ble_eq_true rfl) (Nat.le_of_ble_eq_true rfl) (by decide) rfl rfl dX8_findReport_12 dX8_findReport_15 dX8_findReport_16 dX8_findReport_19 dX8_findReport_22
set_option maxHeartbeats 4000000 in
set_option maxRecDepth 100000 in
theorem ct_X8_addSource {l : Launch} (hlt : l.stackTraces = false) {D : va_G} {Ar : Nat → ClassId} {b : Nat} {x1 : Int} {x2 : Int} {S S0 : wq_St} {o0 : Nat} {r0 : Int} (h : f_X8_addSource x1 x2 S = some (o0, r0, S0)) : wq_Cx l yX8_addSource (.code yX8_addSource cX8_addSource 4 ((Option.some Jvm.ClassFile.FieldType.int))) 8 3 18 D Ar (wq_EC Ar b) b 284 [.ref (b + 0), .int (wq_I x1), .int (wq_I x2)] S o0 (some (.int (wq_I r0))) S0 := by
  refine wq_startx "WharfQuery" [some (.ref (b + 0)), some (.int (wq_I x1)), some (.int (wq_I x2)), none] (by decide +kernel) rfl (Nat.le_of_ble_eq_true rfl) rfl ?_
  intro p e s m args below meth c F K htab
  unfold f_X8_addSource at h
  refine wq_aload_n F dX8_addSource_0 rfl rfl rfl ?_
  refine wq_iload_n F dX8_addSource_1 rfl rfl rfl ?_
  rcases wq_bx_some h with ⟨r1, S2, h1r1, h⟩ | ⟨nr1, r1, S2, h1r1, ho⟩
  · refine wq_callVn (As := [.int (wq_I x1)]) (mc := 1) (ms := 6) (n := 7) F K lk_X8_165 (ct_X8_findReport hlt h1r1) ⟨Nat.le_of_ble_eq_true rfl, Nat.le_of_ble_eq_true rfl⟩ ⟨Nat.le_of_ble_eq_true rfl, Nat.le_of_ble_eq_true rfl⟩ (Nat.le_of_ble_eq_true rfl) rfl rfl rfl rfl (Nat.le_of_ble_eq_true rfl) dX8_addSource_2 rfl ?_
    refine wq_astore_n (L' := [some (.ref (b + 0)), some (.int (wq_I x1)), some (.int (wq_I x2)), some (.ref (b + r1))]) F dX8_addSource_5 rfl (by decide) rfl rfl rfl ?_
    refine wq_aload_n F dX8_addSource_6 rfl rfl rfl ?_
    refine wq_iload_n F dX8_addSource_7 rfl rfl rfl ?_
    rcases wq_bx_some h with ⟨r3, S4, h1r3, h⟩ | ⟨nr3, r3, S4, h1r3, ho⟩
    · refine wq_callVn (As := [.int (wq_I x2)]) (mc := 1) (ms := 6) (n := 7) F K lk_X8_82 (ct_X8_findTable hlt h1r3) ⟨Nat.le_of_ble_eq_true rfl, Nat.le_of_ble_eq_true rfl⟩ ⟨Nat.le_of_ble_eq_true rfl, Nat.le_of_ble_eq_true rfl⟩ (Nat.le_of_ble_eq_true rfl) rfl rfl rfl rfl (Nat.le_of_ble_eq_true rfl) dX8_addSource_8 rfl ?_
      refine wq_pop1 F rfl dX8_addSource_11 rfl ?_
      refine wq_aload_n F dX8_addSource_12 rfl rfl rfl ?_
      refine wq_g_X8_169 F (pd_X8_findReport h1r1) dX8_addSource_13 rfl ?_
      refine wq_iconst (n := 3) F dX8_addSource_16 rfl ?_
      refine wq_icmp_lt (tgt := 30) F dX8_addSource_17 (by decide) rfl (fun hc => ?_) (fun hc => ?_)
      · replace h := wq_ift hc h
        refine wq_aload_n F dX8_addSource_30 rfl rfl rfl ?_
        refine wq_g_X8_174 F (pd_X8_findReport h1r1) dX8_addSource_31 rfl ?_
        refine wq_aload_n F dX8_addSource_34 rfl rfl rfl ?_
        refine wq_g_X8_169 F (pd_X8_findReport h1r1) dX8_addSource_35 rfl ?_
        refine wq_iload_n F dX8_addSource_38 rfl rfl rfl ?_
        obtain ⟨t5, ht5, wt5, h⟩ := wq_ix_some h
        refine wq_iast F (wq_rep_lt1 (pd_X8_findReport h1r1)) (wq_E_srcs (pd_X8_findReport h1r1)) (wq_E_srcs (pd_X8_findReport h1r1)) ht5 wt5 (Or.inl ⟨Nat.le_add_right _ _, Nat.add_lt_add_left (wq_rep_lt1 (pd_X8_findReport h1r1)) b⟩) dX8_addSource_39 rfl ?_
        obtain ⟨S6, eS6, h⟩ := wq_lt_some h
        refine wq_namS eS6 ?_
        refine wq_aload_n F dX8_addSource_40 rfl rfl rfl ?_
        refine wq_dup1 F rfl dX8_addSource_41 rfl ?_
        refine wq_g_X8_169 F (pd_X8_findReport h1r1) dX8_addSource_42 rfl ?_
        refine wq_iconst (n := 1) F dX8_addSource_45 rfl ?_
        refine wq_iadd F dX8_addSource_46 rfl ?_
        refine wq_p_X8_169 F (pd_X8_findReport h1r1) wq_AbX dX8_addSource_47 rfl ?_
        obtain ⟨S7, eS7, h⟩ := wq_lt_some h
        refine wq_namS eS7 ?_
        refine wq_aload_n F dX8_addSource_50 rfl rfl rfl ?_
        refine wq_g_X8_169 F (pd_X8_findReport h1r1) dX8_addSource_51 rfl ?_
        refine wq_iconst (n := 1) F dX8_addSource_54 rfl ?_
        refine wq_isub F dX8_addSource_55 rfl ?_
        cases h
        exact wq_iretx F rfl rfl rfl (Nat.le_of_ble_eq_true rfl) (Nat.le_of_ble_eq_true rfl) dX8_addSource_56
      · replace h := wq_iff hc h
        cases h
        exact wq_throw (names := ["java/lang/RuntimeException", "java/lang/Exception"]) F K htab hlt rfl (by decide +kernel) (by decide +kernel) aw_482 aw_34 (List.mem_of_getElem? (i := 13) rfl) wq_hat1_78 wq_hat2_78 (by decide +kernel) (Nat.le_of_ble_eq_true rfl) (Nat.le_of_ble_eq_true rfl) (Nat.le_of_ble_eq_true rfl) (Nat.le_of_ble_eq_true rfl) (Nat.le_of_ble_eq_true rfl) (Nat.le_of_ble_eq_true rfl) (by decide) rfl rfl dX8_addSource_20 dX8_addSource_23 dX8_addSource_24 dX8_addSource_26 dX8_addSource_29
    · cases ho
      exact wq_callVt (As := [.int (wq_I x2)]) (mc := 1) (ms := 6) (n := 7) F K lk_X8_82 (ct_X8_findTable hlt h1r3) ⟨Nat.le_of_ble_eq_true rfl, Nat.le_of_ble_eq_true rfl⟩ ⟨Nat.le_of_ble_eq_true rfl, Nat.le_of_ble_eq_true rfl⟩ (Nat.le_of_ble_eq_true rfl) rfl rfl rfl rfl (Nat.le_of_ble_eq_true rfl) dX8_addSource_8 htab rfl rfl (Nat.le_of_ble_eq_true rfl) (Nat.le_of_ble_eq_true rfl)
  · cases ho
    exact wq_callVt (As := [.int (wq_I x1)]) (mc := 1) (ms := 6) (n := 7) F K lk_X8_165 (ct_X8_findReport hlt h1r1) ⟨Nat.le_of_ble_eq_true rfl, Nat.le_of_ble_eq_true rfl⟩ ⟨Nat.le_of_ble_eq_true rfl, Nat.le_of_ble_eq_true rfl⟩ (Nat.le_of_ble_eq_true rfl) rfl rfl rfl rfl (Nat.le_of_ble_eq_true rfl) dX8_addSource_2 htab rfl rfl (Nat.le_of_ble_eq_true rfl) (Nat.le_of_ble_eq_true rfl)
set_option maxHeartbeats 4000000 in
set_option maxRecDepth 100000 in
theorem ct_X8_checkSourceColumn {l : Launch} (hlt : l.stackTraces = false) {D : va_G} {Ar : Nat → ClassId} {b : Nat} {k1 : Nat} {x2 : Int} {x3 : Int} {S S0 : wq_St} {o0 : Nat} {r0 : Int} (hk1 : wq_rep k1) (h : f_X8_checkSourceColumn k1 x2 x3 S = some (o0, r0, S0)) : wq_Cx l yX8_checkSourceColumn (.code yX8_checkSourceColumn cX8_checkSourceColumn 4 ((Option.none : Option Jvm.ClassFile.FieldType))) 8 2 12 D Ar (wq_EC Ar b) b 284 [.ref (b + 0), .ref (b + k1), .int (wq_I x2), .int (wq_I x3)] S o0 none S0 := by
  refine wq_startx "WharfQuery" [some (.ref (b + 0)), some (.ref (b + k1)), some (.int (wq_I x2)), some (.int (wq_I x3))] (by decide +kernel) rfl (Nat.le_of_ble_eq_true rfl) rfl ?_
  intro p e s m args below meth c F K htab
  unfold f_X8_checkSourceColumn at h
  refine wq_iload_n F dX8_checkSourceColumn_0 rfl rfl rfl ?_
  refine wq_if_lt (tgt := 12) F dX8_checkSourceColumn_1 (by decide) rfl (fun hc => ?_) (fun hc => ?_)
  · replace h := wq_ift hc h
    cases h
    exact wq_throww (names := ["java/lang/RuntimeException", "java/lang/Exception"]) F K htab hlt rfl (by decide +kernel) (by decide +kernel) aw_394 aw_36 (List.mem_of_getElem? (i := 15) rfl) wq_hat1_290 wq_hat2_290 (by decide +kernel) (Nat.le_of_ble_eq_true rfl) (Nat.le_of_ble_eq_true rfl) (Nat.le_of_ble_eq_true rfl) (Nat.le_of_ble_eq_true rfl) (Nat.le_of_ble_eq_true rfl) (Nat.le_of_ble_eq_true rfl) (by decide) rfl rfl dX8_checkSourceColumn_12 dX8_checkSourceColumn_15 dX8_checkSourceColumn_16 dX8_checkSourceColumn_19 dX8_checkSourceColumn_22
  · replace h := wq_iff hc h
    refine wq_iload_n F dX8_checkSourceColumn_4 rfl rfl rfl ?_
    refine wq_aload_n F dX8_checkSourceColumn_5 rfl rfl rfl ?_
    refine wq_g_X8_169 F hk1 dX8_checkSourceColumn_6 rfl ?_
    refine wq_icmp_lt (tgt := 23) F dX8_checkSourceColumn_9 (by decide) rfl (fun hc => ?_) (fun hc => ?_)
    · replace h := wq_ift hc h
      refine wq_aload_n F dX8_checkSourceColumn_23 rfl rfl rfl ?_
      refine wq_g_X8_32 F dX8_checkSourceColumn_24 rfl ?_
      refine wq_aload_n F dX8_checkSourceColumn_27 rfl rfl rfl ?_
      refine wq_g_X8_174 F hk1 dX8_checkSourceColumn_28 rfl ?_
      refine wq_iload_n F dX8_checkSourceColumn_31 rfl rfl rfl ?_
      obtain ⟨t1, ht1, wt1, h⟩ := wq_ix_some h
      refine wq_iald F (wq_rep_lt1 hk1) (wq_E_srcs hk1) ht1 wt1 dX8_checkSourceColumn_32 rfl ?_
      obtain ⟨t2, ht2, wt2, h⟩ := wq_ix_some h
      refine wq_aald F (Nat.le_of_ble_eq_true rfl) wq_E_tabs rfl rfl ht2 wt2 dX8_checkSourceColumn_33 rfl ?_
      refine wq_iload_n F dX8_checkSourceColumn_34 rfl rfl rfl ?_
      rcases wq_bx_some h with ⟨r3, S4, h1r3, h⟩ | ⟨nr3, r3, S4, h1r3, ho⟩
      · refine wq_callSn (As := [.ref (b + (6 + 48 * t2)), .int (wq_I x3)]) (mc := 1) (ms := 6) (n := 7) F K lk_X8_122 (ct_X8_checkColumn hlt (wq_tab_i ht2) h1r3) ⟨Nat.le_of_ble_eq_true rfl, Nat.le_of_ble_eq_true rfl⟩ ⟨Nat.le_of_ble_eq_true rfl, Nat.le_of_ble_eq_true rfl⟩ rfl rfl (Nat.le_of_ble_eq_true rfl) dX8_checkSourceColumn_35 rfl ?_
        cases h
        exact wq_vretx F rfl rfl rfl (Nat.le_of_ble_eq_true rfl) (Nat.le_of_ble_eq_true rfl) dX8_checkSourceColumn_38
      · cases ho
        exact wq_callSt (As := [.ref (b + (6 + 48 * t2)), .int (wq_I x3)]) (mc := 1) (ms := 6) (n := 7) F K lk_X8_122 (ct_X8_checkColumn hlt (wq_tab_i ht2) h1r3) ⟨Nat.le_of_ble_eq_true rfl, Nat.le_of_ble_eq_true rfl⟩ ⟨Nat.le_of_ble_eq_true rfl, Nat.le_of_ble_eq_true rfl⟩ rfl rfl (Nat.le_of_ble_eq_true rfl) dX8_checkSourceColumn_35 htab rfl rfl (Nat.le_of_ble_eq_true rfl) (Nat.le_of_ble_eq_true rfl)
    · replace h := wq_iff hc h
      cases h
      exact wq_throww (names := ["java/lang/RuntimeException", "java/lang/Exception"]) F K htab hlt rfl (by decide +kernel) (by decide +kernel) aw_394 aw_36 (List.mem_of_getElem? (i := 15) rfl) wq_hat1_290 wq_hat2_290 (by decide +kernel) (Nat.le_of_ble_eq_true rfl) (Nat.le_of_ble_eq_true rfl) (Nat.le_of_ble_eq_true rfl) (Nat.le_of_ble_eq_true rfl) (Nat.le_of_ble_eq_true rfl) (Nat.le_of_ble_eq_true rfl) (by decide) rfl rfl dX8_checkSourceColumn_12 dX8_checkSourceColumn_15 dX8_checkSourceColumn_16 dX8_checkSourceColumn_19 dX8_checkSourceColumn_22
set_option maxHeartbeats 4000000 in
set_option maxRecDepth 100000 in
theorem ct_X8_checkConditionRoom {l : Launch} (hlt : l.stackTraces = false) {D : va_G} {Ar : Nat → ClassId} {b : Nat} {k0 : Nat} {S S0 : wq_St} {o0 : Nat} {r0 : Int} (hk0 : wq_rep k0) (h : f_X8_checkConditionRoom k0 S = some (o0, r0, S0)) : wq_Cx l yX8_checkConditionRoom (.code yX8_checkConditionRoom cX8_checkConditionRoom 1 ((Option.none : Option Jvm.ClassFile.FieldType))) 7 1 6 D Ar (wq_EC Ar b) b 284 [.ref (b + k0)] S o0 none S0 := by
  refine wq_startx "WharfQuery" [some (.ref (b + k0))] (by decide +kernel) rfl (Nat.le_of_ble_eq_true rfl) rfl ?_
  intro p e s m args below meth c F K htab
  unfold f_X8_checkConditionRoom at h
  refine wq_aload_n F dX8_checkConditionRoom_0 rfl rfl rfl ?_
  refine wq_g_X8_194 F hk0 dX8_checkConditionRoom_1 rfl ?_
  refine wq_bipush (n := 6) F dX8_checkConditionRoom_4 (by decide) rfl ?_
  refine wq_icmp_lt (tgt := 20) F dX8_checkConditionRoom_6 (by decide) rfl (fun hc => ?_) (fun hc => ?_)
  · replace h := wq_ift hc h
    cases h
    exact wq_vretx F rfl rfl rfl (Nat.le_of_ble_eq_true rfl) (Nat.le_of_ble_eq_true rfl) dX8_checkConditionRoom_20
  · replace h := wq_iff hc h
    cases h
    exact wq_throww (names := ["java/lang/RuntimeException", "java/lang/Exception"]) F K htab hlt rfl (by decide +kernel) (by decide +kernel) aw_482 aw_34 (List.mem_of_getElem? (i := 17) rfl) wq_hat1_78 wq_hat2_78 (by decide +kernel) (Nat.le_of_ble_eq_true rfl) (Nat.le_of_ble_eq_true rfl) (Nat.le_of_ble_eq_true rfl) (Nat.le_of_ble_eq_true rfl) (Nat.le_of_ble_eq_true rfl) (Nat.le_of_ble_eq_true rfl) (by decide) rfl rfl dX8_checkConditionRoom_9 dX8_checkConditionRoom_12 dX8_checkConditionRoom_13 dX8_checkConditionRoom_16 dX8_checkConditionRoom_19
set_option maxHeartbeats 4000000 in
set_option maxRecDepth 100000 in
theorem ct_X8_addCondition {l : Launch} (hlt : l.stackTraces = false) {D : va_G} {Ar : Nat → ClassId} {b : Nat} {x1 : Int} {x2 : Int} {x3 : Int} {x4 : Int} {x5 : Int} {S S0 : wq_St} {o0 : Nat} {r0 : Int} (h : f_X8_addCondition x1 x2 x3 x4 x5 S = some (o0, r0, S0)) : wq_Cx l yX8_addCondition (.code yX8_addCondition cX8_addCondition 7 ((Option.some Jvm.ClassFile.FieldType.int))) 9 5 30 D Ar (wq_EC Ar b) b 284 [.ref (b + 0), .int (wq_I x1), .int (wq_I x2), .int (wq_I x3), .int (wq_I x4), .int (wq_I x5)] S o0 (some (.int (wq_I r0))) S0 := by
  refine wq_startx "WharfQuery" [some (.ref (b + 0)), some (.int (wq_I x1)), some (.int (wq_I x2)), some (.int (wq_I x3)), some (.int (wq_I x4)), some (.int (wq_I x5)), none] (by decide +kernel) rfl (Nat.le_of_ble_eq_true rfl) rfl ?_
  intro p e s m args below meth c F K htab
  unfold f_X8_addCondition at h
  refine wq_aload_n F dX8_addCondition_0 rfl rfl rfl ?_
  refine wq_iload_n F dX8_addCondition_1 rfl rfl rfl ?_
  rcases wq_bx_some h with ⟨r1, S2, h1r1, h⟩ | ⟨nr1, r1, S2, h1r1, ho⟩
  · refine wq_callVn (As := [.int (wq_I x1)]) (mc := 1) (ms := 6) (n := 7) F K lk_X8_165 (ct_X8_findReport hlt h1r1) ⟨Nat.le_of_ble_eq_true rfl, Nat.le_of_ble_eq_true rfl⟩ ⟨Nat.le_of_ble_eq_true rfl, Nat.le_of_ble_eq_true rfl⟩ (Nat.le_of_ble_eq_true rfl) rfl rfl rfl rfl (Nat.le_of_ble_eq_true rfl) dX8_addCondition_2 rfl ?_
    refine wq_astore (L' := [some (.ref (b + 0)), some (.int (wq_I x1)), some (.int (wq_I x2)), some (.int (wq_I x3)), some (.int (wq_I x4)), some (.int (wq_I x5)), some (.ref (b + r1))]) F dX8_addCondition_5 (by decide) rfl rfl rfl ?_
    refine wq_aload_n F dX8_addCondition_7 rfl rfl rfl ?_
    refine wq_aload F dX8_addCondition_8 rfl rfl ?_
    refine wq_iload_n F dX8_addCondition_10 rfl rfl rfl ?_
    refine wq_iload_n F dX8_addCondition_11 rfl rfl rfl ?_
    rcases wq_bx_some h with ⟨r3, S4, h1r3, h⟩ | ⟨nr3, r3, S4, h1r3, ho⟩
    · refine wq_callVn (As := [.ref (b + r1), .int (wq_I x2), .int (wq_I x3)]) (mc := 2) (ms := 12) (n := 8) F K lk_X8_178 (ct_X8_checkSourceColumn hlt (pd_X8_findReport h1r1) h1r3) ⟨Nat.le_of_ble_eq_true rfl, Nat.le_of_ble_eq_true rfl⟩ ⟨Nat.le_of_ble_eq_true rfl, Nat.le_of_ble_eq_true rfl⟩ (Nat.le_of_ble_eq_true rfl) rfl rfl rfl rfl (Nat.le_of_ble_eq_true rfl) dX8_addCondition_12 rfl ?_
      refine wq_iload F dX8_addCondition_15 rfl rfl ?_
      refine wq_if_lt (tgt := 26) F dX8_addCondition_17 (by decide) rfl (fun hc => ?_) (fun hc => ?_)
      · replace h := wq_ift hc h
        cases h
        exact wq_throw (names := ["java/lang/RuntimeException", "java/lang/Exception"]) F K htab hlt rfl (by decide +kernel) (by decide +kernel) aw_466 aw_33 (List.mem_of_getElem? (i := 18) rfl) wq_hat1_67 wq_hat2_67 (by decide +kernel) (Nat.le_of_ble_eq_true rfl) (Nat.le_of_ble_eq_true rfl) (Nat.le_of_ble_eq_true rfl) (Nat.le_of_ble_eq_true rfl) (Nat.le_of_ble_eq_true rfl) (Nat.le_of_ble_eq_true rfl) (by decide) rfl rfl dX8_addCondition_26 dX8_addCondition_29 dX8_addCondition_30 dX8_addCondition_32 dX8_addCondition_35
      · replace h := wq_iff hc h
        refine wq_iload F dX8_addCondition_20 rfl rfl ?_
        refine wq_iconst (n := 2) F dX8_addCondition_22 rfl ?_
        refine wq_icmp_le (tgt := 36) F dX8_addCondition_23 (by decide) rfl (fun hc => ?_) (fun hc => ?_)
        · replace h := wq_ift hc h
          refine wq_iload F dX8_addCondition_36 rfl rfl ?_
          refine wq_if_lt (tgt := 49) F dX8_addCondition_38 (by decide) rfl (fun hc => ?_) (fun hc => ?_)
          · replace h := wq_ift hc h
            cases h
            exact wq_throw (names := ["java/lang/RuntimeException", "java/lang/Exception"]) F K htab hlt rfl (by decide +kernel) (by decide +kernel) aw_466 aw_33 (List.mem_of_getElem? (i := 19) rfl) wq_hat1_67 wq_hat2_67 (by decide +kernel) (Nat.le_of_ble_eq_true rfl) (Nat.le_of_ble_eq_true rfl) (Nat.le_of_ble_eq_true rfl) (Nat.le_of_ble_eq_true rfl) (Nat.le_of_ble_eq_true rfl) (Nat.le_of_ble_eq_true rfl) (by decide) rfl rfl dX8_addCondition_49 dX8_addCondition_52 dX8_addCondition_53 dX8_addCondition_55 dX8_addCondition_58
          · replace h := wq_iff hc h
            refine wq_iload F dX8_addCondition_41 rfl rfl ?_
            refine wq_sipush (n := 999) F dX8_addCondition_43 (by decide) rfl ?_
            refine wq_icmp_le (tgt := 59) F dX8_addCondition_46 (by decide) rfl (fun hc => ?_) (fun hc => ?_)
            · replace h := wq_ift hc h
              refine wq_aload F dX8_addCondition_59 rfl rfl ?_
              rcases wq_bx_some h with ⟨r5, S6, h1r5, h⟩ | ⟨nr5, r5, S6, h1r5, ho⟩
              · refine wq_callSn (As := [.ref (b + r1)]) (mc := 1) (ms := 6) (n := 7) F K lk_X8_186 (ct_X8_checkConditionRoom hlt (pd_X8_findReport h1r1) h1r5) ⟨Nat.le_of_ble_eq_true rfl, Nat.le_of_ble_eq_true rfl⟩ ⟨Nat.le_of_ble_eq_true rfl, Nat.le_of_ble_eq_true rfl⟩ rfl rfl (Nat.le_of_ble_eq_true rfl) dX8_addCondition_61 rfl ?_
                refine wq_aload F dX8_addCondition_64 rfl rfl ?_
                refine wq_g_X8_190 F (pd_X8_findReport h1r1) dX8_addCondition_66 rfl ?_
                refine wq_aload F dX8_addCondition_69 rfl rfl ?_
                refine wq_g_X8_194 F (pd_X8_findReport h1r1) dX8_addCondition_71 rfl ?_
                obtain ⟨t7, ht7, wt7, h⟩ := wq_ix_some h
                refine wq_aald F (wq_rep_lt2 (pd_X8_findReport h1r1)) (wq_E_cnds (pd_X8_findReport h1r1)) rfl rfl ht7 wt7 dX8_addCondition_74 rfl ?_
                refine wq_iload_n F dX8_addCondition_75 rfl rfl rfl ?_
                refine wq_iload_n F dX8_addCondition_76 rfl rfl rfl ?_
                refine wq_iload F dX8_addCondition_77 rfl rfl ?_
                refine wq_iload F dX8_addCondition_79 rfl rfl ?_
                obtain ⟨r8, S9, h1r8, h⟩ := wq_bd_some h
                refine wq_callV (As := [.int (wq_I x2), .int (wq_I x3), .int (wq_I x4), .int (wq_I x5)]) F lk_X8_197 (ct_X1_compare (wq_cnd_i (pd_X8_findReport h1r1) ht7) h1r8) ⟨Nat.le_of_ble_eq_true rfl, Nat.le_of_ble_eq_true rfl⟩ ⟨Nat.le_of_ble_eq_true rfl, Nat.le_of_ble_eq_true rfl⟩ (wq_cnd_lt (wq_cnd_i (pd_X8_findReport h1r1) ht7)) (wq_E_cnd (wq_cnd_i (pd_X8_findReport h1r1) ht7)) rfl wq_AbX rfl rfl (Nat.le_of_ble_eq_true rfl) dX8_addCondition_81 rfl ?_
                refine wq_aload F dX8_addCondition_84 rfl rfl ?_
                refine wq_dup1 F rfl dX8_addCondition_86 rfl ?_
                refine wq_g_X8_194 F (pd_X8_findReport h1r1) dX8_addCondition_87 rfl ?_
                refine wq_iconst (n := 1) F dX8_addCondition_90 rfl ?_
                refine wq_iadd F dX8_addCondition_91 rfl ?_
                refine wq_p_X8_194 F (pd_X8_findReport h1r1) wq_AbX dX8_addCondition_92 rfl ?_
                obtain ⟨S10, eS10, h⟩ := wq_lt_some h
                refine wq_namS eS10 ?_
                refine wq_aload F dX8_addCondition_95 rfl rfl ?_
                refine wq_g_X8_194 F (pd_X8_findReport h1r1) dX8_addCondition_97 rfl ?_
                refine wq_iconst (n := 1) F dX8_addCondition_100 rfl ?_
                refine wq_isub F dX8_addCondition_101 rfl ?_
                cases h
                exact wq_iretx F rfl rfl rfl (Nat.le_of_ble_eq_true rfl) (Nat.le_of_ble_eq_true rfl) dX8_addCondition_102
              · cases ho
                exact wq_callSt (As := [.ref (b + r1)]) (mc := 1) (ms := 6) (n := 7) F K lk_X8_186 (ct_X8_checkConditionRoom hlt (pd_X8_findReport h1r1) h1r5) ⟨Nat.le_of_ble_eq_true rfl, Nat.le_of_ble_eq_true rfl⟩ ⟨Nat.le_of_ble_eq_true rfl, Nat.le_of_ble_eq_true rfl⟩ rfl rfl (Nat.le_of_ble_eq_true rfl) dX8_addCondition_61 htab rfl rfl (Nat.le_of_ble_eq_true rfl) (Nat.le_of_ble_eq_true rfl)
            · replace h := wq_iff hc h
              cases h
              exact wq_throw (names := ["java/lang/RuntimeException", "java/lang/Exception"]) F K htab hlt rfl (by decide +kernel) (by decide +kernel) aw_466 aw_33 (List.mem_of_getElem? (i := 19) rfl) wq_hat1_67 wq_hat2_67 (by decide +kernel) (Nat.le_of_ble_eq_true rfl) (Nat.le_of_ble_eq_true rfl) (Nat.le_of_ble_eq_true rfl) (Nat.le_of_ble_eq_true rfl) (Nat.le_of_ble_eq_true rfl) (Nat.le_of_ble_eq_true rfl) (by decide) rfl rfl dX8_addCondition_49 dX8_addCondition_52 dX8_addCondition_53 dX8_addCondition_55 dX8_addCondition_58
        · replace h := wq_iff hc h
          cases h
          exact wq_throw (names := ["java/lang/RuntimeException", "java/lang/Exception"]) F K htab hlt rfl (by decide +kernel) (by decide +kernel) aw_466 aw_33 (List.mem_of_getElem? (i := 18) rfl) wq_hat1_67 wq_hat2_67 (by decide +kernel) (Nat.le_of_ble_eq_true rfl) (Nat.le_of_ble_eq_true rfl) (Nat.le_of_ble_eq_true rfl) (Nat.le_of_ble_eq_true rfl) (Nat.le_of_ble_eq_true rfl) (Nat.le_of_ble_eq_true rfl) (by decide) rfl rfl dX8_addCondition_26 dX8_addCondition_29 dX8_addCondition_30 dX8_addCondition_32 dX8_addCondition_35
    · cases ho
      exact wq_callVt (As := [.ref (b + r1), .int (wq_I x2), .int (wq_I x3)]) (mc := 2) (ms := 12) (n := 8) F K lk_X8_178 (ct_X8_checkSourceColumn hlt (pd_X8_findReport h1r1) h1r3) ⟨Nat.le_of_ble_eq_true rfl, Nat.le_of_ble_eq_true rfl⟩ ⟨Nat.le_of_ble_eq_true rfl, Nat.le_of_ble_eq_true rfl⟩ (Nat.le_of_ble_eq_true rfl) rfl rfl rfl rfl (Nat.le_of_ble_eq_true rfl) dX8_addCondition_12 htab rfl rfl (Nat.le_of_ble_eq_true rfl) (Nat.le_of_ble_eq_true rfl)
  · cases ho
    exact wq_callVt (As := [.int (wq_I x1)]) (mc := 1) (ms := 6) (n := 7) F K lk_X8_165 (ct_X8_findReport hlt h1r1) ⟨Nat.le_of_ble_eq_true rfl, Nat.le_of_ble_eq_true rfl⟩ ⟨Nat.le_of_ble_eq_true rfl, Nat.le_of_ble_eq_true rfl⟩ (Nat.le_of_ble_eq_true rfl) rfl rfl rfl rfl (Nat.le_of_ble_eq_true rfl) dX8_addCondition_2 htab rfl rfl (Nat.le_of_ble_eq_true rfl) (Nat.le_of_ble_eq_true rfl)
set_option maxHeartbeats 4000000 in
set_option maxRecDepth 100000 in
theorem ct_X8_addJoin {l : Launch} (hlt : l.stackTraces = false) {D : va_G} {Ar : Nat → ClassId} {b : Nat} {x1 : Int} {x2 : Int} {x3 : Int} {x4 : Int} {x5 : Int} {S S0 : wq_St} {o0 : Nat} {r0 : Int} (h : f_X8_addJoin x1 x2 x3 x4 x5 S = some (o0, r0, S0)) : wq_Cx l yX8_addJoin (.code yX8_addJoin cX8_addJoin 7 ((Option.some Jvm.ClassFile.FieldType.int))) 9 7 42 D Ar (wq_EC Ar b) b 284 [.ref (b + 0), .int (wq_I x1), .int (wq_I x2), .int (wq_I x3), .int (wq_I x4), .int (wq_I x5)] S o0 (some (.int (wq_I r0))) S0 := by
  refine wq_startx "WharfQuery" [some (.ref (b + 0)), some (.int (wq_I x1)), some (.int (wq_I x2)), some (.int (wq_I x3)), some (.int (wq_I x4)), some (.int (wq_I x5)), none] (by decide +kernel) rfl (Nat.le_of_ble_eq_true rfl) rfl ?_
  intro p e s m args below meth c F K htab
  unfold f_X8_addJoin at h
  refine wq_aload_n F dX8_addJoin_0 rfl rfl rfl ?_
  refine wq_iload_n F dX8_addJoin_1 rfl rfl rfl ?_
  rcases wq_bx_some h with ⟨r1, S2, h1r1, h⟩ | ⟨nr1, r1, S2, h1r1, ho⟩
  · refine wq_callVn (As := [.int (wq_I x1)]) (mc := 1) (ms := 6) (n := 7) F K lk_X8_165 (ct_X8_findReport hlt h1r1) ⟨Nat.le_of_ble_eq_true rfl, Nat.le_of_ble_eq_true rfl⟩ ⟨Nat.le_of_ble_eq_true rfl, Nat.le_of_ble_eq_true rfl⟩ (Nat.le_of_ble_eq_true rfl) rfl rfl rfl rfl (Nat.le_of_ble_eq_true rfl) dX8_addJoin_2 rfl ?_
    refine wq_astore (L' := [some (.ref (b + 0)), some (.int (wq_I x1)), some (.int (wq_I x2)), some (.int (wq_I x3)), some (.int (wq_I x4)), some (.int (wq_I x5)), some (.ref (b + r1))]) F dX8_addJoin_5 (by decide) rfl rfl rfl ?_
    refine wq_aload_n F dX8_addJoin_7 rfl rfl rfl ?_
    refine wq_aload F dX8_addJoin_8 rfl rfl ?_
    refine wq_iload_n F dX8_addJoin_10 rfl rfl rfl ?_
    refine wq_iload_n F dX8_addJoin_11 rfl rfl rfl ?_
    rcases wq_bx_some h with ⟨r3, S4, h1r3, h⟩ | ⟨nr3, r3, S4, h1r3, ho⟩
    · refine wq_callVn (As := [.ref (b + r1), .int (wq_I x2), .int (wq_I x3)]) (mc := 2) (ms := 12) (n := 8) F K lk_X8_178 (ct_X8_checkSourceColumn hlt (pd_X8_findReport h1r1) h1r3) ⟨Nat.le_of_ble_eq_true rfl, Nat.le_of_ble_eq_true rfl⟩ ⟨Nat.le_of_ble_eq_true rfl, Nat.le_of_ble_eq_true rfl⟩ (Nat.le_of_ble_eq_true rfl) rfl rfl rfl rfl (Nat.le_of_ble_eq_true rfl) dX8_addJoin_12 rfl ?_
      refine wq_aload_n F dX8_addJoin_15 rfl rfl rfl ?_
      refine wq_aload F dX8_addJoin_16 rfl rfl ?_
      refine wq_iload F dX8_addJoin_18 rfl rfl ?_
      refine wq_iload F dX8_addJoin_20 rfl rfl ?_
      rcases wq_bx_some h with ⟨r5, S6, h1r5, h⟩ | ⟨nr5, r5, S6, h1r5, ho⟩
      · refine wq_callVn (As := [.ref (b + r1), .int (wq_I x4), .int (wq_I x5)]) (mc := 2) (ms := 12) (n := 8) F K lk_X8_178 (ct_X8_checkSourceColumn hlt (pd_X8_findReport h1r1) h1r5) ⟨Nat.le_of_ble_eq_true rfl, Nat.le_of_ble_eq_true rfl⟩ ⟨Nat.le_of_ble_eq_true rfl, Nat.le_of_ble_eq_true rfl⟩ (Nat.le_of_ble_eq_true rfl) rfl rfl rfl rfl (Nat.le_of_ble_eq_true rfl) dX8_addJoin_22 rfl ?_
        refine wq_iload_n F dX8_addJoin_25 rfl rfl rfl ?_
        refine wq_iload F dX8_addJoin_26 rfl rfl ?_
        refine wq_icmp_ne (tgt := 41) F dX8_addJoin_28 (by decide) rfl (fun hc => ?_) (fun hc => ?_)
        · replace h := wq_iff hc h
          refine wq_aload F dX8_addJoin_41 rfl rfl ?_
          rcases wq_bx_some h with ⟨r7, S8, h1r7, h⟩ | ⟨nr7, r7, S8, h1r7, ho⟩
          · refine wq_callSn (As := [.ref (b + r1)]) (mc := 1) (ms := 6) (n := 7) F K lk_X8_186 (ct_X8_checkConditionRoom hlt (pd_X8_findReport h1r1) h1r7) ⟨Nat.le_of_ble_eq_true rfl, Nat.le_of_ble_eq_true rfl⟩ ⟨Nat.le_of_ble_eq_true rfl, Nat.le_of_ble_eq_true rfl⟩ rfl rfl (Nat.le_of_ble_eq_true rfl) dX8_addJoin_43 rfl ?_
            refine wq_aload F dX8_addJoin_46 rfl rfl ?_
            refine wq_g_X8_190 F (pd_X8_findReport h1r1) dX8_addJoin_48 rfl ?_
            refine wq_aload F dX8_addJoin_51 rfl rfl ?_
            refine wq_g_X8_194 F (pd_X8_findReport h1r1) dX8_addJoin_53 rfl ?_
            obtain ⟨t9, ht9, wt9, h⟩ := wq_ix_some h
            refine wq_aald F (wq_rep_lt2 (pd_X8_findReport h1r1)) (wq_E_cnds (pd_X8_findReport h1r1)) rfl rfl ht9 wt9 dX8_addJoin_56 rfl ?_
            refine wq_iload_n F dX8_addJoin_57 rfl rfl rfl ?_
            refine wq_iload_n F dX8_addJoin_58 rfl rfl rfl ?_
            refine wq_iload F dX8_addJoin_59 rfl rfl ?_
            refine wq_iload F dX8_addJoin_61 rfl rfl ?_
            obtain ⟨r10, S11, h1r10, h⟩ := wq_bd_some h
            refine wq_callV (As := [.int (wq_I x2), .int (wq_I x3), .int (wq_I x4), .int (wq_I x5)]) F lk_X8_205 (ct_X1_join (wq_cnd_i (pd_X8_findReport h1r1) ht9) h1r10) ⟨Nat.le_of_ble_eq_true rfl, Nat.le_of_ble_eq_true rfl⟩ ⟨Nat.le_of_ble_eq_true rfl, Nat.le_of_ble_eq_true rfl⟩ (wq_cnd_lt (wq_cnd_i (pd_X8_findReport h1r1) ht9)) (wq_E_cnd (wq_cnd_i (pd_X8_findReport h1r1) ht9)) rfl wq_AbX rfl rfl (Nat.le_of_ble_eq_true rfl) dX8_addJoin_63 rfl ?_
            refine wq_aload F dX8_addJoin_66 rfl rfl ?_
            refine wq_dup1 F rfl dX8_addJoin_68 rfl ?_
            refine wq_g_X8_194 F (pd_X8_findReport h1r1) dX8_addJoin_69 rfl ?_
            refine wq_iconst (n := 1) F dX8_addJoin_72 rfl ?_
            refine wq_iadd F dX8_addJoin_73 rfl ?_
            refine wq_p_X8_194 F (pd_X8_findReport h1r1) wq_AbX dX8_addJoin_74 rfl ?_
            obtain ⟨S12, eS12, h⟩ := wq_lt_some h
            refine wq_namS eS12 ?_
            refine wq_aload F dX8_addJoin_77 rfl rfl ?_
            refine wq_g_X8_194 F (pd_X8_findReport h1r1) dX8_addJoin_79 rfl ?_
            refine wq_iconst (n := 1) F dX8_addJoin_82 rfl ?_
            refine wq_isub F dX8_addJoin_83 rfl ?_
            cases h
            exact wq_iretx F rfl rfl rfl (Nat.le_of_ble_eq_true rfl) (Nat.le_of_ble_eq_true rfl) dX8_addJoin_84
          · cases ho
            exact wq_callSt (As := [.ref (b + r1)]) (mc := 1) (ms := 6) (n := 7) F K lk_X8_186 (ct_X8_checkConditionRoom hlt (pd_X8_findReport h1r1) h1r7) ⟨Nat.le_of_ble_eq_true rfl, Nat.le_of_ble_eq_true rfl⟩ ⟨Nat.le_of_ble_eq_true rfl, Nat.le_of_ble_eq_true rfl⟩ rfl rfl (Nat.le_of_ble_eq_true rfl) dX8_addJoin_43 htab rfl rfl (Nat.le_of_ble_eq_true rfl) (Nat.le_of_ble_eq_true rfl)
        · replace h := wq_ift hc h
          cases h
          exact wq_throw (names := ["java/lang/RuntimeException", "java/lang/Exception"]) F K htab hlt rfl (by decide +kernel) (by decide +kernel) aw_466 aw_33 (List.mem_of_getElem? (i := 16) rfl) wq_hat1_67 wq_hat2_67 (by decide +kernel) (Nat.le_of_ble_eq_true rfl) (Nat.le_of_ble_eq_true rfl) (Nat.le_of_ble_eq_true rfl) (Nat.le_of_ble_eq_true rfl) (Nat.le_of_ble_eq_true rfl) (Nat.le_of_ble_eq_true rfl) (by decide) rfl rfl dX8_addJoin_31 dX8_addJoin_34 dX8_addJoin_35 dX8_addJoin_37 dX8_addJoin_40
      · cases ho
        exact wq_callVt (As := [.ref (b + r1), .int (wq_I x4), .int (wq_I x5)]) (mc := 2) (ms := 12) (n := 8) F K lk_X8_178 (ct_X8_checkSourceColumn hlt (pd_X8_findReport h1r1) h1r5) ⟨Nat.le_of_ble_eq_true rfl, Nat.le_of_ble_eq_true rfl⟩ ⟨Nat.le_of_ble_eq_true rfl, Nat.le_of_ble_eq_true rfl⟩ (Nat.le_of_ble_eq_true rfl) rfl rfl rfl rfl (Nat.le_of_ble_eq_true rfl) dX8_addJoin_22 htab rfl rfl (Nat.le_of_ble_eq_true rfl) (Nat.le_of_ble_eq_true rfl)
    · cases ho
      exact wq_callVt (As := [.ref (b + r1), .int (wq_I x2), .int (wq_I x3)]) (mc := 2) (ms := 12) (n := 8) F K lk_X8_178 (ct_X8_checkSourceColumn hlt (pd_X8_findReport h1r1) h1r3) ⟨Nat.le_of_ble_eq_true rfl, Nat.le_of_ble_eq_true rfl⟩ ⟨Nat.le_of_ble_eq_true rfl, Nat.le_of_ble_eq_true rfl⟩ (Nat.le_of_ble_eq_true rfl) rfl rfl rfl rfl (Nat.le_of_ble_eq_true rfl) dX8_addJoin_12 htab rfl rfl (Nat.le_of_ble_eq_true rfl) (Nat.le_of_ble_eq_true rfl)
  · cases ho
    exact wq_callVt (As := [.int (wq_I x1)]) (mc := 1) (ms := 6) (n := 7) F K lk_X8_165 (ct_X8_findReport hlt h1r1) ⟨Nat.le_of_ble_eq_true rfl, Nat.le_of_ble_eq_true rfl⟩ ⟨Nat.le_of_ble_eq_true rfl, Nat.le_of_ble_eq_true rfl⟩ (Nat.le_of_ble_eq_true rfl) rfl rfl rfl rfl (Nat.le_of_ble_eq_true rfl) dX8_addJoin_2 htab rfl rfl (Nat.le_of_ble_eq_true rfl) (Nat.le_of_ble_eq_true rfl)
set_option maxHeartbeats 4000000 in
set_option maxRecDepth 100000 in
theorem ct_X8_dropCondition {l : Launch} (hlt : l.stackTraces = false) {D : va_G} {Ar : Nat → ClassId} {b : Nat} {x1 : Int} {S S0 : wq_St} {o0 : Nat} {r0 : Int} (h : f_X8_dropCondition x1 S = some (o0, r0, S0)) : wq_Cx l yX8_dropCondition (.code yX8_dropCondition cX8_dropCondition 3 ((Option.some Jvm.ClassFile.FieldType.int))) 8 2 12 D Ar (wq_EC Ar b) b 284 [.ref (b + 0), .int (wq_I x1)] S o0 (some (.int (wq_I r0))) S0 := by
  refine wq_startx "WharfQuery" [some (.ref (b + 0)), some (.int (wq_I x1)), none] (by decide +kernel) rfl (Nat.le_of_ble_eq_true rfl) rfl ?_
  intro p e s m args below meth c F K htab
  unfold f_X8_dropCondition at h
  refine wq_aload_n F dX8_dropCondition_0 rfl rfl rfl ?_
  refine wq_iload_n F dX8_dropCondition_1 rfl rfl rfl ?_
  rcases wq_bx_some h with ⟨r1, S2, h1r1, h⟩ | ⟨nr1, r1, S2, h1r1, ho⟩
  · refine wq_callVn (As := [.int (wq_I x1)]) (mc := 1) (ms := 6) (n := 7) F K lk_X8_165 (ct_X8_findReport hlt h1r1) ⟨Nat.le_of_ble_eq_true rfl, Nat.le_of_ble_eq_true rfl⟩ ⟨Nat.le_of_ble_eq_true rfl, Nat.le_of_ble_eq_true rfl⟩ (Nat.le_of_ble_eq_true rfl) rfl rfl rfl rfl (Nat.le_of_ble_eq_true rfl) dX8_dropCondition_2 rfl ?_
    refine wq_astore_n (L' := [some (.ref (b + 0)), some (.int (wq_I x1)), some (.ref (b + r1))]) F dX8_dropCondition_5 rfl (by decide) rfl rfl rfl ?_
    refine wq_aload_n F dX8_dropCondition_6 rfl rfl rfl ?_
    refine wq_g_X8_194 F (pd_X8_findReport h1r1) dX8_dropCondition_7 rfl ?_
    refine wq_if_ne (tgt := 23) F dX8_dropCondition_10 (by decide) rfl (fun hc => ?_) (fun hc => ?_)
    · replace h := wq_iff hc h
      refine wq_aload_n F dX8_dropCondition_23 rfl rfl rfl ?_
      refine wq_dup1 F rfl dX8_dropCondition_24 rfl ?_
      refine wq_g_X8_194 F (pd_X8_findReport h1r1) dX8_dropCondition_25 rfl ?_
      refine wq_iconst (n := 1) F dX8_dropCondition_28 rfl ?_
      refine wq_isub F dX8_dropCondition_29 rfl ?_
      refine wq_p_X8_194 F (pd_X8_findReport h1r1) wq_AbX dX8_dropCondition_30 rfl ?_
      obtain ⟨S3, eS3, h⟩ := wq_lt_some h
      refine wq_namS eS3 ?_
      refine wq_aload_n F dX8_dropCondition_33 rfl rfl rfl ?_
      refine wq_g_X8_194 F (pd_X8_findReport h1r1) dX8_dropCondition_34 rfl ?_
      cases h
      exact wq_iretx F rfl rfl rfl (Nat.le_of_ble_eq_true rfl) (Nat.le_of_ble_eq_true rfl) dX8_dropCondition_37
    · replace h := wq_ift hc h
      cases h
      exact wq_throw (names := ["java/lang/RuntimeException", "java/lang/Exception"]) F K htab hlt rfl (by decide +kernel) (by decide +kernel) aw_482 aw_34 (List.mem_of_getElem? (i := 11) rfl) wq_hat1_78 wq_hat2_78 (by decide +kernel) (Nat.le_of_ble_eq_true rfl) (Nat.le_of_ble_eq_true rfl) (Nat.le_of_ble_eq_true rfl) (Nat.le_of_ble_eq_true rfl) (Nat.le_of_ble_eq_true rfl) (Nat.le_of_ble_eq_true rfl) (by decide) rfl rfl dX8_dropCondition_13 dX8_dropCondition_16 dX8_dropCondition_17 dX8_dropCondition_19 dX8_dropCondition_22
  · cases ho
    exact wq_callVt (As := [.int (wq_I x1)]) (mc := 1) (ms := 6) (n := 7) F K lk_X8_165 (ct_X8_findReport hlt h1r1) ⟨Nat.le_of_ble_eq_true rfl, Nat.le_of_ble_eq_true rfl⟩ ⟨Nat.le_of_ble_eq_true rfl, Nat.le_of_ble_eq_true rfl⟩ (Nat.le_of_ble_eq_true rfl) rfl rfl rfl rfl (Nat.le_of_ble_eq_true rfl) dX8_dropCondition_2 htab rfl rfl (Nat.le_of_ble_eq_true rfl) (Nat.le_of_ble_eq_true rfl)
set_option maxHeartbeats 4000000 in
set_option maxRecDepth 100000 in
theorem ct_X8_setSum {l : Launch} (hlt : l.stackTraces = false) {D : va_G} {Ar : Nat → ClassId} {b : Nat} {x1 : Int} {x2 : Int} {x3 : Int} {S S0 : wq_St} {o0 : Nat} {r0 : Int} (h : f_X8_setSum x1 x2 x3 S = some (o0, r0, S0)) : wq_Cx l yX8_setSum (.code yX8_setSum cX8_setSum 5 ((Option.none : Option Jvm.ClassFile.FieldType))) 9 3 18 D Ar (wq_EC Ar b) b 284 [.ref (b + 0), .int (wq_I x1), .int (wq_I x2), .int (wq_I x3)] S o0 none S0 := by
  refine wq_startx "WharfQuery" [some (.ref (b + 0)), some (.int (wq_I x1)), some (.int (wq_I x2)), some (.int (wq_I x3)), none] (by decide +kernel) rfl (Nat.le_of_ble_eq_true rfl) rfl ?_
  intro p e s m args below meth c F K htab
  unfold f_X8_setSum at h
  refine wq_aload_n F dX8_setSum_0 rfl rfl rfl ?_
  refine wq_iload_n F dX8_setSum_1 rfl rfl rfl ?_
  rcases wq_bx_some h with ⟨r1, S2, h1r1, h⟩ | ⟨nr1, r1, S2, h1r1, ho⟩
  · refine wq_callVn (As := [.int (wq_I x1)]) (mc := 1) (ms := 6) (n := 7) F K lk_X8_165 (ct_X8_findReport hlt h1r1) ⟨Nat.le_of_ble_eq_true rfl, Nat.le_of_ble_eq_true rfl⟩ ⟨Nat.le_of_ble_eq_true rfl, Nat.le_of_ble_eq_true rfl⟩ (Nat.le_of_ble_eq_true rfl) rfl rfl rfl rfl (Nat.le_of_ble_eq_true rfl) dX8_setSum_2 rfl ?_
    refine wq_astore (L' := [some (.ref (b + 0)), some (.int (wq_I x1)), some (.int (wq_I x2)), some (.int (wq_I x3)), some (.ref (b + r1))]) F dX8_setSum_5 (by decide) rfl rfl rfl ?_
    refine wq_iload_n F dX8_setSum_7 rfl rfl rfl ?_
    refine wq_iconst (n := -1) F dX8_setSum_8 rfl ?_
    refine wq_icmp_eq (tgt := 26) F dX8_setSum_9 (by decide) rfl (fun hc => ?_) (fun hc => ?_)
    · replace h := wq_ift hc h
      refine wq_aload F dX8_setSum_26 rfl rfl ?_
      refine wq_iload_n F dX8_setSum_28 rfl rfl rfl ?_
      refine wq_p_X8_213 F (pd_X8_findReport h1r1) wq_AbX dX8_setSum_29 rfl ?_
      cases h
      exact wq_vretx F rfl rfl rfl (Nat.le_of_ble_eq_true rfl) (Nat.le_of_ble_eq_true rfl) dX8_setSum_32
    · replace h := wq_iff hc h
      refine wq_aload_n F dX8_setSum_12 rfl rfl rfl ?_
      refine wq_aload F dX8_setSum_13 rfl rfl ?_
      refine wq_iload_n F dX8_setSum_15 rfl rfl rfl ?_
      refine wq_iload_n F dX8_setSum_16 rfl rfl rfl ?_
      rcases wq_bx_some h with ⟨r3, S4, h1r3, h⟩ | ⟨nr3, r3, S4, h1r3, ho⟩
      · refine wq_callVn (As := [.ref (b + r1), .int (wq_I x2), .int (wq_I x3)]) (mc := 2) (ms := 12) (n := 8) F K lk_X8_178 (ct_X8_checkSourceColumn hlt (pd_X8_findReport h1r1) h1r3) ⟨Nat.le_of_ble_eq_true rfl, Nat.le_of_ble_eq_true rfl⟩ ⟨Nat.le_of_ble_eq_true rfl, Nat.le_of_ble_eq_true rfl⟩ (Nat.le_of_ble_eq_true rfl) rfl rfl rfl rfl (Nat.le_of_ble_eq_true rfl) dX8_setSum_17 rfl ?_
        refine wq_aload F dX8_setSum_20 rfl rfl ?_
        refine wq_iload_n F dX8_setSum_22 rfl rfl rfl ?_
        refine wq_p_X8_210 F (pd_X8_findReport h1r1) wq_AbX dX8_setSum_23 rfl ?_
        obtain ⟨S5, eS5, h⟩ := wq_lt_some h
        refine wq_namS eS5 ?_
        refine wq_aload F dX8_setSum_26 rfl rfl ?_
        refine wq_iload_n F dX8_setSum_28 rfl rfl rfl ?_
        refine wq_p_X8_213 F (pd_X8_findReport h1r1) wq_AbX dX8_setSum_29 rfl ?_
        cases h
        exact wq_vretx F rfl rfl rfl (Nat.le_of_ble_eq_true rfl) (Nat.le_of_ble_eq_true rfl) dX8_setSum_32
      · cases ho
        exact wq_callVt (As := [.ref (b + r1), .int (wq_I x2), .int (wq_I x3)]) (mc := 2) (ms := 12) (n := 8) F K lk_X8_178 (ct_X8_checkSourceColumn hlt (pd_X8_findReport h1r1) h1r3) ⟨Nat.le_of_ble_eq_true rfl, Nat.le_of_ble_eq_true rfl⟩ ⟨Nat.le_of_ble_eq_true rfl, Nat.le_of_ble_eq_true rfl⟩ (Nat.le_of_ble_eq_true rfl) rfl rfl rfl rfl (Nat.le_of_ble_eq_true rfl) dX8_setSum_17 htab rfl rfl (Nat.le_of_ble_eq_true rfl) (Nat.le_of_ble_eq_true rfl)
  · cases ho
    exact wq_callVt (As := [.int (wq_I x1)]) (mc := 1) (ms := 6) (n := 7) F K lk_X8_165 (ct_X8_findReport hlt h1r1) ⟨Nat.le_of_ble_eq_true rfl, Nat.le_of_ble_eq_true rfl⟩ ⟨Nat.le_of_ble_eq_true rfl, Nat.le_of_ble_eq_true rfl⟩ (Nat.le_of_ble_eq_true rfl) rfl rfl rfl rfl (Nat.le_of_ble_eq_true rfl) dX8_setSum_2 htab rfl rfl (Nat.le_of_ble_eq_true rfl) (Nat.le_of_ble_eq_true rfl)
set_option maxHeartbeats 4000000 in
set_option maxRecDepth 100000 in
theorem ct_X8_setDue {l : Launch} (hlt : l.stackTraces = false) {D : va_G} {Ar : Nat → ClassId} {b : Nat} {x1 : Int} {x2 : Int} {S S0 : wq_St} {o0 : Nat} {r0 : Int} (h : f_X8_setDue x1 x2 S = some (o0, r0, S0)) : wq_Cx l yX8_setDue (.code yX8_setDue cX8_setDue 5 ((Option.some Jvm.ClassFile.FieldType.boolean))) 8 1 6 D Ar (wq_EC Ar b) b 284 [.ref (b + 0), .int (wq_I x1), .int (wq_I x2)] S o0 (some (.int (wq_I r0))) S0 := by
  refine wq_startx "WharfQuery" [some (.ref (b + 0)), some (.int (wq_I x1)), some (.int (wq_I x2)), none, none] (by decide +kernel) rfl (Nat.le_of_ble_eq_true rfl) rfl ?_
  intro p e s m args below meth c F K htab
  unfold f_X8_setDue at h
  refine wq_aload_n F dX8_setDue_0 rfl rfl rfl ?_
  refine wq_iload_n F dX8_setDue_1 rfl rfl rfl ?_
  rcases wq_bx_some h with ⟨r1, S2, h1r1, h⟩ | ⟨nr1, r1, S2, h1r1, ho⟩
  · refine wq_callVn (As := [.int (wq_I x1)]) (mc := 1) (ms := 6) (n := 7) F K lk_X8_165 (ct_X8_findReport hlt h1r1) ⟨Nat.le_of_ble_eq_true rfl, Nat.le_of_ble_eq_true rfl⟩ ⟨Nat.le_of_ble_eq_true rfl, Nat.le_of_ble_eq_true rfl⟩ (Nat.le_of_ble_eq_true rfl) rfl rfl rfl rfl (Nat.le_of_ble_eq_true rfl) dX8_setDue_2 rfl ?_
    refine wq_astore_n (L' := [some (.ref (b + 0)), some (.int (wq_I x1)), some (.int (wq_I x2)), some (.ref (b + r1)), none]) F dX8_setDue_5 rfl (by decide) rfl rfl rfl ?_
    refine wq_aload_n F dX8_setDue_6 rfl rfl rfl ?_
    refine wq_g_X8_216 F (pd_X8_findReport h1r1) dX8_setDue_7 rfl ?_
    refine wq_istore (L' := [some (.ref (b + 0)), some (.int (wq_I x1)), some (.int (wq_I x2)), some (.ref (b + r1)), some (.int (wq_I (S2 r1 7)))]) F dX8_setDue_10 (by decide) rfl rfl rfl ?_
    refine wq_aload_n F dX8_setDue_12 rfl rfl rfl ?_
    refine wq_iload_n F dX8_setDue_13 rfl rfl rfl ?_
    obtain ⟨hg, h⟩ := wq_gd_some h
    refine wq_p_X8_216 F (pd_X8_findReport h1r1) hg wq_AbX dX8_setDue_14 rfl ?_
    obtain ⟨S3, eS3, h⟩ := wq_lt_some h
    refine wq_namS eS3 ?_
    refine wq_iload F dX8_setDue_17 rfl rfl ?_
    obtain ⟨hg, h⟩ := wq_gd_some h
    cases h
    exact wq_zretx F hg rfl rfl rfl (Nat.le_of_ble_eq_true rfl) (Nat.le_of_ble_eq_true rfl) dX8_setDue_19
  · cases ho
    exact wq_callVt (As := [.int (wq_I x1)]) (mc := 1) (ms := 6) (n := 7) F K lk_X8_165 (ct_X8_findReport hlt h1r1) ⟨Nat.le_of_ble_eq_true rfl, Nat.le_of_ble_eq_true rfl⟩ ⟨Nat.le_of_ble_eq_true rfl, Nat.le_of_ble_eq_true rfl⟩ (Nat.le_of_ble_eq_true rfl) rfl rfl rfl rfl (Nat.le_of_ble_eq_true rfl) dX8_setDue_2 htab rfl rfl (Nat.le_of_ble_eq_true rfl) (Nat.le_of_ble_eq_true rfl)
set_option maxHeartbeats 4000000 in
set_option maxRecDepth 100000 in
theorem ct_X8_isDue {l : Launch} (hlt : l.stackTraces = false) {D : va_G} {Ar : Nat → ClassId} {b : Nat} {x1 : Int} {S S0 : wq_St} {o0 : Nat} {r0 : Int} (h : f_X8_isDue x1 S = some (o0, r0, S0)) : wq_Cx l yX8_isDue (.code yX8_isDue cX8_isDue 2 ((Option.some Jvm.ClassFile.FieldType.boolean))) 8 1 6 D Ar (wq_EC Ar b) b 284 [.ref (b + 0), .int (wq_I x1)] S o0 (some (.int (wq_I r0))) S0 := by
  refine wq_startx "WharfQuery" [some (.ref (b + 0)), some (.int (wq_I x1))] (by decide +kernel) rfl (Nat.le_of_ble_eq_true rfl) rfl ?_
  intro p e s m args below meth c F K htab
  unfold f_X8_isDue at h
  refine wq_aload_n F dX8_isDue_0 rfl rfl rfl ?_
  refine wq_iload_n F dX8_isDue_1 rfl rfl rfl ?_
  rcases wq_bx_some h with ⟨r1, S2, h1r1, h⟩ | ⟨nr1, r1, S2, h1r1, ho⟩
  · refine wq_callVn (As := [.int (wq_I x1)]) (mc := 1) (ms := 6) (n := 7) F K lk_X8_165 (ct_X8_findReport hlt h1r1) ⟨Nat.le_of_ble_eq_true rfl, Nat.le_of_ble_eq_true rfl⟩ ⟨Nat.le_of_ble_eq_true rfl, Nat.le_of_ble_eq_true rfl⟩ (Nat.le_of_ble_eq_true rfl) rfl rfl rfl rfl (Nat.le_of_ble_eq_true rfl) dX8_isDue_2 rfl ?_
    refine wq_g_X8_216 F (pd_X8_findReport h1r1) dX8_isDue_5 rfl ?_
    obtain ⟨hg, h⟩ := wq_gd_some h
    cases h
    exact wq_zretx F hg rfl rfl rfl (Nat.le_of_ble_eq_true rfl) (Nat.le_of_ble_eq_true rfl) dX8_isDue_8
  · cases ho
    exact wq_callVt (As := [.int (wq_I x1)]) (mc := 1) (ms := 6) (n := 7) F K lk_X8_165 (ct_X8_findReport hlt h1r1) ⟨Nat.le_of_ble_eq_true rfl, Nat.le_of_ble_eq_true rfl⟩ ⟨Nat.le_of_ble_eq_true rfl, Nat.le_of_ble_eq_true rfl⟩ (Nat.le_of_ble_eq_true rfl) rfl rfl rfl rfl (Nat.le_of_ble_eq_true rfl) dX8_isDue_2 htab rfl rfl (Nat.le_of_ble_eq_true rfl) (Nat.le_of_ble_eq_true rfl)
set_option maxHeartbeats 4000000 in
set_option maxRecDepth 100000 in
theorem ct_X8_checkPlanStep {l : Launch} (hlt : l.stackTraces = false) {D : va_G} {Ar : Nat → ClassId} {b : Nat} {k0 : Nat} {x1 : Int} {S S0 : wq_St} {o0 : Nat} {r0 : Int} (hk0 : wq_rep k0) (h : f_X8_checkPlanStep k0 x1 S = some (o0, r0, S0)) : wq_Cx l yX8_checkPlanStep (.code yX8_checkPlanStep cX8_checkPlanStep 2 ((Option.none : Option Jvm.ClassFile.FieldType))) 7 1 6 D Ar (wq_EC Ar b) b 284 [.ref (b + k0), .int (wq_I x1)] S o0 none S0 := by
  refine wq_startx "WharfQuery" [some (.ref (b + k0)), some (.int (wq_I x1))] (by decide +kernel) rfl (Nat.le_of_ble_eq_true rfl) rfl ?_
  intro p e s m args below meth c F K htab
  unfold f_X8_checkPlanStep at h
  refine wq_iload_n F dX8_checkPlanStep_0 rfl rfl rfl ?_
  refine wq_if_lt (tgt := 12) F dX8_checkPlanStep_1 (by decide) rfl (fun hc => ?_) (fun hc => ?_)
  · replace h := wq_ift hc h
    cases h
    exact wq_throww (names := ["java/lang/RuntimeException", "java/lang/Exception"]) F K htab hlt rfl (by decide +kernel) (by decide +kernel) aw_394 aw_36 (List.mem_of_getElem? (i := 20) rfl) wq_hat1_290 wq_hat2_290 (by decide +kernel) (Nat.le_of_ble_eq_true rfl) (Nat.le_of_ble_eq_true rfl) (Nat.le_of_ble_eq_true rfl) (Nat.le_of_ble_eq_true rfl) (Nat.le_of_ble_eq_true rfl) (Nat.le_of_ble_eq_true rfl) (by decide) rfl rfl dX8_checkPlanStep_12 dX8_checkPlanStep_15 dX8_checkPlanStep_16 dX8_checkPlanStep_19 dX8_checkPlanStep_22
  · replace h := wq_iff hc h
    refine wq_iload_n F dX8_checkPlanStep_4 rfl rfl rfl ?_
    refine wq_aload_n F dX8_checkPlanStep_5 rfl rfl rfl ?_
    refine wq_g_X8_169 F hk0 dX8_checkPlanStep_6 rfl ?_
    refine wq_icmp_lt (tgt := 23) F dX8_checkPlanStep_9 (by decide) rfl (fun hc => ?_) (fun hc => ?_)
    · replace h := wq_ift hc h
      cases h
      exact wq_vretx F rfl rfl rfl (Nat.le_of_ble_eq_true rfl) (Nat.le_of_ble_eq_true rfl) dX8_checkPlanStep_23
    · replace h := wq_iff hc h
      cases h
      exact wq_throww (names := ["java/lang/RuntimeException", "java/lang/Exception"]) F K htab hlt rfl (by decide +kernel) (by decide +kernel) aw_394 aw_36 (List.mem_of_getElem? (i := 20) rfl) wq_hat1_290 wq_hat2_290 (by decide +kernel) (Nat.le_of_ble_eq_true rfl) (Nat.le_of_ble_eq_true rfl) (Nat.le_of_ble_eq_true rfl) (Nat.le_of_ble_eq_true rfl) (Nat.le_of_ble_eq_true rfl) (Nat.le_of_ble_eq_true rfl) (by decide) rfl rfl dX8_checkPlanStep_12 dX8_checkPlanStep_15 dX8_checkPlanStep_16 dX8_checkPlanStep_19 dX8_checkPlanStep_22
set_option maxHeartbeats 4000000 in
set_option maxRecDepth 100000 in
theorem ct_X8_planSource {l : Launch} (hlt : l.stackTraces = false) {D : va_G} {Ar : Nat → ClassId} {b : Nat} {x1 : Int} {x2 : Int} {S S0 : wq_St} {o0 : Nat} {r0 : Int} (h : f_X8_planSource x1 x2 S = some (o0, r0, S0)) : wq_Cx l yX8_planSource (.code yX8_planSource cX8_planSource 4 ((Option.some Jvm.ClassFile.FieldType.int))) 13 2 12 D Ar (wq_EC Ar b) b 284 [.ref (b + 0), .int (wq_I x1), .int (wq_I x2)] S o0 (some (.int (wq_I r0))) S0 := by
  refine wq_startx "WharfQuery" [some (.ref (b + 0)), some (.int (wq_I x1)), some (.int (wq_I x2)), none] (by decide +kernel) rfl (Nat.le_of_ble_eq_true rfl) rfl ?_
  intro p e s m args below meth c F K htab
  unfold f_X8_planSource at h
  refine wq_aload_n F dX8_planSource_0 rfl rfl rfl ?_
  refine wq_iload_n F dX8_planSource_1 rfl rfl rfl ?_
  rcases wq_bx_some h with ⟨r1, S2, h1r1, h⟩ | ⟨nr1, r1, S2, h1r1, ho⟩
  · refine wq_callVn (As := [.int (wq_I x1)]) (mc := 1) (ms := 6) (n := 7) F K lk_X8_165 (ct_X8_findReport hlt h1r1) ⟨Nat.le_of_ble_eq_true rfl, Nat.le_of_ble_eq_true rfl⟩ ⟨Nat.le_of_ble_eq_true rfl, Nat.le_of_ble_eq_true rfl⟩ (Nat.le_of_ble_eq_true rfl) rfl rfl rfl rfl (Nat.le_of_ble_eq_true rfl) dX8_planSource_2 rfl ?_
    refine wq_astore_n (L' := [some (.ref (b + 0)), some (.int (wq_I x1)), some (.int (wq_I x2)), some (.ref (b + r1))]) F dX8_planSource_5 rfl (by decide) rfl rfl rfl ?_
    refine wq_aload_n F dX8_planSource_6 rfl rfl rfl ?_
    refine wq_iload_n F dX8_planSource_7 rfl rfl rfl ?_
    rcases wq_bx_some h with ⟨r3, S4, h1r3, h⟩ | ⟨nr3, r3, S4, h1r3, ho⟩
    · refine wq_callSn (As := [.ref (b + r1), .int (wq_I x2)]) (mc := 1) (ms := 6) (n := 7) F K lk_X8_219 (ct_X8_checkPlanStep hlt (pd_X8_findReport h1r1) h1r3) ⟨Nat.le_of_ble_eq_true rfl, Nat.le_of_ble_eq_true rfl⟩ ⟨Nat.le_of_ble_eq_true rfl, Nat.le_of_ble_eq_true rfl⟩ rfl rfl (Nat.le_of_ble_eq_true rfl) dX8_planSource_8 rfl ?_
      refine wq_aload_n F dX8_planSource_11 rfl rfl rfl ?_
      refine wq_g_X8_40 F dX8_planSource_12 rfl ?_
      refine wq_aload_n F dX8_planSource_15 rfl rfl rfl ?_
      obtain ⟨r5, S6, h1r5, h⟩ := wq_bd_some h
      refine wq_callV (As := [.ref (b + r1)]) F lk_X8_223 (ct_X4_choose (pd_X8_findReport h1r1) h1r5) ⟨Nat.le_of_ble_eq_true rfl, Nat.le_of_ble_eq_true rfl⟩ ⟨Nat.le_of_ble_eq_true rfl, Nat.le_of_ble_eq_true rfl⟩ (Nat.le_of_ble_eq_true rfl) rfl rfl wq_AbX rfl rfl (Nat.le_of_ble_eq_true rfl) dX8_planSource_16 rfl ?_
      refine wq_g_X8_227 F (pd_X4_choose (pd_X8_findReport h1r1) h1r5) dX8_planSource_19 rfl ?_
      refine wq_iload_n F dX8_planSource_22 rfl rfl rfl ?_
      obtain ⟨t7, ht7, wt7, h⟩ := wq_ix_some h
      refine wq_iald F (wq_pln_lt1 (pd_X4_choose (pd_X8_findReport h1r1) h1r5)) (wq_E_pln1 (pd_X4_choose (pd_X8_findReport h1r1) h1r5)) ht7 wt7 dX8_planSource_23 rfl ?_
      cases h
      exact wq_iretx F rfl rfl rfl (Nat.le_of_ble_eq_true rfl) (Nat.le_of_ble_eq_true rfl) dX8_planSource_24
    · cases ho
      exact wq_callSt (As := [.ref (b + r1), .int (wq_I x2)]) (mc := 1) (ms := 6) (n := 7) F K lk_X8_219 (ct_X8_checkPlanStep hlt (pd_X8_findReport h1r1) h1r3) ⟨Nat.le_of_ble_eq_true rfl, Nat.le_of_ble_eq_true rfl⟩ ⟨Nat.le_of_ble_eq_true rfl, Nat.le_of_ble_eq_true rfl⟩ rfl rfl (Nat.le_of_ble_eq_true rfl) dX8_planSource_8 htab rfl rfl (Nat.le_of_ble_eq_true rfl) (Nat.le_of_ble_eq_true rfl)
  · cases ho
    exact wq_callVt (As := [.int (wq_I x1)]) (mc := 1) (ms := 6) (n := 7) F K lk_X8_165 (ct_X8_findReport hlt h1r1) ⟨Nat.le_of_ble_eq_true rfl, Nat.le_of_ble_eq_true rfl⟩ ⟨Nat.le_of_ble_eq_true rfl, Nat.le_of_ble_eq_true rfl⟩ (Nat.le_of_ble_eq_true rfl) rfl rfl rfl rfl (Nat.le_of_ble_eq_true rfl) dX8_planSource_2 htab rfl rfl (Nat.le_of_ble_eq_true rfl) (Nat.le_of_ble_eq_true rfl)
set_option maxHeartbeats 4000000 in
set_option maxRecDepth 100000 in
theorem ct_X8_planWay {l : Launch} (hlt : l.stackTraces = false) {D : va_G} {Ar : Nat → ClassId} {b : Nat} {x1 : Int} {x2 : Int} {S S0 : wq_St} {o0 : Nat} {r0 : Int} (h : f_X8_planWay x1 x2 S = some (o0, r0, S0)) : wq_Cx l yX8_planWay (.code yX8_planWay cX8_planWay 4 ((Option.some Jvm.ClassFile.FieldType.int))) 13 2 12 D Ar (wq_EC Ar b) b 284 [.ref (b + 0), .int (wq_I x1), .int (wq_I x2)] S o0 (some (.int (wq_I r0))) S0 := by
  refine wq_startx "WharfQuery" [some (.ref (b + 0)), some (.int (wq_I x1)), some (.int (wq_I x2)), none] (by decide +kernel) rfl (Nat.le_of_ble_eq_true rfl) rfl ?_
  intro p e s m args below meth c F K htab
  unfold f_X8_planWay at h
  refine wq_aload_n F dX8_planWay_0 rfl rfl rfl ?_
  refine wq_iload_n F dX8_planWay_1 rfl rfl rfl ?_
  rcases wq_bx_some h with ⟨r1, S2, h1r1, h⟩ | ⟨nr1, r1, S2, h1r1, ho⟩
  · refine wq_callVn (As := [.int (wq_I x1)]) (mc := 1) (ms := 6) (n := 7) F K lk_X8_165 (ct_X8_findReport hlt h1r1) ⟨Nat.le_of_ble_eq_true rfl, Nat.le_of_ble_eq_true rfl⟩ ⟨Nat.le_of_ble_eq_true rfl, Nat.le_of_ble_eq_true rfl⟩ (Nat.le_of_ble_eq_true rfl) rfl rfl rfl rfl (Nat.le_of_ble_eq_true rfl) dX8_planWay_2 rfl ?_
    refine wq_astore_n (L' := [some (.ref (b + 0)), some (.int (wq_I x1)), some (.int (wq_I x2)), some (.ref (b + r1))]) F dX8_planWay_5 rfl (by decide) rfl rfl rfl ?_
    refine wq_aload_n F dX8_planWay_6 rfl rfl rfl ?_
    refine wq_iload_n F dX8_planWay_7 rfl rfl rfl ?_
    rcases wq_bx_some h with ⟨r3, S4, h1r3, h⟩ | ⟨nr3, r3, S4, h1r3, ho⟩
    · refine wq_callSn (As := [.ref (b + r1), .int (wq_I x2)]) (mc := 1) (ms := 6) (n := 7) F K lk_X8_219 (ct_X8_checkPlanStep hlt (pd_X8_findReport h1r1) h1r3) ⟨Nat.le_of_ble_eq_true rfl, Nat.le_of_ble_eq_true rfl⟩ ⟨Nat.le_of_ble_eq_true rfl, Nat.le_of_ble_eq_true rfl⟩ rfl rfl (Nat.le_of_ble_eq_true rfl) dX8_planWay_8 rfl ?_
      refine wq_aload_n F dX8_planWay_11 rfl rfl rfl ?_
      refine wq_g_X8_40 F dX8_planWay_12 rfl ?_
      refine wq_aload_n F dX8_planWay_15 rfl rfl rfl ?_
      obtain ⟨r5, S6, h1r5, h⟩ := wq_bd_some h
      refine wq_callV (As := [.ref (b + r1)]) F lk_X8_223 (ct_X4_choose (pd_X8_findReport h1r1) h1r5) ⟨Nat.le_of_ble_eq_true rfl, Nat.le_of_ble_eq_true rfl⟩ ⟨Nat.le_of_ble_eq_true rfl, Nat.le_of_ble_eq_true rfl⟩ (Nat.le_of_ble_eq_true rfl) rfl rfl wq_AbX rfl rfl (Nat.le_of_ble_eq_true rfl) dX8_planWay_16 rfl ?_
      refine wq_g_X8_230 F (pd_X4_choose (pd_X8_findReport h1r1) h1r5) dX8_planWay_19 rfl ?_
      refine wq_iload_n F dX8_planWay_22 rfl rfl rfl ?_
      obtain ⟨t7, ht7, wt7, h⟩ := wq_ix_some h
      refine wq_iald F (wq_pln_lt2 (pd_X4_choose (pd_X8_findReport h1r1) h1r5)) (wq_E_pln2 (pd_X4_choose (pd_X8_findReport h1r1) h1r5)) ht7 wt7 dX8_planWay_23 rfl ?_
      cases h
      exact wq_iretx F rfl rfl rfl (Nat.le_of_ble_eq_true rfl) (Nat.le_of_ble_eq_true rfl) dX8_planWay_24
    · cases ho
      exact wq_callSt (As := [.ref (b + r1), .int (wq_I x2)]) (mc := 1) (ms := 6) (n := 7) F K lk_X8_219 (ct_X8_checkPlanStep hlt (pd_X8_findReport h1r1) h1r3) ⟨Nat.le_of_ble_eq_true rfl, Nat.le_of_ble_eq_true rfl⟩ ⟨Nat.le_of_ble_eq_true rfl, Nat.le_of_ble_eq_true rfl⟩ rfl rfl (Nat.le_of_ble_eq_true rfl) dX8_planWay_8 htab rfl rfl (Nat.le_of_ble_eq_true rfl) (Nat.le_of_ble_eq_true rfl)
  · cases ho
    exact wq_callVt (As := [.int (wq_I x1)]) (mc := 1) (ms := 6) (n := 7) F K lk_X8_165 (ct_X8_findReport hlt h1r1) ⟨Nat.le_of_ble_eq_true rfl, Nat.le_of_ble_eq_true rfl⟩ ⟨Nat.le_of_ble_eq_true rfl, Nat.le_of_ble_eq_true rfl⟩ (Nat.le_of_ble_eq_true rfl) rfl rfl rfl rfl (Nat.le_of_ble_eq_true rfl) dX8_planWay_2 htab rfl rfl (Nat.le_of_ble_eq_true rfl) (Nat.le_of_ble_eq_true rfl)
set_option maxHeartbeats 4000000 in
set_option maxRecDepth 100000 in
theorem ct_X8_foretold {l : Launch} (hlt : l.stackTraces = false) {D : va_G} {Ar : Nat → ClassId} {b : Nat} {x1 : Int} {S S0 : wq_St} {o0 : Nat} {r0 : Int} (h : f_X8_foretold x1 S = some (o0, r0, S0)) : wq_Cx l yX8_foretold (.code yX8_foretold cX8_foretold 2 ((Option.some Jvm.ClassFile.FieldType.int))) 13 1 6 D Ar (wq_EC Ar b) b 284 [.ref (b + 0), .int (wq_I x1)] S o0 (some (.int (wq_I r0))) S0 := by
  refine wq_startx "WharfQuery" [some (.ref (b + 0)), some (.int (wq_I x1))] (by decide +kernel) rfl (Nat.le_of_ble_eq_true rfl) rfl ?_
  intro p e s m args below meth c F K htab
  unfold f_X8_foretold at h
  refine wq_aload_n F dX8_foretold_0 rfl rfl rfl ?_
  refine wq_g_X8_40 F dX8_foretold_1 rfl ?_
  refine wq_aload_n F dX8_foretold_4 rfl rfl rfl ?_
  refine wq_iload_n F dX8_foretold_5 rfl rfl rfl ?_
  rcases wq_bx_some h with ⟨r1, S2, h1r1, h⟩ | ⟨nr1, r1, S2, h1r1, ho⟩
  · refine wq_callVn (As := [.int (wq_I x1)]) (mc := 1) (ms := 6) (n := 7) F K lk_X8_165 (ct_X8_findReport hlt h1r1) ⟨Nat.le_of_ble_eq_true rfl, Nat.le_of_ble_eq_true rfl⟩ ⟨Nat.le_of_ble_eq_true rfl, Nat.le_of_ble_eq_true rfl⟩ (Nat.le_of_ble_eq_true rfl) rfl rfl rfl rfl (Nat.le_of_ble_eq_true rfl) dX8_foretold_6 rfl ?_
    obtain ⟨r3, S4, h1r3, h⟩ := wq_bd_some h
    refine wq_callV (As := [.ref (b + r1)]) F lk_X8_223 (ct_X4_choose (pd_X8_findReport h1r1) h1r3) ⟨Nat.le_of_ble_eq_true rfl, Nat.le_of_ble_eq_true rfl⟩ ⟨Nat.le_of_ble_eq_true rfl, Nat.le_of_ble_eq_true rfl⟩ (Nat.le_of_ble_eq_true rfl) rfl rfl wq_AbX rfl rfl (Nat.le_of_ble_eq_true rfl) dX8_foretold_9 rfl ?_
    obtain ⟨r5, S6, h1r5, h⟩ := wq_bd_some h
    refine wq_callV (As := []) F lk_X8_233 (ct_X3_foretoldMinutes (pd_X4_choose (pd_X8_findReport h1r1) h1r3) h1r5) ⟨Nat.le_of_ble_eq_true rfl, Nat.le_of_ble_eq_true rfl⟩ ⟨Nat.le_of_ble_eq_true rfl, Nat.le_of_ble_eq_true rfl⟩ (wq_pln_lt (pd_X4_choose (pd_X8_findReport h1r1) h1r3)) (wq_E_pln (pd_X4_choose (pd_X8_findReport h1r1) h1r3)) rfl wq_AbX rfl rfl (Nat.le_of_ble_eq_true rfl) dX8_foretold_12 rfl ?_
    cases h
    exact wq_iretx F rfl rfl rfl (Nat.le_of_ble_eq_true rfl) (Nat.le_of_ble_eq_true rfl) dX8_foretold_15
  · cases ho
    exact wq_callVt (As := [.int (wq_I x1)]) (mc := 1) (ms := 6) (n := 7) F K lk_X8_165 (ct_X8_findReport hlt h1r1) ⟨Nat.le_of_ble_eq_true rfl, Nat.le_of_ble_eq_true rfl⟩ ⟨Nat.le_of_ble_eq_true rfl, Nat.le_of_ble_eq_true rfl⟩ (Nat.le_of_ble_eq_true rfl) rfl rfl rfl rfl (Nat.le_of_ble_eq_true rfl) dX8_foretold_6 htab rfl rfl (Nat.le_of_ble_eq_true rfl) (Nat.le_of_ble_eq_true rfl)
set_option maxHeartbeats 4000000 in
set_option maxRecDepth 100000 in
theorem ct_X8_runChosenPlan {l : Launch} {D : va_G} {Ar : Nat → ClassId} {b : Nat} {k1 : Nat} {S S0 : wq_St} {r0 : Int} (hk1 : wq_rep k1) (h : f_X8_runChosenPlan k1 S = some (r0, S0)) : wq_Ct l yX8_runChosenPlan (.code yX8_runChosenPlan cX8_runChosenPlan 2 ((Option.none : Option Jvm.ClassFile.FieldType))) 13 D Ar (wq_EC Ar b) b 284 [.ref (b + 0), .ref (b + k1)] S none S0 := by
  refine wq_start "WharfQuery" [some (.ref (b + 0)), some (.ref (b + k1))] (by decide +kernel) rfl (Nat.le_of_ble_eq_true rfl) rfl ?_
  intro p e s m args below meth c F
  unfold f_X8_runChosenPlan at h
  refine wq_aload_n F dX8_runChosenPlan_0 rfl rfl rfl ?_
  refine wq_g_X8_44 F dX8_runChosenPlan_1 rfl ?_
  refine wq_aload_n F dX8_runChosenPlan_4 rfl rfl rfl ?_
  refine wq_aload_n F dX8_runChosenPlan_5 rfl rfl rfl ?_
  refine wq_g_X8_40 F dX8_runChosenPlan_6 rfl ?_
  refine wq_aload_n F dX8_runChosenPlan_9 rfl rfl rfl ?_
  obtain ⟨r1, S2, h1r1, h⟩ := wq_bd_some h
  refine wq_callV (As := [.ref (b + k1)]) F lk_X8_223 (ct_X4_choose hk1 h1r1) ⟨Nat.le_of_ble_eq_true rfl, Nat.le_of_ble_eq_true rfl⟩ ⟨Nat.le_of_ble_eq_true rfl, Nat.le_of_ble_eq_true rfl⟩ (Nat.le_of_ble_eq_true rfl) rfl rfl (fun _ h9 => h9) rfl rfl (Nat.le_of_ble_eq_true rfl) dX8_runChosenPlan_10 rfl ?_
  obtain ⟨r3, S4, h1r3, h⟩ := wq_bd_some h
  refine wq_callV (As := [.ref (b + k1), .ref (b + r1)]) F lk_X8_309 (ct_X6_goThrough hk1 (pd_X4_choose hk1 h1r1) h1r3) ⟨Nat.le_of_ble_eq_true rfl, Nat.le_of_ble_eq_true rfl⟩ ⟨Nat.le_of_ble_eq_true rfl, Nat.le_of_ble_eq_true rfl⟩ (Nat.le_of_ble_eq_true rfl) rfl rfl (fun _ h9 => h9) rfl rfl (Nat.le_of_ble_eq_true rfl) dX8_runChosenPlan_13 rfl ?_
  cases h
  exact wq_vret F rfl rfl dX8_runChosenPlan_16
set_option maxHeartbeats 4000000 in
set_option maxRecDepth 100000 in
theorem ct_X8_minutes {l : Launch} (hlt : l.stackTraces = false) {D : va_G} {Ar : Nat → ClassId} {b : Nat} {x1 : Int} {S S0 : wq_St} {o0 : Nat} {r0 : Int} (h : f_X8_minutes x1 S = some (o0, r0, S0)) : wq_Cx l yX8_minutes (.code yX8_minutes cX8_minutes 2 ((Option.some Jvm.ClassFile.FieldType.int))) 14 1 6 D Ar (wq_EC Ar b) b 284 [.ref (b + 0), .int (wq_I x1)] S o0 (some (.int (wq_I r0))) S0 := by
  refine wq_startx "WharfQuery" [some (.ref (b + 0)), some (.int (wq_I x1))] (by decide +kernel) rfl (Nat.le_of_ble_eq_true rfl) rfl ?_
  intro p e s m args below meth c F K htab
  unfold f_X8_minutes at h
  refine wq_aload_n F dX8_minutes_0 rfl rfl rfl ?_
  refine wq_aload_n F dX8_minutes_1 rfl rfl rfl ?_
  refine wq_iload_n F dX8_minutes_2 rfl rfl rfl ?_
  rcases wq_bx_some h with ⟨r1, S2, h1r1, h⟩ | ⟨nr1, r1, S2, h1r1, ho⟩
  · refine wq_callVn (As := [.int (wq_I x1)]) (mc := 1) (ms := 6) (n := 7) F K lk_X8_165 (ct_X8_findReport hlt h1r1) ⟨Nat.le_of_ble_eq_true rfl, Nat.le_of_ble_eq_true rfl⟩ ⟨Nat.le_of_ble_eq_true rfl, Nat.le_of_ble_eq_true rfl⟩ (Nat.le_of_ble_eq_true rfl) rfl rfl rfl rfl (Nat.le_of_ble_eq_true rfl) dX8_minutes_3 rfl ?_
    obtain ⟨r3, S4, h1r3, h⟩ := wq_bd_some h
    refine wq_callV (As := [.ref (b + r1)]) F lk_X8_237 (ct_X8_runChosenPlan (pd_X8_findReport h1r1) h1r3) ⟨Nat.le_of_ble_eq_true rfl, Nat.le_of_ble_eq_true rfl⟩ ⟨Nat.le_of_ble_eq_true rfl, Nat.le_of_ble_eq_true rfl⟩ (Nat.le_of_ble_eq_true rfl) rfl rfl wq_AbX rfl rfl (Nat.le_of_ble_eq_true rfl) dX8_minutes_6 rfl ?_
    refine wq_aload_n F dX8_minutes_9 rfl rfl rfl ?_
    refine wq_g_X8_44 F dX8_minutes_10 rfl ?_
    refine wq_g_X8_240 F dX8_minutes_13 rfl ?_
    cases h
    exact wq_iretx F rfl rfl rfl (Nat.le_of_ble_eq_true rfl) (Nat.le_of_ble_eq_true rfl) dX8_minutes_16
  · cases ho
    exact wq_callVt (As := [.int (wq_I x1)]) (mc := 1) (ms := 6) (n := 7) F K lk_X8_165 (ct_X8_findReport hlt h1r1) ⟨Nat.le_of_ble_eq_true rfl, Nat.le_of_ble_eq_true rfl⟩ ⟨Nat.le_of_ble_eq_true rfl, Nat.le_of_ble_eq_true rfl⟩ (Nat.le_of_ble_eq_true rfl) rfl rfl rfl rfl (Nat.le_of_ble_eq_true rfl) dX8_minutes_3 htab rfl rfl (Nat.le_of_ble_eq_true rfl) (Nat.le_of_ble_eq_true rfl)
set_option maxHeartbeats 4000000 in
set_option maxRecDepth 100000 in
theorem ct_X8_answer {l : Launch} (hlt : l.stackTraces = false) {D : va_G} {Ar : Nat → ClassId} {b : Nat} {x1 : Int} {S S0 : wq_St} {o0 : Nat} {r0 : Int} (h : f_X8_answer x1 S = some (o0, r0, S0)) : wq_Cx l yX8_answer (.code yX8_answer cX8_answer 2 ((Option.some Jvm.ClassFile.FieldType.int))) 14 1 6 D Ar (wq_EC Ar b) b 284 [.ref (b + 0), .int (wq_I x1)] S o0 (some (.int (wq_I r0))) S0 := by
  refine wq_startx "WharfQuery" [some (.ref (b + 0)), some (.int (wq_I x1))] (by decide +kernel) rfl (Nat.le_of_ble_eq_true rfl) rfl ?_
  intro p e s m args below meth c F K htab
  unfold f_X8_answer at h
  refine wq_aload_n F dX8_answer_0 rfl rfl rfl ?_
  refine wq_aload_n F dX8_answer_1 rfl rfl rfl ?_
  refine wq_iload_n F dX8_answer_2 rfl rfl rfl ?_
  rcases wq_bx_some h with ⟨r1, S2, h1r1, h⟩ | ⟨nr1, r1, S2, h1r1, ho⟩
  · refine wq_callVn (As := [.int (wq_I x1)]) (mc := 1) (ms := 6) (n := 7) F K lk_X8_165 (ct_X8_findReport hlt h1r1) ⟨Nat.le_of_ble_eq_true rfl, Nat.le_of_ble_eq_true rfl⟩ ⟨Nat.le_of_ble_eq_true rfl, Nat.le_of_ble_eq_true rfl⟩ (Nat.le_of_ble_eq_true rfl) rfl rfl rfl rfl (Nat.le_of_ble_eq_true rfl) dX8_answer_3 rfl ?_
    obtain ⟨r3, S4, h1r3, h⟩ := wq_bd_some h
    refine wq_callV (As := [.ref (b + r1)]) F lk_X8_237 (ct_X8_runChosenPlan (pd_X8_findReport h1r1) h1r3) ⟨Nat.le_of_ble_eq_true rfl, Nat.le_of_ble_eq_true rfl⟩ ⟨Nat.le_of_ble_eq_true rfl, Nat.le_of_ble_eq_true rfl⟩ (Nat.le_of_ble_eq_true rfl) rfl rfl wq_AbX rfl rfl (Nat.le_of_ble_eq_true rfl) dX8_answer_6 rfl ?_
    refine wq_aload_n F dX8_answer_9 rfl rfl rfl ?_
    refine wq_g_X8_44 F dX8_answer_10 rfl ?_
    refine wq_g_X8_243 F dX8_answer_13 rfl ?_
    cases h
    exact wq_iretx F rfl rfl rfl (Nat.le_of_ble_eq_true rfl) (Nat.le_of_ble_eq_true rfl) dX8_answer_16
  · cases ho
    exact wq_callVt (As := [.int (wq_I x1)]) (mc := 1) (ms := 6) (n := 7) F K lk_X8_165 (ct_X8_findReport hlt h1r1) ⟨Nat.le_of_ble_eq_true rfl, Nat.le_of_ble_eq_true rfl⟩ ⟨Nat.le_of_ble_eq_true rfl, Nat.le_of_ble_eq_true rfl⟩ (Nat.le_of_ble_eq_true rfl) rfl rfl rfl rfl (Nat.le_of_ble_eq_true rfl) dX8_answer_3 htab rfl rfl (Nat.le_of_ble_eq_true rfl) (Nat.le_of_ble_eq_true rfl)
set_option maxHeartbeats 4000000 in
set_option maxRecDepth 100000 in
theorem ct_X8_sum {l : Launch} (hlt : l.stackTraces = false) {D : va_G} {Ar : Nat → ClassId} {b : Nat} {x1 : Int} {S S0 : wq_St} {o0 : Nat} {r0 : Int} (h : f_X8_sum x1 S = some (o0, r0, S0)) : wq_Cx l yX8_sum (.code yX8_sum cX8_sum 2 ((Option.some Jvm.ClassFile.FieldType.int))) 14 1 6 D Ar (wq_EC Ar b) b 284 [.ref (b + 0), .int (wq_I x1)] S o0 (some (.int (wq_I r0))) S0 := by
  refine wq_startx "WharfQuery" [some (.ref (b + 0)), some (.int (wq_I x1))] (by decide +kernel) rfl (Nat.le_of_ble_eq_true rfl) rfl ?_
  intro p e s m args below meth c F K htab
  unfold f_X8_sum at h
  refine wq_aload_n F dX8_sum_0 rfl rfl rfl ?_
  refine wq_aload_n F dX8_sum_1 rfl rfl rfl ?_
  refine wq_iload_n F dX8_sum_2 rfl rfl rfl ?_
  rcases wq_bx_some h with ⟨r1, S2, h1r1, h⟩ | ⟨nr1, r1, S2, h1r1, ho⟩
  · refine wq_callVn (As := [.int (wq_I x1)]) (mc := 1) (ms := 6) (n := 7) F K lk_X8_165 (ct_X8_findReport hlt h1r1) ⟨Nat.le_of_ble_eq_true rfl, Nat.le_of_ble_eq_true rfl⟩ ⟨Nat.le_of_ble_eq_true rfl, Nat.le_of_ble_eq_true rfl⟩ (Nat.le_of_ble_eq_true rfl) rfl rfl rfl rfl (Nat.le_of_ble_eq_true rfl) dX8_sum_3 rfl ?_
    obtain ⟨r3, S4, h1r3, h⟩ := wq_bd_some h
    refine wq_callV (As := [.ref (b + r1)]) F lk_X8_237 (ct_X8_runChosenPlan (pd_X8_findReport h1r1) h1r3) ⟨Nat.le_of_ble_eq_true rfl, Nat.le_of_ble_eq_true rfl⟩ ⟨Nat.le_of_ble_eq_true rfl, Nat.le_of_ble_eq_true rfl⟩ (Nat.le_of_ble_eq_true rfl) rfl rfl wq_AbX rfl rfl (Nat.le_of_ble_eq_true rfl) dX8_sum_6 rfl ?_
    refine wq_aload_n F dX8_sum_9 rfl rfl rfl ?_
    refine wq_g_X8_44 F dX8_sum_10 rfl ?_
    refine wq_g_X8_246 F dX8_sum_13 rfl ?_
    cases h
    exact wq_iretx F rfl rfl rfl (Nat.le_of_ble_eq_true rfl) (Nat.le_of_ble_eq_true rfl) dX8_sum_16
  · cases ho
    exact wq_callVt (As := [.int (wq_I x1)]) (mc := 1) (ms := 6) (n := 7) F K lk_X8_165 (ct_X8_findReport hlt h1r1) ⟨Nat.le_of_ble_eq_true rfl, Nat.le_of_ble_eq_true rfl⟩ ⟨Nat.le_of_ble_eq_true rfl, Nat.le_of_ble_eq_true rfl⟩ (Nat.le_of_ble_eq_true rfl) rfl rfl rfl rfl (Nat.le_of_ble_eq_true rfl) dX8_sum_3 htab rfl rfl (Nat.le_of_ble_eq_true rfl) (Nat.le_of_ble_eq_true rfl)
set_option maxHeartbeats 4000000 in
set_option maxRecDepth 100000 in
theorem ct_X8_runPlainPlan {l : Launch} {D : va_G} {Ar : Nat → ClassId} {b : Nat} {k1 : Nat} {S S0 : wq_St} {r0 : Int} (hk1 : wq_rep k1) (h : f_X8_runPlainPlan k1 S = some (r0, S0)) : wq_Ct l yX8_runPlainPlan (.code yX8_runPlainPlan cX8_runPlainPlan 2 ((Option.none : Option Jvm.ClassFile.FieldType))) 13 D Ar (wq_EC Ar b) b 284 [.ref (b + 0), .ref (b + k1)] S none S0 := by
  refine wq_start "WharfQuery" [some (.ref (b + 0)), some (.ref (b + k1))] (by decide +kernel) rfl (Nat.le_of_ble_eq_true rfl) rfl ?_
  intro p e s m args below meth c F
  unfold f_X8_runPlainPlan at h
  refine wq_aload_n F dX8_runPlainPlan_0 rfl rfl rfl ?_
  refine wq_g_X8_12 F dX8_runPlainPlan_1 rfl ?_
  refine wq_aload_n F dX8_runPlainPlan_4 rfl rfl rfl ?_
  refine wq_g_X8_169 F hk1 dX8_runPlainPlan_5 rfl ?_
  obtain ⟨r1, S2, h1r1, h⟩ := wq_bd_some h
  refine wq_callV (As := [.int (wq_I (S k1 3))]) F lk_X8_313 (ct_X3_becomePlain wq_pln_1 h1r1) ⟨Nat.le_of_ble_eq_true rfl, Nat.le_of_ble_eq_true rfl⟩ ⟨Nat.le_of_ble_eq_true rfl, Nat.le_of_ble_eq_true rfl⟩ (wq_pln_lt wq_pln_1) (wq_E_pln wq_pln_1) rfl (fun _ h9 => h9) rfl rfl (Nat.le_of_ble_eq_true rfl) dX8_runPlainPlan_8 rfl ?_
  refine wq_aload_n F dX8_runPlainPlan_11 rfl rfl rfl ?_
  refine wq_g_X8_44 F dX8_runPlainPlan_12 rfl ?_
  refine wq_aload_n F dX8_runPlainPlan_15 rfl rfl rfl ?_
  refine wq_aload_n F dX8_runPlainPlan_16 rfl rfl rfl ?_
  refine wq_g_X8_12 F dX8_runPlainPlan_17 rfl ?_
  obtain ⟨r3, S4, h1r3, h⟩ := wq_bd_some h
  refine wq_callV (As := [.ref (b + k1), .ref (b + 1)]) F lk_X8_309 (ct_X6_goThrough hk1 wq_pln_1 h1r3) ⟨Nat.le_of_ble_eq_true rfl, Nat.le_of_ble_eq_true rfl⟩ ⟨Nat.le_of_ble_eq_true rfl, Nat.le_of_ble_eq_true rfl⟩ (Nat.le_of_ble_eq_true rfl) rfl rfl (fun _ h9 => h9) rfl rfl (Nat.le_of_ble_eq_true rfl) dX8_runPlainPlan_20 rfl ?_
  cases h
  exact wq_vret F rfl rfl dX8_runPlainPlan_23
set_option maxHeartbeats 4000000 in
set_option maxRecDepth 100000 in
theorem ct_X8_plainAnswer {l : Launch} (hlt : l.stackTraces = false) {D : va_G} {Ar : Nat → ClassId} {b : Nat} {x1 : Int} {S S0 : wq_St} {o0 : Nat} {r0 : Int} (h : f_X8_plainAnswer x1 S = some (o0, r0, S0)) : wq_Cx l yX8_plainAnswer (.code yX8_plainAnswer cX8_plainAnswer 2 ((Option.some Jvm.ClassFile.FieldType.int))) 14 1 6 D Ar (wq_EC Ar b) b 284 [.ref (b + 0), .int (wq_I x1)] S o0 (some (.int (wq_I r0))) S0 := by
  refine wq_startx "WharfQuery" [some (.ref (b + 0)), some (.int (wq_I x1))] (by decide +kernel) rfl (Nat.le_of_ble_eq_true rfl) rfl ?_
  intro p e s m args below meth c F K htab
  unfold f_X8_plainAnswer at h
  refine wq_aload_n F dX8_plainAnswer_0 rfl rfl rfl ?_
  refine wq_aload_n F dX8_plainAnswer_1 rfl rfl rfl ?_
  refine wq_iload_n F dX8_plainAnswer_2 rfl rfl rfl ?_
  rcases wq_bx_some h with ⟨r1, S2, h1r1, h⟩ | ⟨nr1, r1, S2, h1r1, ho⟩
  · refine wq_callVn (As := [.int (wq_I x1)]) (mc := 1) (ms := 6) (n := 7) F K lk_X8_165 (ct_X8_findReport hlt h1r1) ⟨Nat.le_of_ble_eq_true rfl, Nat.le_of_ble_eq_true rfl⟩ ⟨Nat.le_of_ble_eq_true rfl, Nat.le_of_ble_eq_true rfl⟩ (Nat.le_of_ble_eq_true rfl) rfl rfl rfl rfl (Nat.le_of_ble_eq_true rfl) dX8_plainAnswer_3 rfl ?_
    obtain ⟨r3, S4, h1r3, h⟩ := wq_bd_some h
    refine wq_callV (As := [.ref (b + r1)]) F lk_X8_249 (ct_X8_runPlainPlan (pd_X8_findReport h1r1) h1r3) ⟨Nat.le_of_ble_eq_true rfl, Nat.le_of_ble_eq_true rfl⟩ ⟨Nat.le_of_ble_eq_true rfl, Nat.le_of_ble_eq_true rfl⟩ (Nat.le_of_ble_eq_true rfl) rfl rfl wq_AbX rfl rfl (Nat.le_of_ble_eq_true rfl) dX8_plainAnswer_6 rfl ?_
    refine wq_aload_n F dX8_plainAnswer_9 rfl rfl rfl ?_
    refine wq_g_X8_44 F dX8_plainAnswer_10 rfl ?_
    refine wq_g_X8_243 F dX8_plainAnswer_13 rfl ?_
    cases h
    exact wq_iretx F rfl rfl rfl (Nat.le_of_ble_eq_true rfl) (Nat.le_of_ble_eq_true rfl) dX8_plainAnswer_16
  · cases ho
    exact wq_callVt (As := [.int (wq_I x1)]) (mc := 1) (ms := 6) (n := 7) F K lk_X8_165 (ct_X8_findReport hlt h1r1) ⟨Nat.le_of_ble_eq_true rfl, Nat.le_of_ble_eq_true rfl⟩ ⟨Nat.le_of_ble_eq_true rfl, Nat.le_of_ble_eq_true rfl⟩ (Nat.le_of_ble_eq_true rfl) rfl rfl rfl rfl (Nat.le_of_ble_eq_true rfl) dX8_plainAnswer_3 htab rfl rfl (Nat.le_of_ble_eq_true rfl) (Nat.le_of_ble_eq_true rfl)
set_option maxHeartbeats 4000000 in
set_option maxRecDepth 100000 in
theorem ct_X8_plainSum {l : Launch} (hlt : l.stackTraces = false) {D : va_G} {Ar : Nat → ClassId} {b : Nat} {x1 : Int} {S S0 : wq_St} {o0 : Nat} {r0 : Int} (h : f_X8_plainSum x1 S = some (o0, r0, S0)) : wq_Cx l yX8_plainSum (.code yX8_plainSum cX8_plainSum 2 ((Option.some Jvm.ClassFile.FieldType.int))) 14 1 6 D Ar (wq_EC Ar b) b 284 [.ref (b + 0), .int (wq_I x1)] S o0 (some (.int (wq_I r0))) S0 := by
  refine wq_startx "WharfQuery" [some (.ref (b + 0)), some (.int (wq_I x1))] (by decide +kernel) rfl (Nat.le_of_ble_eq_true rfl) rfl ?_
  intro p e s m args below meth c F K htab
  unfold f_X8_plainSum at h
  refine wq_aload_n F dX8_plainSum_0 rfl rfl rfl ?_
  refine wq_aload_n F dX8_plainSum_1 rfl rfl rfl ?_
  refine wq_iload_n F dX8_plainSum_2 rfl rfl rfl ?_
  rcases wq_bx_some h with ⟨r1, S2, h1r1, h⟩ | ⟨nr1, r1, S2, h1r1, ho⟩
  · refine wq_callVn (As := [.int (wq_I x1)]) (mc := 1) (ms := 6) (n := 7) F K lk_X8_165 (ct_X8_findReport hlt h1r1) ⟨Nat.le_of_ble_eq_true rfl, Nat.le_of_ble_eq_true rfl⟩ ⟨Nat.le_of_ble_eq_true rfl, Nat.le_of_ble_eq_true rfl⟩ (Nat.le_of_ble_eq_true rfl) rfl rfl rfl rfl (Nat.le_of_ble_eq_true rfl) dX8_plainSum_3 rfl ?_
    obtain ⟨r3, S4, h1r3, h⟩ := wq_bd_some h
    refine wq_callV (As := [.ref (b + r1)]) F lk_X8_249 (ct_X8_runPlainPlan (pd_X8_findReport h1r1) h1r3) ⟨Nat.le_of_ble_eq_true rfl, Nat.le_of_ble_eq_true rfl⟩ ⟨Nat.le_of_ble_eq_true rfl, Nat.le_of_ble_eq_true rfl⟩ (Nat.le_of_ble_eq_true rfl) rfl rfl wq_AbX rfl rfl (Nat.le_of_ble_eq_true rfl) dX8_plainSum_6 rfl ?_
    refine wq_aload_n F dX8_plainSum_9 rfl rfl rfl ?_
    refine wq_g_X8_44 F dX8_plainSum_10 rfl ?_
    refine wq_g_X8_246 F dX8_plainSum_13 rfl ?_
    cases h
    exact wq_iretx F rfl rfl rfl (Nat.le_of_ble_eq_true rfl) (Nat.le_of_ble_eq_true rfl) dX8_plainSum_16
  · cases ho
    exact wq_callVt (As := [.int (wq_I x1)]) (mc := 1) (ms := 6) (n := 7) F K lk_X8_165 (ct_X8_findReport hlt h1r1) ⟨Nat.le_of_ble_eq_true rfl, Nat.le_of_ble_eq_true rfl⟩ ⟨Nat.le_of_ble_eq_true rfl, Nat.le_of_ble_eq_true rfl⟩ (Nat.le_of_ble_eq_true rfl) rfl rfl rfl rfl (Nat.le_of_ble_eq_true rfl) dX8_plainSum_3 htab rfl rfl (Nat.le_of_ble_eq_true rfl) (Nat.le_of_ble_eq_true rfl)
set_option maxHeartbeats 4000000 in
set_option maxRecDepth 100000 in
theorem ct_X8_night {l : Launch} (hlt : l.stackTraces = false) {D : va_G} {Ar : Nat → ClassId} {b : Nat} {x1 : Int} {S S0 : wq_St} {o0 : Nat} {r0 : Int} (h : f_X8_night x1 S = some (o0, r0, S0)) : wq_Cx l yX8_night (.code yX8_night cX8_night 2 ((Option.some Jvm.ClassFile.FieldType.int))) 14 1 6 D Ar (wq_EC Ar b) b 284 [.ref (b + 0), .int (wq_I x1)] S o0 (some (.int (wq_I r0))) S0 := by
  refine wq_startx "WharfQuery" [some (.ref (b + 0)), some (.int (wq_I x1))] (by decide +kernel) rfl (Nat.le_of_ble_eq_true rfl) rfl ?_
  intro p e s m args below meth c F K htab
  unfold f_X8_night at h
  refine wq_iload_n F dX8_night_0 rfl rfl rfl ?_
  refine wq_if_lt (tgt := 11) F dX8_night_1 (by decide) rfl (fun hc => ?_) (fun hc => ?_)
  · replace h := wq_ift hc h
    cases h
    exact wq_throw (names := ["java/lang/RuntimeException", "java/lang/Exception"]) F K htab hlt rfl (by decide +kernel) (by decide +kernel) aw_466 aw_33 (List.mem_of_getElem? (i := 8) rfl) wq_hat1_67 wq_hat2_67 (by decide +kernel) (Nat.le_of_ble_eq_true rfl) (Nat.le_of_ble_eq_true rfl) (Nat.le_of_ble_eq_true rfl) (Nat.le_of_ble_eq_true rfl) (Nat.le_of_ble_eq_true rfl) (Nat.le_of_ble_eq_true rfl) (by decide) rfl rfl dX8_night_11 dX8_night_14 dX8_night_15 dX8_night_17 dX8_night_20
  · replace h := wq_iff hc h
    refine wq_iload_n F dX8_night_4 rfl rfl rfl ?_
    refine wq_sipush (n := 1000) F dX8_night_5 (by decide) rfl ?_
    refine wq_icmp_le (tgt := 21) F dX8_night_8 (by decide) rfl (fun hc => ?_) (fun hc => ?_)
    · replace h := wq_ift hc h
      refine wq_aload_n F dX8_night_21 rfl rfl rfl ?_
      refine wq_g_X8_53 F dX8_night_22 rfl ?_
      refine wq_g_X8_254 F dX8_night_25 rfl ?_
      refine wq_sipush (n := 500) F dX8_night_28 (by decide) rfl ?_
      refine wq_icmp_lt (tgt := 45) F dX8_night_31 (by decide) rfl (fun hc => ?_) (fun hc => ?_)
      · replace h := wq_ift hc h
        refine wq_aload_n F dX8_night_45 rfl rfl rfl ?_
        refine wq_g_X8_53 F dX8_night_46 rfl ?_
        refine wq_iload_n F dX8_night_49 rfl rfl rfl ?_
        obtain ⟨r1, S2, h1r1, h⟩ := wq_bd_some h
        refine wq_callV (As := [.int (wq_I x1)]) F lk_X8_259 (ct_X2_takePay h1r1) ⟨Nat.le_of_ble_eq_true rfl, Nat.le_of_ble_eq_true rfl⟩ ⟨Nat.le_of_ble_eq_true rfl, Nat.le_of_ble_eq_true rfl⟩ (Nat.le_of_ble_eq_true rfl) rfl rfl wq_AbX rfl rfl (Nat.le_of_ble_eq_true rfl) dX8_night_50 rfl ?_
        refine wq_aload_n F dX8_night_53 rfl rfl rfl ?_
        refine wq_g_X8_53 F dX8_night_54 rfl ?_
        obtain ⟨r3, S4, h1r3, h⟩ := wq_bd_some h
        refine wq_callV (As := []) F lk_X8_262 (ct_X2_renewMarkedTables h1r3) ⟨Nat.le_of_ble_eq_true rfl, Nat.le_of_ble_eq_true rfl⟩ ⟨Nat.le_of_ble_eq_true rfl, Nat.le_of_ble_eq_true rfl⟩ (Nat.le_of_ble_eq_true rfl) rfl rfl wq_AbX rfl rfl (Nat.le_of_ble_eq_true rfl) dX8_night_57 rfl ?_
        refine wq_aload_n F dX8_night_60 rfl rfl rfl ?_
        refine wq_g_X8_53 F dX8_night_61 rfl ?_
        obtain ⟨r5, S6, h1r5, h⟩ := wq_bd_some h
        refine wq_callV (As := []) F lk_X8_265 (ct_X2_runDueReports h1r5) ⟨Nat.le_of_ble_eq_true rfl, Nat.le_of_ble_eq_true rfl⟩ ⟨Nat.le_of_ble_eq_true rfl, Nat.le_of_ble_eq_true rfl⟩ (Nat.le_of_ble_eq_true rfl) rfl rfl wq_AbX rfl rfl (Nat.le_of_ble_eq_true rfl) dX8_night_64 rfl ?_
        cases h
        exact wq_iretx F rfl rfl rfl (Nat.le_of_ble_eq_true rfl) (Nat.le_of_ble_eq_true rfl) dX8_night_67
      · replace h := wq_iff hc h
        cases h
        exact wq_throww (names := ["java/lang/RuntimeException", "java/lang/Exception"]) F K htab hlt rfl (by decide +kernel) (by decide +kernel) aw_482 aw_34 (List.mem_of_getElem? (i := 9) rfl) wq_hat1_78 wq_hat2_78 (by decide +kernel) (Nat.le_of_ble_eq_true rfl) (Nat.le_of_ble_eq_true rfl) (Nat.le_of_ble_eq_true rfl) (Nat.le_of_ble_eq_true rfl) (Nat.le_of_ble_eq_true rfl) (Nat.le_of_ble_eq_true rfl) (by decide) rfl rfl dX8_night_34 dX8_night_37 dX8_night_38 dX8_night_41 dX8_night_44
    · replace h := wq_iff hc h
      cases h
      exact wq_throw (names := ["java/lang/RuntimeException", "java/lang/Exception"]) F K htab hlt rfl (by decide +kernel) (by decide +kernel) aw_466 aw_33 (List.mem_of_getElem? (i := 8) rfl) wq_hat1_67 wq_hat2_67 (by decide +kernel) (Nat.le_of_ble_eq_true rfl) (Nat.le_of_ble_eq_true rfl) (Nat.le_of_ble_eq_true rfl) (Nat.le_of_ble_eq_true rfl) (Nat.le_of_ble_eq_true rfl) (Nat.le_of_ble_eq_true rfl) (by decide) rfl rfl dX8_night_11 dX8_night_14 dX8_night_15 dX8_night_17 dX8_night_20
set_option maxHeartbeats 4000000 in
set_option maxRecDepth 100000 in
theorem ct_X8_nights {l : Launch} {D : va_G} {Ar : Nat → ClassId} {b : Nat} {S S0 : wq_St} {r0 : Int} (h : f_X8_nights S = some (r0, S0)) : wq_Ct l yX8_nights (.code yX8_nights cX8_nights 1 ((Option.some Jvm.ClassFile.FieldType.int))) 1 D Ar (wq_EC Ar b) b 284 [.ref (b + 0)] S (some (.int (wq_I r0))) S0 := by
  refine wq_start "WharfQuery" [some (.ref (b + 0))] (by decide +kernel) rfl (Nat.le_of_ble_eq_true rfl) rfl ?_
  intro p e s m args below meth c F
  unfold f_X8_nights at h
  refine wq_aload_n F dX8_nights_0 rfl rfl rfl ?_
  refine wq_g_X8_53 F dX8_nights_1 rfl ?_
  refine wq_g_X8_254 F dX8_nights_4 rfl ?_
  cases h
  exact wq_iret F rfl rfl dX8_nights_7
set_option maxHeartbeats 4000000 in
set_option maxRecDepth 100000 in
theorem ct_X8_paid {l : Launch} {D : va_G} {Ar : Nat → ClassId} {b : Nat} {S S0 : wq_St} {r0 : Int} (h : f_X8_paid S = some (r0, S0)) : wq_Ct l yX8_paid (.code yX8_paid cX8_paid 1 ((Option.some Jvm.ClassFile.FieldType.int))) 1 D Ar (wq_EC Ar b) b 284 [.ref (b + 0)] S (some (.int (wq_I r0))) S0 := by
  refine wq_start "WharfQuery" [some (.ref (b + 0))] (by decide +kernel) rfl (Nat.le_of_ble_eq_true rfl) rfl ?_
  intro p e s m args below meth c F
  unfold f_X8_paid at h
  refine wq_aload_n F dX8_paid_0 rfl rfl rfl ?_
  refine wq_g_X8_53 F dX8_paid_1 rfl ?_
  refine wq_g_X8_268 F dX8_paid_4 rfl ?_
  cases h
  exact wq_iret F rfl rfl dX8_paid_7
set_option maxHeartbeats 4000000 in
set_option maxRecDepth 100000 in
theorem ct_X8_left {l : Launch} {D : va_G} {Ar : Nat → ClassId} {b : Nat} {S S0 : wq_St} {r0 : Int} (h : f_X8_left S = some (r0, S0)) : wq_Ct l yX8_left (.code yX8_left cX8_left 1 ((Option.some Jvm.ClassFile.FieldType.int))) 1 D Ar (wq_EC Ar b) b 284 [.ref (b + 0)] S (some (.int (wq_I r0))) S0 := by
  refine wq_start "WharfQuery" [some (.ref (b + 0))] (by decide +kernel) rfl (Nat.le_of_ble_eq_true rfl) rfl ?_
  intro p e s m args below meth c F
  unfold f_X8_left at h
  refine wq_aload_n F dX8_left_0 rfl rfl rfl ?_
  refine wq_g_X8_53 F dX8_left_1 rfl ?_
  refine wq_g_X8_271 F dX8_left_4 rfl ?_
  cases h
  exact wq_iret F rfl rfl dX8_left_7
set_option maxHeartbeats 4000000 in
set_option maxRecDepth 100000 in
theorem ct_X8_owed {l : Launch} {D : va_G} {Ar : Nat → ClassId} {b : Nat} {S S0 : wq_St} {r0 : Int} (h : f_X8_owed S = some (r0, S0)) : wq_Ct l yX8_owed (.code yX8_owed cX8_owed 1 ((Option.some Jvm.ClassFile.FieldType.int))) 1 D Ar (wq_EC Ar b) b 284 [.ref (b + 0)] S (some (.int (wq_I r0))) S0 := by
  refine wq_start "WharfQuery" [some (.ref (b + 0))] (by decide +kernel) rfl (Nat.le_of_ble_eq_true rfl) rfl ?_
  intro p e s m args below meth c F
  unfold f_X8_owed at h
  refine wq_aload_n F dX8_owed_0 rfl rfl rfl ?_
  refine wq_g_X8_53 F dX8_owed_1 rfl ?_
  refine wq_g_X8_274 F dX8_owed_4 rfl ?_
  cases h
  exact wq_iret F rfl rfl dX8_owed_7
set_option maxHeartbeats 4000000 in
set_option maxRecDepth 100000 in
theorem ct_X8_kept {l : Launch} (hlt : l.stackTraces = false) {D : va_G} {Ar : Nat → ClassId} {b : Nat} {x1 : Int} {S S0 : wq_St} {o0 : Nat} {r0 : Int} (h : f_X8_kept x1 S = some (o0, r0, S0)) : wq_Cx l yX8_kept (.code yX8_kept cX8_kept 2 ((Option.some Jvm.ClassFile.FieldType.int))) 8 1 6 D Ar (wq_EC Ar b) b 284 [.ref (b + 0), .int (wq_I x1)] S o0 (some (.int (wq_I r0))) S0 := by
  refine wq_startx "WharfQuery" [some (.ref (b + 0)), some (.int (wq_I x1))] (by decide +kernel) rfl (Nat.le_of_ble_eq_true rfl) rfl ?_
  intro p e s m args below meth c F K htab
  unfold f_X8_kept at h
  refine wq_aload_n F dX8_kept_0 rfl rfl rfl ?_
  refine wq_iload_n F dX8_kept_1 rfl rfl rfl ?_
  rcases wq_bx_some h with ⟨r1, S2, h1r1, h⟩ | ⟨nr1, r1, S2, h1r1, ho⟩
  · refine wq_callVn (As := [.int (wq_I x1)]) (mc := 1) (ms := 6) (n := 7) F K lk_X8_165 (ct_X8_findReport hlt h1r1) ⟨Nat.le_of_ble_eq_true rfl, Nat.le_of_ble_eq_true rfl⟩ ⟨Nat.le_of_ble_eq_true rfl, Nat.le_of_ble_eq_true rfl⟩ (Nat.le_of_ble_eq_true rfl) rfl rfl rfl rfl (Nat.le_of_ble_eq_true rfl) dX8_kept_2 rfl ?_
    refine wq_g_X8_277 F (pd_X8_findReport h1r1) dX8_kept_5 rfl ?_
    cases h
    exact wq_iretx F rfl rfl rfl (Nat.le_of_ble_eq_true rfl) (Nat.le_of_ble_eq_true rfl) dX8_kept_8
  · cases ho
    exact wq_callVt (As := [.int (wq_I x1)]) (mc := 1) (ms := 6) (n := 7) F K lk_X8_165 (ct_X8_findReport hlt h1r1) ⟨Nat.le_of_ble_eq_true rfl, Nat.le_of_ble_eq_true rfl⟩ ⟨Nat.le_of_ble_eq_true rfl, Nat.le_of_ble_eq_true rfl⟩ (Nat.le_of_ble_eq_true rfl) rfl rfl rfl rfl (Nat.le_of_ble_eq_true rfl) dX8_kept_2 htab rfl rfl (Nat.le_of_ble_eq_true rfl) (Nat.le_of_ble_eq_true rfl)
set_option maxHeartbeats 4000000 in
set_option maxRecDepth 100000 in
theorem ct_X8_keptSum {l : Launch} (hlt : l.stackTraces = false) {D : va_G} {Ar : Nat → ClassId} {b : Nat} {x1 : Int} {S S0 : wq_St} {o0 : Nat} {r0 : Int} (h : f_X8_keptSum x1 S = some (o0, r0, S0)) : wq_Cx l yX8_keptSum (.code yX8_keptSum cX8_keptSum 2 ((Option.some Jvm.ClassFile.FieldType.int))) 8 1 6 D Ar (wq_EC Ar b) b 284 [.ref (b + 0), .int (wq_I x1)] S o0 (some (.int (wq_I r0))) S0 := by
  refine wq_startx "WharfQuery" [some (.ref (b + 0)), some (.int (wq_I x1))] (by decide +kernel) rfl (Nat.le_of_ble_eq_true rfl) rfl ?_
  intro p e s m args below meth c F K htab
  unfold f_X8_keptSum at h
  refine wq_aload_n F dX8_keptSum_0 rfl rfl rfl ?_
  refine wq_iload_n F dX8_keptSum_1 rfl rfl rfl ?_
  rcases wq_bx_some h with ⟨r1, S2, h1r1, h⟩ | ⟨nr1, r1, S2, h1r1, ho⟩
  · refine wq_callVn (As := [.int (wq_I x1)]) (mc := 1) (ms := 6) (n := 7) F K lk_X8_165 (ct_X8_findReport hlt h1r1) ⟨Nat.le_of_ble_eq_true rfl, Nat.le_of_ble_eq_true rfl⟩ ⟨Nat.le_of_ble_eq_true rfl, Nat.le_of_ble_eq_true rfl⟩ (Nat.le_of_ble_eq_true rfl) rfl rfl rfl rfl (Nat.le_of_ble_eq_true rfl) dX8_keptSum_2 rfl ?_
    refine wq_g_X8_280 F (pd_X8_findReport h1r1) dX8_keptSum_5 rfl ?_
    cases h
    exact wq_iretx F rfl rfl rfl (Nat.le_of_ble_eq_true rfl) (Nat.le_of_ble_eq_true rfl) dX8_keptSum_8
  · cases ho
    exact wq_callVt (As := [.int (wq_I x1)]) (mc := 1) (ms := 6) (n := 7) F K lk_X8_165 (ct_X8_findReport hlt h1r1) ⟨Nat.le_of_ble_eq_true rfl, Nat.le_of_ble_eq_true rfl⟩ ⟨Nat.le_of_ble_eq_true rfl, Nat.le_of_ble_eq_true rfl⟩ (Nat.le_of_ble_eq_true rfl) rfl rfl rfl rfl (Nat.le_of_ble_eq_true rfl) dX8_keptSum_2 htab rfl rfl (Nat.le_of_ble_eq_true rfl) (Nat.le_of_ble_eq_true rfl)
set_option maxHeartbeats 4000000 in
set_option maxRecDepth 100000 in
theorem ct_X8_keptIn {l : Launch} (hlt : l.stackTraces = false) {D : va_G} {Ar : Nat → ClassId} {b : Nat} {x1 : Int} {S S0 : wq_St} {o0 : Nat} {r0 : Int} (h : f_X8_keptIn x1 S = some (o0, r0, S0)) : wq_Cx l yX8_keptIn (.code yX8_keptIn cX8_keptIn 2 ((Option.some Jvm.ClassFile.FieldType.int))) 8 1 6 D Ar (wq_EC Ar b) b 284 [.ref (b + 0), .int (wq_I x1)] S o0 (some (.int (wq_I r0))) S0 := by
  refine wq_startx "WharfQuery" [some (.ref (b + 0)), some (.int (wq_I x1))] (by decide +kernel) rfl (Nat.le_of_ble_eq_true rfl) rfl ?_
  intro p e s m args below meth c F K htab
  unfold f_X8_keptIn at h
  refine wq_aload_n F dX8_keptIn_0 rfl rfl rfl ?_
  refine wq_iload_n F dX8_keptIn_1 rfl rfl rfl ?_
  rcases wq_bx_some h with ⟨r1, S2, h1r1, h⟩ | ⟨nr1, r1, S2, h1r1, ho⟩
  · refine wq_callVn (As := [.int (wq_I x1)]) (mc := 1) (ms := 6) (n := 7) F K lk_X8_165 (ct_X8_findReport hlt h1r1) ⟨Nat.le_of_ble_eq_true rfl, Nat.le_of_ble_eq_true rfl⟩ ⟨Nat.le_of_ble_eq_true rfl, Nat.le_of_ble_eq_true rfl⟩ (Nat.le_of_ble_eq_true rfl) rfl rfl rfl rfl (Nat.le_of_ble_eq_true rfl) dX8_keptIn_2 rfl ?_
    refine wq_g_X8_283 F (pd_X8_findReport h1r1) dX8_keptIn_5 rfl ?_
    cases h
    exact wq_iretx F rfl rfl rfl (Nat.le_of_ble_eq_true rfl) (Nat.le_of_ble_eq_true rfl) dX8_keptIn_8
  · cases ho
    exact wq_callVt (As := [.int (wq_I x1)]) (mc := 1) (ms := 6) (n := 7) F K lk_X8_165 (ct_X8_findReport hlt h1r1) ⟨Nat.le_of_ble_eq_true rfl, Nat.le_of_ble_eq_true rfl⟩ ⟨Nat.le_of_ble_eq_true rfl, Nat.le_of_ble_eq_true rfl⟩ (Nat.le_of_ble_eq_true rfl) rfl rfl rfl rfl (Nat.le_of_ble_eq_true rfl) dX8_keptIn_2 htab rfl rfl (Nat.le_of_ble_eq_true rfl) (Nat.le_of_ble_eq_true rfl)
