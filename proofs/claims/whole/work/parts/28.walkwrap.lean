set_option maxHeartbeats 4000000 in
set_option maxRecDepth 100000 in
theorem ct_L_addTable {l : Launch} (hlt : l.stackTraces = false) {D : va_G} {Ar : Nat → ClassId} {b : Nat} {x1 : Int} {S S0 : wq_St} {r0 : Int} (h : f_L_addTable x1 S = some (r0, S0)) : wq_Cw l yL_addTable (.codeWith yL_addTable cL_addTable 4 ((Option.some Jvm.ClassFile.FieldType.int)) [(0, 9, 12, 13), (0, 9, 15, 15)]) 8 1 6 D Ar (wq_EL Ar b) b 317 [.ref (b + 0), .int (wq_I x1), .ref (b + 316)] S (some (.int (wq_I r0))) S0 := by
  refine wq_startw "WharfQueryLaw" [some (.ref (b + 0)), some (.int (wq_I x1)), some (.ref (b + 316)), none] (by decide +kernel) rfl (Nat.le_of_ble_eq_true rfl) rfl ?_
  intro p e s m args below meth c F K Kn htab
  unfold f_L_addTable at h
  refine wq_aload_n F dL_addTable_0 rfl rfl rfl ?_
  refine wq_iconst (n := 0) F dL_addTable_1 rfl ?_
  refine wq_aload_n F dL_addTable_2 rfl rfl rfl ?_
  refine wq_iload_n F dL_addTable_3 rfl rfl rfl ?_
  rcases wq_bh_some h with ⟨r1, S2, h1r1, h⟩ | ⟨n6, r1, S2, h1r1, h⟩
  · obtain ⟨S3, eS3, h⟩ := wq_lt_some h
    refine wq_callVn (As := [.int (wq_I x1)]) (b9 := 0) (mc := 1) (ms := 6) (n := 7) F K lk_L_7 (wq_Cx_emb (o := 0) (ct_X8_addTable hlt h1r1) (Nat.le_of_ble_eq_true rfl) wq_EL_c (wq_cls_at _)) ⟨(Nat.le_of_ble_eq_true rfl), (Nat.le_of_ble_eq_true rfl)⟩ ⟨Nat.le_of_ble_eq_true rfl, Nat.le_of_ble_eq_true rfl⟩ (Nat.le_of_ble_eq_true rfl) rfl rfl rfl rfl (Nat.le_of_ble_eq_true rfl) dL_addTable_4 rfl ?_
    refine wq_namS eS3 ?_
    refine wq_i2l_ F dL_addTable_7 rfl ?_
    obtain ⟨t4, ht4, wt4, h⟩ := wq_ix_some h
    refine wq_last F (Nat.le_of_ble_eq_true rfl) rfl rfl ht4 wt4 (Or.inl ⟨Nat.le_add_right _ _, Nat.add_lt_add_left (Nat.le_of_ble_eq_true rfl) b⟩) dL_addTable_8 rfl ?_
    refine wq_goto (tgt := 18) F dL_addTable_9 (by decide) ?_
    refine wq_iconst (n := 0) F dL_addTable_18 rfl ?_
    cases h
    exact wq_iretx F rfl rfl rfl (Nat.le_of_ble_eq_true rfl) (Nat.le_of_ble_eq_true rfl) dL_addTable_19
  · by_cases hn2 : n6 + 1 = 2
    · replace h := wq_ift hn2 h
      obtain rfl : n6 = 1 := by omega
      obtain ⟨S5, eS5, h⟩ := wq_lt_some h
      refine wq_callVc (As := [.int (wq_I x1)]) (b9 := 0) (mc := 1) (ms := 6) (n := 7) (k := 1) F K lk_L_7 (wq_Cx_emb (o := 0) (ct_X8_addTable hlt h1r1) (Nat.le_of_ble_eq_true rfl) wq_EL_c (wq_cls_at _)) ⟨(Nat.le_of_ble_eq_true rfl), (Nat.le_of_ble_eq_true rfl)⟩ ⟨Nat.le_of_ble_eq_true rfl, Nat.le_of_ble_eq_true rfl⟩ (Nat.le_of_ble_eq_true rfl) rfl rfl rfl rfl (Nat.le_of_ble_eq_true rfl) dL_addTable_4 (name := "java/lang/IllegalArgumentException") rfl [] ⟨0, 9, 12, 13⟩ [⟨0, 9, 15, 15⟩] (htab.trans rfl) (fun _ h => absurd h List.not_mem_nil) (by decide) (by decide) aw_431 (List.mem_of_getElem? (i := 0) rfl) (fun q9 => ?_)
      refine wq_namS eS5 ?_
      refine wq_astore_n (L' := [some (.ref (b + 0)), some (.int (wq_I x1)), some (.ref (b + 316)), some (.ref q9)]) F dL_addTable_12 rfl (by decide) rfl rfl rfl ?_
      refine wq_iconst (n := 1) F dL_addTable_13 rfl ?_
      cases h
      exact wq_iretx F rfl rfl rfl (Nat.le_of_ble_eq_true rfl) (Nat.le_of_ble_eq_true rfl) dL_addTable_14
    · replace h := wq_iff hn2 h
      by_cases hn3 : n6 + 1 = 3
      · replace h := wq_ift hn3 h
        obtain rfl : n6 = 2 := by omega
        obtain ⟨S5, eS5, h⟩ := wq_lt_some h
        refine wq_callVc (As := [.int (wq_I x1)]) (b9 := 0) (mc := 1) (ms := 6) (n := 7) (k := 2) F K lk_L_7 (wq_Cx_emb (o := 0) (ct_X8_addTable hlt h1r1) (Nat.le_of_ble_eq_true rfl) wq_EL_c (wq_cls_at _)) ⟨(Nat.le_of_ble_eq_true rfl), (Nat.le_of_ble_eq_true rfl)⟩ ⟨Nat.le_of_ble_eq_true rfl, Nat.le_of_ble_eq_true rfl⟩ (Nat.le_of_ble_eq_true rfl) rfl rfl rfl rfl (Nat.le_of_ble_eq_true rfl) dL_addTable_4 (name := "java/lang/IllegalStateException") rfl [⟨0, 9, 12, 13⟩] ⟨0, 9, 15, 15⟩ [] (htab.trans rfl) (List.forall_mem_cons.mpr ⟨⟨by decide, "java/lang/IllegalArgumentException", aw_431, Kn.2.2⟩, fun _ h => absurd h List.not_mem_nil⟩) (by decide) (by decide) aw_432 (List.mem_of_getElem? (i := 1) rfl) (fun q9 => ?_)
        refine wq_namS eS5 ?_
        refine wq_astore_n (L' := [some (.ref (b + 0)), some (.int (wq_I x1)), some (.ref (b + 316)), some (.ref q9)]) F dL_addTable_15 rfl (by decide) rfl rfl rfl ?_
        refine wq_iconst (n := 2) F dL_addTable_16 rfl ?_
        cases h
        exact wq_iretx F rfl rfl rfl (Nat.le_of_ble_eq_true rfl) (Nat.le_of_ble_eq_true rfl) dL_addTable_17
      · replace h := wq_iff hn3 h
        simp at h
set_option maxHeartbeats 4000000 in
set_option maxRecDepth 100000 in
theorem ct_L_insert {l : Launch} (hlt : l.stackTraces = false) {D : va_G} {Ar : Nat → ClassId} {b : Nat} {x1 : Int} {x2 : Int} {x3 : Int} {x4 : Int} {S S0 : wq_St} {r0 : Int} (h : f_L_insert x1 x2 x3 x4 S = some (r0, S0)) : wq_Cw l yL_insert (.codeWith yL_insert cL_insert 7 ((Option.some Jvm.ClassFile.FieldType.int)) [(0, 14, 17, 21), (0, 14, 21, 13), (0, 14, 25, 15)]) 9 2 12 D Ar (wq_EL Ar b) b 317 [.ref (b + 0), .int (wq_I x1), .int (wq_I x2), .int (wq_I x3), .int (wq_I x4), .ref (b + 316)] S (some (.int (wq_I r0))) S0 := by
  refine wq_startw "WharfQueryLaw" [some (.ref (b + 0)), some (.int (wq_I x1)), some (.int (wq_I x2)), some (.int (wq_I x3)), some (.int (wq_I x4)), some (.ref (b + 316)), none] (by decide +kernel) rfl (Nat.le_of_ble_eq_true rfl) rfl ?_
  intro p e s m args below meth c F K Kn htab
  unfold f_L_insert at h
  refine wq_aload F dL_insert_0 rfl rfl ?_
  refine wq_iconst (n := 0) F dL_insert_2 rfl ?_
  refine wq_aload_n F dL_insert_3 rfl rfl rfl ?_
  refine wq_iload_n F dL_insert_4 rfl rfl rfl ?_
  refine wq_iload_n F dL_insert_5 rfl rfl rfl ?_
  refine wq_iload_n F dL_insert_6 rfl rfl rfl ?_
  refine wq_iload F dL_insert_7 rfl rfl ?_
  rcases wq_bh_some h with ⟨r1, S2, h1r1, h⟩ | ⟨n6, r1, S2, h1r1, h⟩
  · obtain ⟨S3, eS3, h⟩ := wq_lt_some h
    refine wq_callVn (As := [.int (wq_I x1), .int (wq_I x2), .int (wq_I x3), .int (wq_I x4)]) (b9 := 0) (mc := 2) (ms := 12) (n := 8) F K lk_L_17 (wq_Cx_emb (o := 0) (ct_X8_insert hlt h1r1) (Nat.le_of_ble_eq_true rfl) wq_EL_c (wq_cls_at _)) ⟨(Nat.le_of_ble_eq_true rfl), (Nat.le_of_ble_eq_true rfl)⟩ ⟨Nat.le_of_ble_eq_true rfl, Nat.le_of_ble_eq_true rfl⟩ (Nat.le_of_ble_eq_true rfl) rfl rfl rfl rfl (Nat.le_of_ble_eq_true rfl) dL_insert_9 rfl ?_
    refine wq_namS eS3 ?_
    refine wq_i2l_ F dL_insert_12 rfl ?_
    obtain ⟨t4, ht4, wt4, h⟩ := wq_ix_some h
    refine wq_last F (Nat.le_of_ble_eq_true rfl) rfl rfl ht4 wt4 (Or.inl ⟨Nat.le_add_right _ _, Nat.add_lt_add_left (Nat.le_of_ble_eq_true rfl) b⟩) dL_insert_13 rfl ?_
    refine wq_goto (tgt := 29) F dL_insert_14 (by decide) ?_
    refine wq_iconst (n := 0) F dL_insert_29 rfl ?_
    cases h
    exact wq_iretx F rfl rfl rfl (Nat.le_of_ble_eq_true rfl) (Nat.le_of_ble_eq_true rfl) dL_insert_30
  · by_cases hn1 : n6 + 1 = 1
    · replace h := wq_ift hn1 h
      obtain rfl : n6 = 0 := by omega
      obtain ⟨S5, eS5, h⟩ := wq_lt_some h
      refine wq_callVc (As := [.int (wq_I x1), .int (wq_I x2), .int (wq_I x3), .int (wq_I x4)]) (b9 := 0) (mc := 2) (ms := 12) (n := 8) (k := 0) F K lk_L_17 (wq_Cx_emb (o := 0) (ct_X8_insert hlt h1r1) (Nat.le_of_ble_eq_true rfl) wq_EL_c (wq_cls_at _)) ⟨(Nat.le_of_ble_eq_true rfl), (Nat.le_of_ble_eq_true rfl)⟩ ⟨Nat.le_of_ble_eq_true rfl, Nat.le_of_ble_eq_true rfl⟩ (Nat.le_of_ble_eq_true rfl) rfl rfl rfl rfl (Nat.le_of_ble_eq_true rfl) dL_insert_9 (name := "java/lang/IndexOutOfBoundsException") rfl [] ⟨0, 14, 17, 21⟩ [⟨0, 14, 21, 13⟩, ⟨0, 14, 25, 15⟩] (htab.trans rfl) (fun _ h => absurd h List.not_mem_nil) (by decide) (by decide) aw_524 (List.mem_of_getElem? (i := 2) rfl) (fun q9 => ?_)
      refine wq_namS eS5 ?_
      refine wq_astore (L' := [some (.ref (b + 0)), some (.int (wq_I x1)), some (.int (wq_I x2)), some (.int (wq_I x3)), some (.int (wq_I x4)), some (.ref (b + 316)), some (.ref q9)]) F dL_insert_17 (by decide) rfl rfl rfl ?_
      refine wq_iconst (n := 1) F dL_insert_19 rfl ?_
      cases h
      exact wq_iretx F rfl rfl rfl (Nat.le_of_ble_eq_true rfl) (Nat.le_of_ble_eq_true rfl) dL_insert_20
    · replace h := wq_iff hn1 h
      by_cases hn2 : n6 + 1 = 2
      · replace h := wq_ift hn2 h
        obtain rfl : n6 = 1 := by omega
        obtain ⟨S5, eS5, h⟩ := wq_lt_some h
        refine wq_callVc (As := [.int (wq_I x1), .int (wq_I x2), .int (wq_I x3), .int (wq_I x4)]) (b9 := 0) (mc := 2) (ms := 12) (n := 8) (k := 1) F K lk_L_17 (wq_Cx_emb (o := 0) (ct_X8_insert hlt h1r1) (Nat.le_of_ble_eq_true rfl) wq_EL_c (wq_cls_at _)) ⟨(Nat.le_of_ble_eq_true rfl), (Nat.le_of_ble_eq_true rfl)⟩ ⟨Nat.le_of_ble_eq_true rfl, Nat.le_of_ble_eq_true rfl⟩ (Nat.le_of_ble_eq_true rfl) rfl rfl rfl rfl (Nat.le_of_ble_eq_true rfl) dL_insert_9 (name := "java/lang/IllegalArgumentException") rfl [⟨0, 14, 17, 21⟩] ⟨0, 14, 21, 13⟩ [⟨0, 14, 25, 15⟩] (htab.trans rfl) (List.forall_mem_cons.mpr ⟨⟨by decide, "java/lang/IndexOutOfBoundsException", aw_524, Kn.1⟩, fun _ h => absurd h List.not_mem_nil⟩) (by decide) (by decide) aw_431 (List.mem_of_getElem? (i := 0) rfl) (fun q9 => ?_)
        refine wq_namS eS5 ?_
        refine wq_astore (L' := [some (.ref (b + 0)), some (.int (wq_I x1)), some (.int (wq_I x2)), some (.int (wq_I x3)), some (.int (wq_I x4)), some (.ref (b + 316)), some (.ref q9)]) F dL_insert_21 (by decide) rfl rfl rfl ?_
        refine wq_iconst (n := 2) F dL_insert_23 rfl ?_
        cases h
        exact wq_iretx F rfl rfl rfl (Nat.le_of_ble_eq_true rfl) (Nat.le_of_ble_eq_true rfl) dL_insert_24
      · replace h := wq_iff hn2 h
        by_cases hn3 : n6 + 1 = 3
        · replace h := wq_ift hn3 h
          obtain rfl : n6 = 2 := by omega
          obtain ⟨S5, eS5, h⟩ := wq_lt_some h
          refine wq_callVc (As := [.int (wq_I x1), .int (wq_I x2), .int (wq_I x3), .int (wq_I x4)]) (b9 := 0) (mc := 2) (ms := 12) (n := 8) (k := 2) F K lk_L_17 (wq_Cx_emb (o := 0) (ct_X8_insert hlt h1r1) (Nat.le_of_ble_eq_true rfl) wq_EL_c (wq_cls_at _)) ⟨(Nat.le_of_ble_eq_true rfl), (Nat.le_of_ble_eq_true rfl)⟩ ⟨Nat.le_of_ble_eq_true rfl, Nat.le_of_ble_eq_true rfl⟩ (Nat.le_of_ble_eq_true rfl) rfl rfl rfl rfl (Nat.le_of_ble_eq_true rfl) dL_insert_9 (name := "java/lang/IllegalStateException") rfl [⟨0, 14, 17, 21⟩, ⟨0, 14, 21, 13⟩] ⟨0, 14, 25, 15⟩ [] (htab.trans rfl) (List.forall_mem_cons.mpr ⟨⟨by decide, "java/lang/IndexOutOfBoundsException", aw_524, Kn.2.1⟩, List.forall_mem_cons.mpr ⟨⟨by decide, "java/lang/IllegalArgumentException", aw_431, Kn.2.2⟩, fun _ h => absurd h List.not_mem_nil⟩⟩) (by decide) (by decide) aw_432 (List.mem_of_getElem? (i := 1) rfl) (fun q9 => ?_)
          refine wq_namS eS5 ?_
          refine wq_astore (L' := [some (.ref (b + 0)), some (.int (wq_I x1)), some (.int (wq_I x2)), some (.int (wq_I x3)), some (.int (wq_I x4)), some (.ref (b + 316)), some (.ref q9)]) F dL_insert_25 (by decide) rfl rfl rfl ?_
          refine wq_iconst (n := 3) F dL_insert_27 rfl ?_
          cases h
          exact wq_iretx F rfl rfl rfl (Nat.le_of_ble_eq_true rfl) (Nat.le_of_ble_eq_true rfl) dL_insert_28
        · replace h := wq_iff hn3 h
          simp at h
set_option maxHeartbeats 4000000 in
set_option maxRecDepth 100000 in
theorem ct_L_delete {l : Launch} (hlt : l.stackTraces = false) {D : va_G} {Ar : Nat → ClassId} {b : Nat} {x1 : Int} {x2 : Int} {S S0 : wq_St} {r0 : Int} (h : f_L_delete x1 x2 S = some (r0, S0)) : wq_Cw l yL_delete (.codeWith yL_delete cL_delete 5 ((Option.some Jvm.ClassFile.FieldType.int)) [(0, 10, 13, 21)]) 9 2 12 D Ar (wq_EL Ar b) b 317 [.ref (b + 0), .int (wq_I x1), .int (wq_I x2), .ref (b + 316)] S (some (.int (wq_I r0))) S0 := by
  refine wq_startw "WharfQueryLaw" [some (.ref (b + 0)), some (.int (wq_I x1)), some (.int (wq_I x2)), some (.ref (b + 316)), none] (by decide +kernel) rfl (Nat.le_of_ble_eq_true rfl) rfl ?_
  intro p e s m args below meth c F K Kn htab
  unfold f_L_delete at h
  refine wq_aload_n F dL_delete_0 rfl rfl rfl ?_
  refine wq_iconst (n := 0) F dL_delete_1 rfl ?_
  refine wq_aload_n F dL_delete_2 rfl rfl rfl ?_
  refine wq_iload_n F dL_delete_3 rfl rfl rfl ?_
  refine wq_iload_n F dL_delete_4 rfl rfl rfl ?_
  rcases wq_bh_some h with ⟨r1, S2, h1r1, h⟩ | ⟨n6, r1, S2, h1r1, h⟩
  · obtain ⟨S3, eS3, h⟩ := wq_lt_some h
    refine wq_callVn (As := [.int (wq_I x1), .int (wq_I x2)]) (b9 := 0) (mc := 2) (ms := 12) (n := 8) F K lk_L_23 (wq_Cx_emb (o := 0) (ct_X8_delete hlt h1r1) (Nat.le_of_ble_eq_true rfl) wq_EL_c (wq_cls_at _)) ⟨(Nat.le_of_ble_eq_true rfl), (Nat.le_of_ble_eq_true rfl)⟩ ⟨Nat.le_of_ble_eq_true rfl, Nat.le_of_ble_eq_true rfl⟩ (Nat.le_of_ble_eq_true rfl) rfl rfl rfl rfl (Nat.le_of_ble_eq_true rfl) dL_delete_5 rfl ?_
    refine wq_namS eS3 ?_
    refine wq_i2l_ F dL_delete_8 rfl ?_
    obtain ⟨t4, ht4, wt4, h⟩ := wq_ix_some h
    refine wq_last F (Nat.le_of_ble_eq_true rfl) rfl rfl ht4 wt4 (Or.inl ⟨Nat.le_add_right _ _, Nat.add_lt_add_left (Nat.le_of_ble_eq_true rfl) b⟩) dL_delete_9 rfl ?_
    refine wq_goto (tgt := 17) F dL_delete_10 (by decide) ?_
    refine wq_iconst (n := 0) F dL_delete_17 rfl ?_
    cases h
    exact wq_iretx F rfl rfl rfl (Nat.le_of_ble_eq_true rfl) (Nat.le_of_ble_eq_true rfl) dL_delete_18
  · by_cases hn1 : n6 + 1 = 1
    · replace h := wq_ift hn1 h
      obtain rfl : n6 = 0 := by omega
      obtain ⟨S5, eS5, h⟩ := wq_lt_some h
      refine wq_callVc (As := [.int (wq_I x1), .int (wq_I x2)]) (b9 := 0) (mc := 2) (ms := 12) (n := 8) (k := 0) F K lk_L_23 (wq_Cx_emb (o := 0) (ct_X8_delete hlt h1r1) (Nat.le_of_ble_eq_true rfl) wq_EL_c (wq_cls_at _)) ⟨(Nat.le_of_ble_eq_true rfl), (Nat.le_of_ble_eq_true rfl)⟩ ⟨Nat.le_of_ble_eq_true rfl, Nat.le_of_ble_eq_true rfl⟩ (Nat.le_of_ble_eq_true rfl) rfl rfl rfl rfl (Nat.le_of_ble_eq_true rfl) dL_delete_5 (name := "java/lang/IndexOutOfBoundsException") rfl [] ⟨0, 10, 13, 21⟩ [] (htab.trans rfl) (fun _ h => absurd h List.not_mem_nil) (by decide) (by decide) aw_524 (List.mem_of_getElem? (i := 2) rfl) (fun q9 => ?_)
      refine wq_namS eS5 ?_
      refine wq_astore (L' := [some (.ref (b + 0)), some (.int (wq_I x1)), some (.int (wq_I x2)), some (.ref (b + 316)), some (.ref q9)]) F dL_delete_13 (by decide) rfl rfl rfl ?_
      refine wq_iconst (n := 1) F dL_delete_15 rfl ?_
      cases h
      exact wq_iretx F rfl rfl rfl (Nat.le_of_ble_eq_true rfl) (Nat.le_of_ble_eq_true rfl) dL_delete_16
    · replace h := wq_iff hn1 h
      simp at h
set_option maxHeartbeats 4000000 in
set_option maxRecDepth 100000 in
theorem ct_L_setIndex {l : Launch} (hlt : l.stackTraces = false) {D : va_G} {Ar : Nat → ClassId} {b : Nat} {x1 : Int} {x2 : Int} {x3 : Int} {S S0 : wq_St} {r0 : Int} (h : f_L_setIndex x1 x2 x3 S = some (r0, S0)) : wq_Cw l yL_setIndex (.codeWith yL_setIndex cL_setIndex 6 ((Option.some Jvm.ClassFile.FieldType.int)) [(0, 19, 22, 21)]) 10 2 12 D Ar (wq_EL Ar b) b 317 [.ref (b + 0), .int (wq_I x1), .int (wq_I x2), .int (wq_I x3), .ref (b + 316)] S (some (.int (wq_I r0))) S0 := by
  refine wq_startw "WharfQueryLaw" [some (.ref (b + 0)), some (.int (wq_I x1)), some (.int (wq_I x2)), some (.int (wq_I x3)), some (.ref (b + 316)), none] (by decide +kernel) rfl (Nat.le_of_ble_eq_true rfl) rfl ?_
  intro p e s m args below meth c F K Kn htab
  unfold f_L_setIndex at h
  refine wq_aload F dL_setIndex_0 rfl rfl ?_
  refine wq_iconst (n := 0) F dL_setIndex_2 rfl ?_
  refine wq_aload_n F dL_setIndex_3 rfl rfl rfl ?_
  refine wq_iload_n F dL_setIndex_4 rfl rfl rfl ?_
  refine wq_iload_n F dL_setIndex_5 rfl rfl rfl ?_
  refine wq_iload_n F dL_setIndex_6 rfl rfl rfl ?_
  rcases wq_bh_some h with ⟨r1, S2, h1r1, h⟩ | ⟨n7, r1, S2, h1r1, h⟩
  · obtain ⟨S3, eS3, h⟩ := wq_lt_some h
    refine wq_callVn (As := [.int (wq_I x1), .int (wq_I x2), .int (wq_I x3)]) (b9 := 0) (mc := 2) (ms := 12) (n := 9) F K lk_L_27 (wq_Cx_emb (o := 0) (ct_X8_setIndex hlt h1r1) (Nat.le_of_ble_eq_true rfl) wq_EL_c (wq_cls_at _)) ⟨(Nat.le_of_ble_eq_true rfl), (Nat.le_of_ble_eq_true rfl)⟩ ⟨Nat.le_of_ble_eq_true rfl, Nat.le_of_ble_eq_true rfl⟩ (Nat.le_of_ble_eq_true rfl) rfl rfl rfl rfl (Nat.le_of_ble_eq_true rfl) dL_setIndex_7 rfl ?_
    refine wq_namS eS3 ?_
    refine wq_if_eq (tgt := 17) F dL_setIndex_10 (by decide) rfl (fun hc => ?_) (fun hc => ?_)
    · replace h := wq_ift hc h
      refine wq_lconst (v := 0) F dL_setIndex_17 rfl rfl ?_
      obtain ⟨t4, ht4, wt4, h⟩ := wq_ix_some h
      refine wq_last F (Nat.le_of_ble_eq_true rfl) rfl rfl ht4 wt4 (Or.inl ⟨Nat.le_add_right _ _, Nat.add_lt_add_left (Nat.le_of_ble_eq_true rfl) b⟩) dL_setIndex_18 rfl ?_
      refine wq_goto (tgt := 26) F dL_setIndex_19 (by decide) ?_
      refine wq_iconst (n := 0) F dL_setIndex_26 rfl ?_
      cases h
      exact wq_iretx F rfl rfl rfl (Nat.le_of_ble_eq_true rfl) (Nat.le_of_ble_eq_true rfl) dL_setIndex_27
    · replace h := wq_iff hc h
      refine wq_lconst (v := 1) F dL_setIndex_13 rfl rfl ?_
      refine wq_goto (tgt := 18) F dL_setIndex_14 (by decide) ?_
      obtain ⟨t5, ht5, wt5, h⟩ := wq_ix_some h
      refine wq_last F (Nat.le_of_ble_eq_true rfl) rfl rfl ht5 wt5 (Or.inl ⟨Nat.le_add_right _ _, Nat.add_lt_add_left (Nat.le_of_ble_eq_true rfl) b⟩) dL_setIndex_18 rfl ?_
      refine wq_goto (tgt := 26) F dL_setIndex_19 (by decide) ?_
      refine wq_iconst (n := 0) F dL_setIndex_26 rfl ?_
      cases h
      exact wq_iretx F rfl rfl rfl (Nat.le_of_ble_eq_true rfl) (Nat.le_of_ble_eq_true rfl) dL_setIndex_27
  · by_cases hn1 : n7 + 1 = 1
    · replace h := wq_ift hn1 h
      obtain rfl : n7 = 0 := by omega
      obtain ⟨S6, eS6, h⟩ := wq_lt_some h
      refine wq_callVc (As := [.int (wq_I x1), .int (wq_I x2), .int (wq_I x3)]) (b9 := 0) (mc := 2) (ms := 12) (n := 9) (k := 0) F K lk_L_27 (wq_Cx_emb (o := 0) (ct_X8_setIndex hlt h1r1) (Nat.le_of_ble_eq_true rfl) wq_EL_c (wq_cls_at _)) ⟨(Nat.le_of_ble_eq_true rfl), (Nat.le_of_ble_eq_true rfl)⟩ ⟨Nat.le_of_ble_eq_true rfl, Nat.le_of_ble_eq_true rfl⟩ (Nat.le_of_ble_eq_true rfl) rfl rfl rfl rfl (Nat.le_of_ble_eq_true rfl) dL_setIndex_7 (name := "java/lang/IndexOutOfBoundsException") rfl [] ⟨0, 19, 22, 21⟩ [] (htab.trans rfl) (fun _ h => absurd h List.not_mem_nil) (by decide) (by decide) aw_524 (List.mem_of_getElem? (i := 2) rfl) (fun q9 => ?_)
      refine wq_namS eS6 ?_
      refine wq_astore (L' := [some (.ref (b + 0)), some (.int (wq_I x1)), some (.int (wq_I x2)), some (.int (wq_I x3)), some (.ref (b + 316)), some (.ref q9)]) F dL_setIndex_22 (by decide) rfl rfl rfl ?_
      refine wq_iconst (n := 1) F dL_setIndex_24 rfl ?_
      cases h
      exact wq_iretx F rfl rfl rfl (Nat.le_of_ble_eq_true rfl) (Nat.le_of_ble_eq_true rfl) dL_setIndex_25
    · replace h := wq_iff hn1 h
      simp at h
set_option maxHeartbeats 4000000 in
set_option maxRecDepth 100000 in
theorem ct_L_rows {l : Launch} (hlt : l.stackTraces = false) {D : va_G} {Ar : Nat → ClassId} {b : Nat} {x1 : Int} {S S0 : wq_St} {r0 : Int} (h : f_L_rows x1 S = some (r0, S0)) : wq_Cw l yL_rows (.codeWith yL_rows cL_rows 4 ((Option.some Jvm.ClassFile.FieldType.int)) [(0, 9, 12, 21)]) 9 1 6 D Ar (wq_EL Ar b) b 317 [.ref (b + 0), .int (wq_I x1), .ref (b + 316)] S (some (.int (wq_I r0))) S0 := by
  refine wq_startw "WharfQueryLaw" [some (.ref (b + 0)), some (.int (wq_I x1)), some (.ref (b + 316)), none] (by decide +kernel) rfl (Nat.le_of_ble_eq_true rfl) rfl ?_
  intro p e s m args below meth c F K Kn htab
  unfold f_L_rows at h
  refine wq_aload_n F dL_rows_0 rfl rfl rfl ?_
  refine wq_iconst (n := 0) F dL_rows_1 rfl ?_
  refine wq_aload_n F dL_rows_2 rfl rfl rfl ?_
  refine wq_iload_n F dL_rows_3 rfl rfl rfl ?_
  rcases wq_bh_some h with ⟨r1, S2, h1r1, h⟩ | ⟨n6, r1, S2, h1r1, h⟩
  · obtain ⟨S3, eS3, h⟩ := wq_lt_some h
    refine wq_callVn (As := [.int (wq_I x1)]) (b9 := 0) (mc := 1) (ms := 6) (n := 8) F K lk_L_31 (wq_Cx_emb (o := 0) (ct_X8_rows hlt h1r1) (Nat.le_of_ble_eq_true rfl) wq_EL_c (wq_cls_at _)) ⟨(Nat.le_of_ble_eq_true rfl), (Nat.le_of_ble_eq_true rfl)⟩ ⟨Nat.le_of_ble_eq_true rfl, Nat.le_of_ble_eq_true rfl⟩ (Nat.le_of_ble_eq_true rfl) rfl rfl rfl rfl (Nat.le_of_ble_eq_true rfl) dL_rows_4 rfl ?_
    refine wq_namS eS3 ?_
    refine wq_i2l_ F dL_rows_7 rfl ?_
    obtain ⟨t4, ht4, wt4, h⟩ := wq_ix_some h
    refine wq_last F (Nat.le_of_ble_eq_true rfl) rfl rfl ht4 wt4 (Or.inl ⟨Nat.le_add_right _ _, Nat.add_lt_add_left (Nat.le_of_ble_eq_true rfl) b⟩) dL_rows_8 rfl ?_
    refine wq_goto (tgt := 15) F dL_rows_9 (by decide) ?_
    refine wq_iconst (n := 0) F dL_rows_15 rfl ?_
    cases h
    exact wq_iretx F rfl rfl rfl (Nat.le_of_ble_eq_true rfl) (Nat.le_of_ble_eq_true rfl) dL_rows_16
  · by_cases hn1 : n6 + 1 = 1
    · replace h := wq_ift hn1 h
      obtain rfl : n6 = 0 := by omega
      obtain ⟨S5, eS5, h⟩ := wq_lt_some h
      refine wq_callVc (As := [.int (wq_I x1)]) (b9 := 0) (mc := 1) (ms := 6) (n := 8) (k := 0) F K lk_L_31 (wq_Cx_emb (o := 0) (ct_X8_rows hlt h1r1) (Nat.le_of_ble_eq_true rfl) wq_EL_c (wq_cls_at _)) ⟨(Nat.le_of_ble_eq_true rfl), (Nat.le_of_ble_eq_true rfl)⟩ ⟨Nat.le_of_ble_eq_true rfl, Nat.le_of_ble_eq_true rfl⟩ (Nat.le_of_ble_eq_true rfl) rfl rfl rfl rfl (Nat.le_of_ble_eq_true rfl) dL_rows_4 (name := "java/lang/IndexOutOfBoundsException") rfl [] ⟨0, 9, 12, 21⟩ [] (htab.trans rfl) (fun _ h => absurd h List.not_mem_nil) (by decide) (by decide) aw_524 (List.mem_of_getElem? (i := 2) rfl) (fun q9 => ?_)
      refine wq_namS eS5 ?_
      refine wq_astore_n (L' := [some (.ref (b + 0)), some (.int (wq_I x1)), some (.ref (b + 316)), some (.ref q9)]) F dL_rows_12 rfl (by decide) rfl rfl rfl ?_
      refine wq_iconst (n := 1) F dL_rows_13 rfl ?_
      cases h
      exact wq_iretx F rfl rfl rfl (Nat.le_of_ble_eq_true rfl) (Nat.le_of_ble_eq_true rfl) dL_rows_14
    · replace h := wq_iff hn1 h
      simp at h
set_option maxHeartbeats 4000000 in
set_option maxRecDepth 100000 in
theorem ct_L_value {l : Launch} (hlt : l.stackTraces = false) {D : va_G} {Ar : Nat → ClassId} {b : Nat} {x1 : Int} {x2 : Int} {x3 : Int} {S S0 : wq_St} {r0 : Int} (h : f_L_value x1 x2 x3 S = some (r0, S0)) : wq_Cw l yL_value (.codeWith yL_value cL_value 6 ((Option.some Jvm.ClassFile.FieldType.int)) [(0, 12, 15, 21)]) 9 3 18 D Ar (wq_EL Ar b) b 317 [.ref (b + 0), .int (wq_I x1), .int (wq_I x2), .int (wq_I x3), .ref (b + 316)] S (some (.int (wq_I r0))) S0 := by
  refine wq_startw "WharfQueryLaw" [some (.ref (b + 0)), some (.int (wq_I x1)), some (.int (wq_I x2)), some (.int (wq_I x3)), some (.ref (b + 316)), none] (by decide +kernel) rfl (Nat.le_of_ble_eq_true rfl) rfl ?_
  intro p e s m args below meth c F K Kn htab
  unfold f_L_value at h
  refine wq_aload F dL_value_0 rfl rfl ?_
  refine wq_iconst (n := 0) F dL_value_2 rfl ?_
  refine wq_aload_n F dL_value_3 rfl rfl rfl ?_
  refine wq_iload_n F dL_value_4 rfl rfl rfl ?_
  refine wq_iload_n F dL_value_5 rfl rfl rfl ?_
  refine wq_iload_n F dL_value_6 rfl rfl rfl ?_
  rcases wq_bh_some h with ⟨r1, S2, h1r1, h⟩ | ⟨n6, r1, S2, h1r1, h⟩
  · obtain ⟨S3, eS3, h⟩ := wq_lt_some h
    refine wq_callVn (As := [.int (wq_I x1), .int (wq_I x2), .int (wq_I x3)]) (b9 := 0) (mc := 3) (ms := 18) (n := 8) F K lk_L_34 (wq_Cx_emb (o := 0) (ct_X8_value hlt h1r1) (Nat.le_of_ble_eq_true rfl) wq_EL_c (wq_cls_at _)) ⟨(Nat.le_of_ble_eq_true rfl), (Nat.le_of_ble_eq_true rfl)⟩ ⟨Nat.le_of_ble_eq_true rfl, Nat.le_of_ble_eq_true rfl⟩ (Nat.le_of_ble_eq_true rfl) rfl rfl rfl rfl (Nat.le_of_ble_eq_true rfl) dL_value_7 rfl ?_
    refine wq_namS eS3 ?_
    refine wq_i2l_ F dL_value_10 rfl ?_
    obtain ⟨t4, ht4, wt4, h⟩ := wq_ix_some h
    refine wq_last F (Nat.le_of_ble_eq_true rfl) rfl rfl ht4 wt4 (Or.inl ⟨Nat.le_add_right _ _, Nat.add_lt_add_left (Nat.le_of_ble_eq_true rfl) b⟩) dL_value_11 rfl ?_
    refine wq_goto (tgt := 19) F dL_value_12 (by decide) ?_
    refine wq_iconst (n := 0) F dL_value_19 rfl ?_
    cases h
    exact wq_iretx F rfl rfl rfl (Nat.le_of_ble_eq_true rfl) (Nat.le_of_ble_eq_true rfl) dL_value_20
  · by_cases hn1 : n6 + 1 = 1
    · replace h := wq_ift hn1 h
      obtain rfl : n6 = 0 := by omega
      obtain ⟨S5, eS5, h⟩ := wq_lt_some h
      refine wq_callVc (As := [.int (wq_I x1), .int (wq_I x2), .int (wq_I x3)]) (b9 := 0) (mc := 3) (ms := 18) (n := 8) (k := 0) F K lk_L_34 (wq_Cx_emb (o := 0) (ct_X8_value hlt h1r1) (Nat.le_of_ble_eq_true rfl) wq_EL_c (wq_cls_at _)) ⟨(Nat.le_of_ble_eq_true rfl), (Nat.le_of_ble_eq_true rfl)⟩ ⟨Nat.le_of_ble_eq_true rfl, Nat.le_of_ble_eq_true rfl⟩ (Nat.le_of_ble_eq_true rfl) rfl rfl rfl rfl (Nat.le_of_ble_eq_true rfl) dL_value_7 (name := "java/lang/IndexOutOfBoundsException") rfl [] ⟨0, 12, 15, 21⟩ [] (htab.trans rfl) (fun _ h => absurd h List.not_mem_nil) (by decide) (by decide) aw_524 (List.mem_of_getElem? (i := 2) rfl) (fun q9 => ?_)
      refine wq_namS eS5 ?_
      refine wq_astore (L' := [some (.ref (b + 0)), some (.int (wq_I x1)), some (.int (wq_I x2)), some (.int (wq_I x3)), some (.ref (b + 316)), some (.ref q9)]) F dL_value_15 (by decide) rfl rfl rfl ?_
      refine wq_iconst (n := 1) F dL_value_17 rfl ?_
      cases h
      exact wq_iretx F rfl rfl rfl (Nat.le_of_ble_eq_true rfl) (Nat.le_of_ble_eq_true rfl) dL_value_18
    · replace h := wq_iff hn1 h
      simp at h
set_option maxHeartbeats 4000000 in
set_option maxRecDepth 100000 in
theorem ct_L_renew {l : Launch} (hlt : l.stackTraces = false) {D : va_G} {Ar : Nat → ClassId} {b : Nat} {x1 : Int} {x2 : Int} {S S0 : wq_St} {r0 : Int} (h : f_L_renew x1 x2 S = some (r0, S0)) : wq_Cw l yL_renew (.codeWith yL_renew cL_renew 5 ((Option.some Jvm.ClassFile.FieldType.int)) [(0, 10, 13, 21), (0, 10, 17, 13)]) 9 2 12 D Ar (wq_EL Ar b) b 317 [.ref (b + 0), .int (wq_I x1), .int (wq_I x2), .ref (b + 316)] S (some (.int (wq_I r0))) S0 := by
  refine wq_startw "WharfQueryLaw" [some (.ref (b + 0)), some (.int (wq_I x1)), some (.int (wq_I x2)), some (.ref (b + 316)), none] (by decide +kernel) rfl (Nat.le_of_ble_eq_true rfl) rfl ?_
  intro p e s m args below meth c F K Kn htab
  unfold f_L_renew at h
  refine wq_aload_n F dL_renew_0 rfl rfl rfl ?_
  refine wq_iconst (n := 0) F dL_renew_1 rfl ?_
  refine wq_aload_n F dL_renew_2 rfl rfl rfl ?_
  refine wq_iload_n F dL_renew_3 rfl rfl rfl ?_
  refine wq_iload_n F dL_renew_4 rfl rfl rfl ?_
  rcases wq_bh_some h with ⟨r1, S2, h1r1, h⟩ | ⟨n6, r1, S2, h1r1, h⟩
  · obtain ⟨S3, eS3, h⟩ := wq_lt_some h
    refine wq_callVn (As := [.int (wq_I x1), .int (wq_I x2)]) (b9 := 0) (mc := 2) (ms := 12) (n := 8) F K lk_L_38 (wq_Cx_emb (o := 0) (ct_X8_renew hlt h1r1) (Nat.le_of_ble_eq_true rfl) wq_EL_c (wq_cls_at _)) ⟨(Nat.le_of_ble_eq_true rfl), (Nat.le_of_ble_eq_true rfl)⟩ ⟨Nat.le_of_ble_eq_true rfl, Nat.le_of_ble_eq_true rfl⟩ (Nat.le_of_ble_eq_true rfl) rfl rfl rfl rfl (Nat.le_of_ble_eq_true rfl) dL_renew_5 rfl ?_
    refine wq_namS eS3 ?_
    refine wq_i2l_ F dL_renew_8 rfl ?_
    obtain ⟨t4, ht4, wt4, h⟩ := wq_ix_some h
    refine wq_last F (Nat.le_of_ble_eq_true rfl) rfl rfl ht4 wt4 (Or.inl ⟨Nat.le_add_right _ _, Nat.add_lt_add_left (Nat.le_of_ble_eq_true rfl) b⟩) dL_renew_9 rfl ?_
    refine wq_goto (tgt := 21) F dL_renew_10 (by decide) ?_
    refine wq_iconst (n := 0) F dL_renew_21 rfl ?_
    cases h
    exact wq_iretx F rfl rfl rfl (Nat.le_of_ble_eq_true rfl) (Nat.le_of_ble_eq_true rfl) dL_renew_22
  · by_cases hn1 : n6 + 1 = 1
    · replace h := wq_ift hn1 h
      obtain rfl : n6 = 0 := by omega
      obtain ⟨S5, eS5, h⟩ := wq_lt_some h
      refine wq_callVc (As := [.int (wq_I x1), .int (wq_I x2)]) (b9 := 0) (mc := 2) (ms := 12) (n := 8) (k := 0) F K lk_L_38 (wq_Cx_emb (o := 0) (ct_X8_renew hlt h1r1) (Nat.le_of_ble_eq_true rfl) wq_EL_c (wq_cls_at _)) ⟨(Nat.le_of_ble_eq_true rfl), (Nat.le_of_ble_eq_true rfl)⟩ ⟨Nat.le_of_ble_eq_true rfl, Nat.le_of_ble_eq_true rfl⟩ (Nat.le_of_ble_eq_true rfl) rfl rfl rfl rfl (Nat.le_of_ble_eq_true rfl) dL_renew_5 (name := "java/lang/IndexOutOfBoundsException") rfl [] ⟨0, 10, 13, 21⟩ [⟨0, 10, 17, 13⟩] (htab.trans rfl) (fun _ h => absurd h List.not_mem_nil) (by decide) (by decide) aw_524 (List.mem_of_getElem? (i := 2) rfl) (fun q9 => ?_)
      refine wq_namS eS5 ?_
      refine wq_astore (L' := [some (.ref (b + 0)), some (.int (wq_I x1)), some (.int (wq_I x2)), some (.ref (b + 316)), some (.ref q9)]) F dL_renew_13 (by decide) rfl rfl rfl ?_
      refine wq_iconst (n := 1) F dL_renew_15 rfl ?_
      cases h
      exact wq_iretx F rfl rfl rfl (Nat.le_of_ble_eq_true rfl) (Nat.le_of_ble_eq_true rfl) dL_renew_16
    · replace h := wq_iff hn1 h
      by_cases hn2 : n6 + 1 = 2
      · replace h := wq_ift hn2 h
        obtain rfl : n6 = 1 := by omega
        obtain ⟨S5, eS5, h⟩ := wq_lt_some h
        refine wq_callVc (As := [.int (wq_I x1), .int (wq_I x2)]) (b9 := 0) (mc := 2) (ms := 12) (n := 8) (k := 1) F K lk_L_38 (wq_Cx_emb (o := 0) (ct_X8_renew hlt h1r1) (Nat.le_of_ble_eq_true rfl) wq_EL_c (wq_cls_at _)) ⟨(Nat.le_of_ble_eq_true rfl), (Nat.le_of_ble_eq_true rfl)⟩ ⟨Nat.le_of_ble_eq_true rfl, Nat.le_of_ble_eq_true rfl⟩ (Nat.le_of_ble_eq_true rfl) rfl rfl rfl rfl (Nat.le_of_ble_eq_true rfl) dL_renew_5 (name := "java/lang/IllegalArgumentException") rfl [⟨0, 10, 13, 21⟩] ⟨0, 10, 17, 13⟩ [] (htab.trans rfl) (List.forall_mem_cons.mpr ⟨⟨by decide, "java/lang/IndexOutOfBoundsException", aw_524, Kn.1⟩, fun _ h => absurd h List.not_mem_nil⟩) (by decide) (by decide) aw_431 (List.mem_of_getElem? (i := 0) rfl) (fun q9 => ?_)
        refine wq_namS eS5 ?_
        refine wq_astore (L' := [some (.ref (b + 0)), some (.int (wq_I x1)), some (.int (wq_I x2)), some (.ref (b + 316)), some (.ref q9)]) F dL_renew_17 (by decide) rfl rfl rfl ?_
        refine wq_iconst (n := 2) F dL_renew_19 rfl ?_
        cases h
        exact wq_iretx F rfl rfl rfl (Nat.le_of_ble_eq_true rfl) (Nat.le_of_ble_eq_true rfl) dL_renew_20
      · replace h := wq_iff hn2 h
        simp at h
set_option maxHeartbeats 4000000 in
set_option maxRecDepth 100000 in
theorem ct_L_setStep {l : Launch} (hlt : l.stackTraces = false) {D : va_G} {Ar : Nat → ClassId} {b : Nat} {x1 : Int} {S S0 : wq_St} {r0 : Int} (h : f_L_setStep x1 S = some (r0, S0)) : wq_Cw l yL_setStep (.codeWith yL_setStep cL_setStep 4 ((Option.some Jvm.ClassFile.FieldType.int)) [(0, 9, 12, 13)]) 9 1 6 D Ar (wq_EL Ar b) b 317 [.ref (b + 0), .int (wq_I x1), .ref (b + 316)] S (some (.int (wq_I r0))) S0 := by
  refine wq_startw "WharfQueryLaw" [some (.ref (b + 0)), some (.int (wq_I x1)), some (.ref (b + 316)), none] (by decide +kernel) rfl (Nat.le_of_ble_eq_true rfl) rfl ?_
  intro p e s m args below meth c F K Kn htab
  unfold f_L_setStep at h
  refine wq_aload_n F dL_setStep_0 rfl rfl rfl ?_
  refine wq_iconst (n := 0) F dL_setStep_1 rfl ?_
  refine wq_aload_n F dL_setStep_2 rfl rfl rfl ?_
  refine wq_iload_n F dL_setStep_3 rfl rfl rfl ?_
  rcases wq_bh_some h with ⟨r1, S2, h1r1, h⟩ | ⟨n6, r1, S2, h1r1, h⟩
  · obtain ⟨S3, eS3, h⟩ := wq_lt_some h
    refine wq_callVn (As := [.int (wq_I x1)]) (b9 := 0) (mc := 1) (ms := 6) (n := 8) F K lk_L_41 (wq_Cx_emb (o := 0) (ct_X8_setStep hlt h1r1) (Nat.le_of_ble_eq_true rfl) wq_EL_c (wq_cls_at _)) ⟨(Nat.le_of_ble_eq_true rfl), (Nat.le_of_ble_eq_true rfl)⟩ ⟨Nat.le_of_ble_eq_true rfl, Nat.le_of_ble_eq_true rfl⟩ (Nat.le_of_ble_eq_true rfl) rfl rfl rfl rfl (Nat.le_of_ble_eq_true rfl) dL_setStep_4 rfl ?_
    refine wq_namS eS3 ?_
    refine wq_i2l_ F dL_setStep_7 rfl ?_
    obtain ⟨t4, ht4, wt4, h⟩ := wq_ix_some h
    refine wq_last F (Nat.le_of_ble_eq_true rfl) rfl rfl ht4 wt4 (Or.inl ⟨Nat.le_add_right _ _, Nat.add_lt_add_left (Nat.le_of_ble_eq_true rfl) b⟩) dL_setStep_8 rfl ?_
    refine wq_goto (tgt := 15) F dL_setStep_9 (by decide) ?_
    refine wq_iconst (n := 0) F dL_setStep_15 rfl ?_
    cases h
    exact wq_iretx F rfl rfl rfl (Nat.le_of_ble_eq_true rfl) (Nat.le_of_ble_eq_true rfl) dL_setStep_16
  · by_cases hn2 : n6 + 1 = 2
    · replace h := wq_ift hn2 h
      obtain rfl : n6 = 1 := by omega
      obtain ⟨S5, eS5, h⟩ := wq_lt_some h
      refine wq_callVc (As := [.int (wq_I x1)]) (b9 := 0) (mc := 1) (ms := 6) (n := 8) (k := 1) F K lk_L_41 (wq_Cx_emb (o := 0) (ct_X8_setStep hlt h1r1) (Nat.le_of_ble_eq_true rfl) wq_EL_c (wq_cls_at _)) ⟨(Nat.le_of_ble_eq_true rfl), (Nat.le_of_ble_eq_true rfl)⟩ ⟨Nat.le_of_ble_eq_true rfl, Nat.le_of_ble_eq_true rfl⟩ (Nat.le_of_ble_eq_true rfl) rfl rfl rfl rfl (Nat.le_of_ble_eq_true rfl) dL_setStep_4 (name := "java/lang/IllegalArgumentException") rfl [] ⟨0, 9, 12, 13⟩ [] (htab.trans rfl) (fun _ h => absurd h List.not_mem_nil) (by decide) (by decide) aw_431 (List.mem_of_getElem? (i := 0) rfl) (fun q9 => ?_)
      refine wq_namS eS5 ?_
      refine wq_astore_n (L' := [some (.ref (b + 0)), some (.int (wq_I x1)), some (.ref (b + 316)), some (.ref q9)]) F dL_setStep_12 rfl (by decide) rfl rfl rfl ?_
      refine wq_iconst (n := 1) F dL_setStep_13 rfl ?_
      cases h
      exact wq_iretx F rfl rfl rfl (Nat.le_of_ble_eq_true rfl) (Nat.le_of_ble_eq_true rfl) dL_setStep_14
    · replace h := wq_iff hn2 h
      simp at h
set_option maxHeartbeats 4000000 in
set_option maxRecDepth 100000 in
theorem ct_L_toldRows {l : Launch} (hlt : l.stackTraces = false) {D : va_G} {Ar : Nat → ClassId} {b : Nat} {x1 : Int} {S S0 : wq_St} {r0 : Int} (h : f_L_toldRows x1 S = some (r0, S0)) : wq_Cw l yL_toldRows (.codeWith yL_toldRows cL_toldRows 4 ((Option.some Jvm.ClassFile.FieldType.int)) [(0, 9, 12, 21)]) 9 1 6 D Ar (wq_EL Ar b) b 317 [.ref (b + 0), .int (wq_I x1), .ref (b + 316)] S (some (.int (wq_I r0))) S0 := by
  refine wq_startw "WharfQueryLaw" [some (.ref (b + 0)), some (.int (wq_I x1)), some (.ref (b + 316)), none] (by decide +kernel) rfl (Nat.le_of_ble_eq_true rfl) rfl ?_
  intro p e s m args below meth c F K Kn htab
  unfold f_L_toldRows at h
  refine wq_aload_n F dL_toldRows_0 rfl rfl rfl ?_
  refine wq_iconst (n := 0) F dL_toldRows_1 rfl ?_
  refine wq_aload_n F dL_toldRows_2 rfl rfl rfl ?_
  refine wq_iload_n F dL_toldRows_3 rfl rfl rfl ?_
  rcases wq_bh_some h with ⟨r1, S2, h1r1, h⟩ | ⟨n6, r1, S2, h1r1, h⟩
  · obtain ⟨S3, eS3, h⟩ := wq_lt_some h
    refine wq_callVn (As := [.int (wq_I x1)]) (b9 := 0) (mc := 1) (ms := 6) (n := 8) F K lk_L_44 (wq_Cx_emb (o := 0) (ct_X8_toldRows hlt h1r1) (Nat.le_of_ble_eq_true rfl) wq_EL_c (wq_cls_at _)) ⟨(Nat.le_of_ble_eq_true rfl), (Nat.le_of_ble_eq_true rfl)⟩ ⟨Nat.le_of_ble_eq_true rfl, Nat.le_of_ble_eq_true rfl⟩ (Nat.le_of_ble_eq_true rfl) rfl rfl rfl rfl (Nat.le_of_ble_eq_true rfl) dL_toldRows_4 rfl ?_
    refine wq_namS eS3 ?_
    refine wq_i2l_ F dL_toldRows_7 rfl ?_
    obtain ⟨t4, ht4, wt4, h⟩ := wq_ix_some h
    refine wq_last F (Nat.le_of_ble_eq_true rfl) rfl rfl ht4 wt4 (Or.inl ⟨Nat.le_add_right _ _, Nat.add_lt_add_left (Nat.le_of_ble_eq_true rfl) b⟩) dL_toldRows_8 rfl ?_
    refine wq_goto (tgt := 15) F dL_toldRows_9 (by decide) ?_
    refine wq_iconst (n := 0) F dL_toldRows_15 rfl ?_
    cases h
    exact wq_iretx F rfl rfl rfl (Nat.le_of_ble_eq_true rfl) (Nat.le_of_ble_eq_true rfl) dL_toldRows_16
  · by_cases hn1 : n6 + 1 = 1
    · replace h := wq_ift hn1 h
      obtain rfl : n6 = 0 := by omega
      obtain ⟨S5, eS5, h⟩ := wq_lt_some h
      refine wq_callVc (As := [.int (wq_I x1)]) (b9 := 0) (mc := 1) (ms := 6) (n := 8) (k := 0) F K lk_L_44 (wq_Cx_emb (o := 0) (ct_X8_toldRows hlt h1r1) (Nat.le_of_ble_eq_true rfl) wq_EL_c (wq_cls_at _)) ⟨(Nat.le_of_ble_eq_true rfl), (Nat.le_of_ble_eq_true rfl)⟩ ⟨Nat.le_of_ble_eq_true rfl, Nat.le_of_ble_eq_true rfl⟩ (Nat.le_of_ble_eq_true rfl) rfl rfl rfl rfl (Nat.le_of_ble_eq_true rfl) dL_toldRows_4 (name := "java/lang/IndexOutOfBoundsException") rfl [] ⟨0, 9, 12, 21⟩ [] (htab.trans rfl) (fun _ h => absurd h List.not_mem_nil) (by decide) (by decide) aw_524 (List.mem_of_getElem? (i := 2) rfl) (fun q9 => ?_)
      refine wq_namS eS5 ?_
      refine wq_astore_n (L' := [some (.ref (b + 0)), some (.int (wq_I x1)), some (.ref (b + 316)), some (.ref q9)]) F dL_toldRows_12 rfl (by decide) rfl rfl rfl ?_
      refine wq_iconst (n := 1) F dL_toldRows_13 rfl ?_
      cases h
      exact wq_iretx F rfl rfl rfl (Nat.le_of_ble_eq_true rfl) (Nat.le_of_ble_eq_true rfl) dL_toldRows_14
    · replace h := wq_iff hn1 h
      simp at h
set_option maxHeartbeats 4000000 in
set_option maxRecDepth 100000 in
theorem ct_L_unlike {l : Launch} (hlt : l.stackTraces = false) {D : va_G} {Ar : Nat → ClassId} {b : Nat} {x1 : Int} {x2 : Int} {S S0 : wq_St} {r0 : Int} (h : f_L_unlike x1 x2 S = some (r0, S0)) : wq_Cw l yL_unlike (.codeWith yL_unlike cL_unlike 5 ((Option.some Jvm.ClassFile.FieldType.int)) [(0, 10, 13, 21)]) 10 2 12 D Ar (wq_EL Ar b) b 317 [.ref (b + 0), .int (wq_I x1), .int (wq_I x2), .ref (b + 316)] S (some (.int (wq_I r0))) S0 := by
  refine wq_startw "WharfQueryLaw" [some (.ref (b + 0)), some (.int (wq_I x1)), some (.int (wq_I x2)), some (.ref (b + 316)), none] (by decide +kernel) rfl (Nat.le_of_ble_eq_true rfl) rfl ?_
  intro p e s m args below meth c F K Kn htab
  unfold f_L_unlike at h
  refine wq_aload_n F dL_unlike_0 rfl rfl rfl ?_
  refine wq_iconst (n := 0) F dL_unlike_1 rfl ?_
  refine wq_aload_n F dL_unlike_2 rfl rfl rfl ?_
  refine wq_iload_n F dL_unlike_3 rfl rfl rfl ?_
  refine wq_iload_n F dL_unlike_4 rfl rfl rfl ?_
  rcases wq_bh_some h with ⟨r1, S2, h1r1, h⟩ | ⟨n6, r1, S2, h1r1, h⟩
  · obtain ⟨S3, eS3, h⟩ := wq_lt_some h
    refine wq_callVn (As := [.int (wq_I x1), .int (wq_I x2)]) (b9 := 0) (mc := 2) (ms := 12) (n := 9) F K lk_L_47 (wq_Cx_emb (o := 0) (ct_X8_unlike hlt h1r1) (Nat.le_of_ble_eq_true rfl) wq_EL_c (wq_cls_at _)) ⟨(Nat.le_of_ble_eq_true rfl), (Nat.le_of_ble_eq_true rfl)⟩ ⟨Nat.le_of_ble_eq_true rfl, Nat.le_of_ble_eq_true rfl⟩ (Nat.le_of_ble_eq_true rfl) rfl rfl rfl rfl (Nat.le_of_ble_eq_true rfl) dL_unlike_5 rfl ?_
    refine wq_namS eS3 ?_
    refine wq_i2l_ F dL_unlike_8 rfl ?_
    obtain ⟨t4, ht4, wt4, h⟩ := wq_ix_some h
    refine wq_last F (Nat.le_of_ble_eq_true rfl) rfl rfl ht4 wt4 (Or.inl ⟨Nat.le_add_right _ _, Nat.add_lt_add_left (Nat.le_of_ble_eq_true rfl) b⟩) dL_unlike_9 rfl ?_
    refine wq_goto (tgt := 17) F dL_unlike_10 (by decide) ?_
    refine wq_iconst (n := 0) F dL_unlike_17 rfl ?_
    cases h
    exact wq_iretx F rfl rfl rfl (Nat.le_of_ble_eq_true rfl) (Nat.le_of_ble_eq_true rfl) dL_unlike_18
  · by_cases hn1 : n6 + 1 = 1
    · replace h := wq_ift hn1 h
      obtain rfl : n6 = 0 := by omega
      obtain ⟨S5, eS5, h⟩ := wq_lt_some h
      refine wq_callVc (As := [.int (wq_I x1), .int (wq_I x2)]) (b9 := 0) (mc := 2) (ms := 12) (n := 9) (k := 0) F K lk_L_47 (wq_Cx_emb (o := 0) (ct_X8_unlike hlt h1r1) (Nat.le_of_ble_eq_true rfl) wq_EL_c (wq_cls_at _)) ⟨(Nat.le_of_ble_eq_true rfl), (Nat.le_of_ble_eq_true rfl)⟩ ⟨Nat.le_of_ble_eq_true rfl, Nat.le_of_ble_eq_true rfl⟩ (Nat.le_of_ble_eq_true rfl) rfl rfl rfl rfl (Nat.le_of_ble_eq_true rfl) dL_unlike_5 (name := "java/lang/IndexOutOfBoundsException") rfl [] ⟨0, 10, 13, 21⟩ [] (htab.trans rfl) (fun _ h => absurd h List.not_mem_nil) (by decide) (by decide) aw_524 (List.mem_of_getElem? (i := 2) rfl) (fun q9 => ?_)
      refine wq_namS eS5 ?_
      refine wq_astore (L' := [some (.ref (b + 0)), some (.int (wq_I x1)), some (.int (wq_I x2)), some (.ref (b + 316)), some (.ref q9)]) F dL_unlike_13 (by decide) rfl rfl rfl ?_
      refine wq_iconst (n := 1) F dL_unlike_15 rfl ?_
      cases h
      exact wq_iretx F rfl rfl rfl (Nat.le_of_ble_eq_true rfl) (Nat.le_of_ble_eq_true rfl) dL_unlike_16
    · replace h := wq_iff hn1 h
      simp at h
set_option maxHeartbeats 4000000 in
set_option maxRecDepth 100000 in
theorem ct_L_least {l : Launch} (hlt : l.stackTraces = false) {D : va_G} {Ar : Nat → ClassId} {b : Nat} {x1 : Int} {x2 : Int} {S S0 : wq_St} {r0 : Int} (h : f_L_least x1 x2 S = some (r0, S0)) : wq_Cw l yL_least (.codeWith yL_least cL_least 5 ((Option.some Jvm.ClassFile.FieldType.int)) [(0, 10, 13, 21)]) 10 2 12 D Ar (wq_EL Ar b) b 317 [.ref (b + 0), .int (wq_I x1), .int (wq_I x2), .ref (b + 316)] S (some (.int (wq_I r0))) S0 := by
  refine wq_startw "WharfQueryLaw" [some (.ref (b + 0)), some (.int (wq_I x1)), some (.int (wq_I x2)), some (.ref (b + 316)), none] (by decide +kernel) rfl (Nat.le_of_ble_eq_true rfl) rfl ?_
  intro p e s m args below meth c F K Kn htab
  unfold f_L_least at h
  refine wq_aload_n F dL_least_0 rfl rfl rfl ?_
  refine wq_iconst (n := 0) F dL_least_1 rfl ?_
  refine wq_aload_n F dL_least_2 rfl rfl rfl ?_
  refine wq_iload_n F dL_least_3 rfl rfl rfl ?_
  refine wq_iload_n F dL_least_4 rfl rfl rfl ?_
  rcases wq_bh_some h with ⟨r1, S2, h1r1, h⟩ | ⟨n6, r1, S2, h1r1, h⟩
  · obtain ⟨S3, eS3, h⟩ := wq_lt_some h
    refine wq_callVn (As := [.int (wq_I x1), .int (wq_I x2)]) (b9 := 0) (mc := 2) (ms := 12) (n := 9) F K lk_L_50 (wq_Cx_emb (o := 0) (ct_X8_least hlt h1r1) (Nat.le_of_ble_eq_true rfl) wq_EL_c (wq_cls_at _)) ⟨(Nat.le_of_ble_eq_true rfl), (Nat.le_of_ble_eq_true rfl)⟩ ⟨Nat.le_of_ble_eq_true rfl, Nat.le_of_ble_eq_true rfl⟩ (Nat.le_of_ble_eq_true rfl) rfl rfl rfl rfl (Nat.le_of_ble_eq_true rfl) dL_least_5 rfl ?_
    refine wq_namS eS3 ?_
    refine wq_i2l_ F dL_least_8 rfl ?_
    obtain ⟨t4, ht4, wt4, h⟩ := wq_ix_some h
    refine wq_last F (Nat.le_of_ble_eq_true rfl) rfl rfl ht4 wt4 (Or.inl ⟨Nat.le_add_right _ _, Nat.add_lt_add_left (Nat.le_of_ble_eq_true rfl) b⟩) dL_least_9 rfl ?_
    refine wq_goto (tgt := 17) F dL_least_10 (by decide) ?_
    refine wq_iconst (n := 0) F dL_least_17 rfl ?_
    cases h
    exact wq_iretx F rfl rfl rfl (Nat.le_of_ble_eq_true rfl) (Nat.le_of_ble_eq_true rfl) dL_least_18
  · by_cases hn1 : n6 + 1 = 1
    · replace h := wq_ift hn1 h
      obtain rfl : n6 = 0 := by omega
      obtain ⟨S5, eS5, h⟩ := wq_lt_some h
      refine wq_callVc (As := [.int (wq_I x1), .int (wq_I x2)]) (b9 := 0) (mc := 2) (ms := 12) (n := 9) (k := 0) F K lk_L_50 (wq_Cx_emb (o := 0) (ct_X8_least hlt h1r1) (Nat.le_of_ble_eq_true rfl) wq_EL_c (wq_cls_at _)) ⟨(Nat.le_of_ble_eq_true rfl), (Nat.le_of_ble_eq_true rfl)⟩ ⟨Nat.le_of_ble_eq_true rfl, Nat.le_of_ble_eq_true rfl⟩ (Nat.le_of_ble_eq_true rfl) rfl rfl rfl rfl (Nat.le_of_ble_eq_true rfl) dL_least_5 (name := "java/lang/IndexOutOfBoundsException") rfl [] ⟨0, 10, 13, 21⟩ [] (htab.trans rfl) (fun _ h => absurd h List.not_mem_nil) (by decide) (by decide) aw_524 (List.mem_of_getElem? (i := 2) rfl) (fun q9 => ?_)
      refine wq_namS eS5 ?_
      refine wq_astore (L' := [some (.ref (b + 0)), some (.int (wq_I x1)), some (.int (wq_I x2)), some (.ref (b + 316)), some (.ref q9)]) F dL_least_13 (by decide) rfl rfl rfl ?_
      refine wq_iconst (n := 1) F dL_least_15 rfl ?_
      cases h
      exact wq_iretx F rfl rfl rfl (Nat.le_of_ble_eq_true rfl) (Nat.le_of_ble_eq_true rfl) dL_least_16
    · replace h := wq_iff hn1 h
      simp at h
set_option maxHeartbeats 4000000 in
set_option maxRecDepth 100000 in
theorem ct_L_greatest {l : Launch} (hlt : l.stackTraces = false) {D : va_G} {Ar : Nat → ClassId} {b : Nat} {x1 : Int} {x2 : Int} {S S0 : wq_St} {r0 : Int} (h : f_L_greatest x1 x2 S = some (r0, S0)) : wq_Cw l yL_greatest (.codeWith yL_greatest cL_greatest 5 ((Option.some Jvm.ClassFile.FieldType.int)) [(0, 10, 13, 21)]) 10 2 12 D Ar (wq_EL Ar b) b 317 [.ref (b + 0), .int (wq_I x1), .int (wq_I x2), .ref (b + 316)] S (some (.int (wq_I r0))) S0 := by
  refine wq_startw "WharfQueryLaw" [some (.ref (b + 0)), some (.int (wq_I x1)), some (.int (wq_I x2)), some (.ref (b + 316)), none] (by decide +kernel) rfl (Nat.le_of_ble_eq_true rfl) rfl ?_
  intro p e s m args below meth c F K Kn htab
  unfold f_L_greatest at h
  refine wq_aload_n F dL_greatest_0 rfl rfl rfl ?_
  refine wq_iconst (n := 0) F dL_greatest_1 rfl ?_
  refine wq_aload_n F dL_greatest_2 rfl rfl rfl ?_
  refine wq_iload_n F dL_greatest_3 rfl rfl rfl ?_
  refine wq_iload_n F dL_greatest_4 rfl rfl rfl ?_
  rcases wq_bh_some h with ⟨r1, S2, h1r1, h⟩ | ⟨n6, r1, S2, h1r1, h⟩
  · obtain ⟨S3, eS3, h⟩ := wq_lt_some h
    refine wq_callVn (As := [.int (wq_I x1), .int (wq_I x2)]) (b9 := 0) (mc := 2) (ms := 12) (n := 9) F K lk_L_53 (wq_Cx_emb (o := 0) (ct_X8_greatest hlt h1r1) (Nat.le_of_ble_eq_true rfl) wq_EL_c (wq_cls_at _)) ⟨(Nat.le_of_ble_eq_true rfl), (Nat.le_of_ble_eq_true rfl)⟩ ⟨Nat.le_of_ble_eq_true rfl, Nat.le_of_ble_eq_true rfl⟩ (Nat.le_of_ble_eq_true rfl) rfl rfl rfl rfl (Nat.le_of_ble_eq_true rfl) dL_greatest_5 rfl ?_
    refine wq_namS eS3 ?_
    refine wq_i2l_ F dL_greatest_8 rfl ?_
    obtain ⟨t4, ht4, wt4, h⟩ := wq_ix_some h
    refine wq_last F (Nat.le_of_ble_eq_true rfl) rfl rfl ht4 wt4 (Or.inl ⟨Nat.le_add_right _ _, Nat.add_lt_add_left (Nat.le_of_ble_eq_true rfl) b⟩) dL_greatest_9 rfl ?_
    refine wq_goto (tgt := 17) F dL_greatest_10 (by decide) ?_
    refine wq_iconst (n := 0) F dL_greatest_17 rfl ?_
    cases h
    exact wq_iretx F rfl rfl rfl (Nat.le_of_ble_eq_true rfl) (Nat.le_of_ble_eq_true rfl) dL_greatest_18
  · by_cases hn1 : n6 + 1 = 1
    · replace h := wq_ift hn1 h
      obtain rfl : n6 = 0 := by omega
      obtain ⟨S5, eS5, h⟩ := wq_lt_some h
      refine wq_callVc (As := [.int (wq_I x1), .int (wq_I x2)]) (b9 := 0) (mc := 2) (ms := 12) (n := 9) (k := 0) F K lk_L_53 (wq_Cx_emb (o := 0) (ct_X8_greatest hlt h1r1) (Nat.le_of_ble_eq_true rfl) wq_EL_c (wq_cls_at _)) ⟨(Nat.le_of_ble_eq_true rfl), (Nat.le_of_ble_eq_true rfl)⟩ ⟨Nat.le_of_ble_eq_true rfl, Nat.le_of_ble_eq_true rfl⟩ (Nat.le_of_ble_eq_true rfl) rfl rfl rfl rfl (Nat.le_of_ble_eq_true rfl) dL_greatest_5 (name := "java/lang/IndexOutOfBoundsException") rfl [] ⟨0, 10, 13, 21⟩ [] (htab.trans rfl) (fun _ h => absurd h List.not_mem_nil) (by decide) (by decide) aw_524 (List.mem_of_getElem? (i := 2) rfl) (fun q9 => ?_)
      refine wq_namS eS5 ?_
      refine wq_astore (L' := [some (.ref (b + 0)), some (.int (wq_I x1)), some (.int (wq_I x2)), some (.ref (b + 316)), some (.ref q9)]) F dL_greatest_13 (by decide) rfl rfl rfl ?_
      refine wq_iconst (n := 1) F dL_greatest_15 rfl ?_
      cases h
      exact wq_iretx F rfl rfl rfl (Nat.le_of_ble_eq_true rfl) (Nat.le_of_ble_eq_true rfl) dL_greatest_16
    · replace h := wq_iff hn1 h
      simp at h
set_option maxHeartbeats 4000000 in
set_option maxRecDepth 100000 in
theorem ct_L_isMarked {l : Launch} (hlt : l.stackTraces = false) {D : va_G} {Ar : Nat → ClassId} {b : Nat} {x1 : Int} {S S0 : wq_St} {r0 : Int} (h : f_L_isMarked x1 S = some (r0, S0)) : wq_Cw l yL_isMarked (.codeWith yL_isMarked cL_isMarked 4 ((Option.some Jvm.ClassFile.FieldType.int)) [(0, 16, 19, 21)]) 9 1 6 D Ar (wq_EL Ar b) b 317 [.ref (b + 0), .int (wq_I x1), .ref (b + 316)] S (some (.int (wq_I r0))) S0 := by
  refine wq_startw "WharfQueryLaw" [some (.ref (b + 0)), some (.int (wq_I x1)), some (.ref (b + 316)), none] (by decide +kernel) rfl (Nat.le_of_ble_eq_true rfl) rfl ?_
  intro p e s m args below meth c F K Kn htab
  unfold f_L_isMarked at h
  refine wq_aload_n F dL_isMarked_0 rfl rfl rfl ?_
  refine wq_iconst (n := 0) F dL_isMarked_1 rfl ?_
  refine wq_aload_n F dL_isMarked_2 rfl rfl rfl ?_
  refine wq_iload_n F dL_isMarked_3 rfl rfl rfl ?_
  rcases wq_bh_some h with ⟨r1, S2, h1r1, h⟩ | ⟨n7, r1, S2, h1r1, h⟩
  · obtain ⟨S3, eS3, h⟩ := wq_lt_some h
    refine wq_callVn (As := [.int (wq_I x1)]) (b9 := 0) (mc := 1) (ms := 6) (n := 8) F K lk_L_56 (wq_Cx_emb (o := 0) (ct_X8_isMarked hlt h1r1) (Nat.le_of_ble_eq_true rfl) wq_EL_c (wq_cls_at _)) ⟨(Nat.le_of_ble_eq_true rfl), (Nat.le_of_ble_eq_true rfl)⟩ ⟨Nat.le_of_ble_eq_true rfl, Nat.le_of_ble_eq_true rfl⟩ (Nat.le_of_ble_eq_true rfl) rfl rfl rfl rfl (Nat.le_of_ble_eq_true rfl) dL_isMarked_4 rfl ?_
    refine wq_namS eS3 ?_
    refine wq_if_eq (tgt := 14) F dL_isMarked_7 (by decide) rfl (fun hc => ?_) (fun hc => ?_)
    · replace h := wq_ift hc h
      refine wq_lconst (v := 0) F dL_isMarked_14 rfl rfl ?_
      obtain ⟨t4, ht4, wt4, h⟩ := wq_ix_some h
      refine wq_last F (Nat.le_of_ble_eq_true rfl) rfl rfl ht4 wt4 (Or.inl ⟨Nat.le_add_right _ _, Nat.add_lt_add_left (Nat.le_of_ble_eq_true rfl) b⟩) dL_isMarked_15 rfl ?_
      refine wq_goto (tgt := 22) F dL_isMarked_16 (by decide) ?_
      refine wq_iconst (n := 0) F dL_isMarked_22 rfl ?_
      cases h
      exact wq_iretx F rfl rfl rfl (Nat.le_of_ble_eq_true rfl) (Nat.le_of_ble_eq_true rfl) dL_isMarked_23
    · replace h := wq_iff hc h
      refine wq_lconst (v := 1) F dL_isMarked_10 rfl rfl ?_
      refine wq_goto (tgt := 15) F dL_isMarked_11 (by decide) ?_
      obtain ⟨t5, ht5, wt5, h⟩ := wq_ix_some h
      refine wq_last F (Nat.le_of_ble_eq_true rfl) rfl rfl ht5 wt5 (Or.inl ⟨Nat.le_add_right _ _, Nat.add_lt_add_left (Nat.le_of_ble_eq_true rfl) b⟩) dL_isMarked_15 rfl ?_
      refine wq_goto (tgt := 22) F dL_isMarked_16 (by decide) ?_
      refine wq_iconst (n := 0) F dL_isMarked_22 rfl ?_
      cases h
      exact wq_iretx F rfl rfl rfl (Nat.le_of_ble_eq_true rfl) (Nat.le_of_ble_eq_true rfl) dL_isMarked_23
  · by_cases hn1 : n7 + 1 = 1
    · replace h := wq_ift hn1 h
      obtain rfl : n7 = 0 := by omega
      obtain ⟨S6, eS6, h⟩ := wq_lt_some h
      refine wq_callVc (As := [.int (wq_I x1)]) (b9 := 0) (mc := 1) (ms := 6) (n := 8) (k := 0) F K lk_L_56 (wq_Cx_emb (o := 0) (ct_X8_isMarked hlt h1r1) (Nat.le_of_ble_eq_true rfl) wq_EL_c (wq_cls_at _)) ⟨(Nat.le_of_ble_eq_true rfl), (Nat.le_of_ble_eq_true rfl)⟩ ⟨Nat.le_of_ble_eq_true rfl, Nat.le_of_ble_eq_true rfl⟩ (Nat.le_of_ble_eq_true rfl) rfl rfl rfl rfl (Nat.le_of_ble_eq_true rfl) dL_isMarked_4 (name := "java/lang/IndexOutOfBoundsException") rfl [] ⟨0, 16, 19, 21⟩ [] (htab.trans rfl) (fun _ h => absurd h List.not_mem_nil) (by decide) (by decide) aw_524 (List.mem_of_getElem? (i := 2) rfl) (fun q9 => ?_)
      refine wq_namS eS6 ?_
      refine wq_astore_n (L' := [some (.ref (b + 0)), some (.int (wq_I x1)), some (.ref (b + 316)), some (.ref q9)]) F dL_isMarked_19 rfl (by decide) rfl rfl rfl ?_
      refine wq_iconst (n := 1) F dL_isMarked_20 rfl ?_
      cases h
      exact wq_iretx F rfl rfl rfl (Nat.le_of_ble_eq_true rfl) (Nat.le_of_ble_eq_true rfl) dL_isMarked_21
    · replace h := wq_iff hn1 h
      simp at h
set_option maxHeartbeats 4000000 in
set_option maxRecDepth 100000 in
theorem ct_L_addReport {l : Launch} (hlt : l.stackTraces = false) {D : va_G} {Ar : Nat → ClassId} {b : Nat} {x1 : Int} {S S0 : wq_St} {r0 : Int} (h : f_L_addReport x1 S = some (r0, S0)) : wq_Cw l yL_addReport (.codeWith yL_addReport cL_addReport 4 ((Option.some Jvm.ClassFile.FieldType.int)) [(0, 9, 12, 13), (0, 9, 15, 15)]) 8 1 6 D Ar (wq_EL Ar b) b 317 [.ref (b + 0), .int (wq_I x1), .ref (b + 316)] S (some (.int (wq_I r0))) S0 := by
  refine wq_startw "WharfQueryLaw" [some (.ref (b + 0)), some (.int (wq_I x1)), some (.ref (b + 316)), none] (by decide +kernel) rfl (Nat.le_of_ble_eq_true rfl) rfl ?_
  intro p e s m args below meth c F K Kn htab
  unfold f_L_addReport at h
  refine wq_aload_n F dL_addReport_0 rfl rfl rfl ?_
  refine wq_iconst (n := 0) F dL_addReport_1 rfl ?_
  refine wq_aload_n F dL_addReport_2 rfl rfl rfl ?_
  refine wq_iload_n F dL_addReport_3 rfl rfl rfl ?_
  rcases wq_bh_some h with ⟨r1, S2, h1r1, h⟩ | ⟨n6, r1, S2, h1r1, h⟩
  · obtain ⟨S3, eS3, h⟩ := wq_lt_some h
    refine wq_callVn (As := [.int (wq_I x1)]) (b9 := 0) (mc := 1) (ms := 6) (n := 7) F K lk_L_60 (wq_Cx_emb (o := 0) (ct_X8_addReport hlt h1r1) (Nat.le_of_ble_eq_true rfl) wq_EL_c (wq_cls_at _)) ⟨(Nat.le_of_ble_eq_true rfl), (Nat.le_of_ble_eq_true rfl)⟩ ⟨Nat.le_of_ble_eq_true rfl, Nat.le_of_ble_eq_true rfl⟩ (Nat.le_of_ble_eq_true rfl) rfl rfl rfl rfl (Nat.le_of_ble_eq_true rfl) dL_addReport_4 rfl ?_
    refine wq_namS eS3 ?_
    refine wq_i2l_ F dL_addReport_7 rfl ?_
    obtain ⟨t4, ht4, wt4, h⟩ := wq_ix_some h
    refine wq_last F (Nat.le_of_ble_eq_true rfl) rfl rfl ht4 wt4 (Or.inl ⟨Nat.le_add_right _ _, Nat.add_lt_add_left (Nat.le_of_ble_eq_true rfl) b⟩) dL_addReport_8 rfl ?_
    refine wq_goto (tgt := 18) F dL_addReport_9 (by decide) ?_
    refine wq_iconst (n := 0) F dL_addReport_18 rfl ?_
    cases h
    exact wq_iretx F rfl rfl rfl (Nat.le_of_ble_eq_true rfl) (Nat.le_of_ble_eq_true rfl) dL_addReport_19
  · by_cases hn2 : n6 + 1 = 2
    · replace h := wq_ift hn2 h
      obtain rfl : n6 = 1 := by omega
      obtain ⟨S5, eS5, h⟩ := wq_lt_some h
      refine wq_callVc (As := [.int (wq_I x1)]) (b9 := 0) (mc := 1) (ms := 6) (n := 7) (k := 1) F K lk_L_60 (wq_Cx_emb (o := 0) (ct_X8_addReport hlt h1r1) (Nat.le_of_ble_eq_true rfl) wq_EL_c (wq_cls_at _)) ⟨(Nat.le_of_ble_eq_true rfl), (Nat.le_of_ble_eq_true rfl)⟩ ⟨Nat.le_of_ble_eq_true rfl, Nat.le_of_ble_eq_true rfl⟩ (Nat.le_of_ble_eq_true rfl) rfl rfl rfl rfl (Nat.le_of_ble_eq_true rfl) dL_addReport_4 (name := "java/lang/IllegalArgumentException") rfl [] ⟨0, 9, 12, 13⟩ [⟨0, 9, 15, 15⟩] (htab.trans rfl) (fun _ h => absurd h List.not_mem_nil) (by decide) (by decide) aw_431 (List.mem_of_getElem? (i := 0) rfl) (fun q9 => ?_)
      refine wq_namS eS5 ?_
      refine wq_astore_n (L' := [some (.ref (b + 0)), some (.int (wq_I x1)), some (.ref (b + 316)), some (.ref q9)]) F dL_addReport_12 rfl (by decide) rfl rfl rfl ?_
      refine wq_iconst (n := 1) F dL_addReport_13 rfl ?_
      cases h
      exact wq_iretx F rfl rfl rfl (Nat.le_of_ble_eq_true rfl) (Nat.le_of_ble_eq_true rfl) dL_addReport_14
    · replace h := wq_iff hn2 h
      by_cases hn3 : n6 + 1 = 3
      · replace h := wq_ift hn3 h
        obtain rfl : n6 = 2 := by omega
        obtain ⟨S5, eS5, h⟩ := wq_lt_some h
        refine wq_callVc (As := [.int (wq_I x1)]) (b9 := 0) (mc := 1) (ms := 6) (n := 7) (k := 2) F K lk_L_60 (wq_Cx_emb (o := 0) (ct_X8_addReport hlt h1r1) (Nat.le_of_ble_eq_true rfl) wq_EL_c (wq_cls_at _)) ⟨(Nat.le_of_ble_eq_true rfl), (Nat.le_of_ble_eq_true rfl)⟩ ⟨Nat.le_of_ble_eq_true rfl, Nat.le_of_ble_eq_true rfl⟩ (Nat.le_of_ble_eq_true rfl) rfl rfl rfl rfl (Nat.le_of_ble_eq_true rfl) dL_addReport_4 (name := "java/lang/IllegalStateException") rfl [⟨0, 9, 12, 13⟩] ⟨0, 9, 15, 15⟩ [] (htab.trans rfl) (List.forall_mem_cons.mpr ⟨⟨by decide, "java/lang/IllegalArgumentException", aw_431, Kn.2.2⟩, fun _ h => absurd h List.not_mem_nil⟩) (by decide) (by decide) aw_432 (List.mem_of_getElem? (i := 1) rfl) (fun q9 => ?_)
        refine wq_namS eS5 ?_
        refine wq_astore_n (L' := [some (.ref (b + 0)), some (.int (wq_I x1)), some (.ref (b + 316)), some (.ref q9)]) F dL_addReport_15 rfl (by decide) rfl rfl rfl ?_
        refine wq_iconst (n := 2) F dL_addReport_16 rfl ?_
        cases h
        exact wq_iretx F rfl rfl rfl (Nat.le_of_ble_eq_true rfl) (Nat.le_of_ble_eq_true rfl) dL_addReport_17
      · replace h := wq_iff hn3 h
        simp at h
set_option maxHeartbeats 4000000 in
set_option maxRecDepth 100000 in
theorem ct_L_addSource {l : Launch} (hlt : l.stackTraces = false) {D : va_G} {Ar : Nat → ClassId} {b : Nat} {x1 : Int} {x2 : Int} {S S0 : wq_St} {r0 : Int} (h : f_L_addSource x1 x2 S = some (r0, S0)) : wq_Cw l yL_addSource (.codeWith yL_addSource cL_addSource 5 ((Option.some Jvm.ClassFile.FieldType.int)) [(0, 10, 13, 21), (0, 10, 17, 15)]) 9 3 18 D Ar (wq_EL Ar b) b 317 [.ref (b + 0), .int (wq_I x1), .int (wq_I x2), .ref (b + 316)] S (some (.int (wq_I r0))) S0 := by
  refine wq_startw "WharfQueryLaw" [some (.ref (b + 0)), some (.int (wq_I x1)), some (.int (wq_I x2)), some (.ref (b + 316)), none] (by decide +kernel) rfl (Nat.le_of_ble_eq_true rfl) rfl ?_
  intro p e s m args below meth c F K Kn htab
  unfold f_L_addSource at h
  refine wq_aload_n F dL_addSource_0 rfl rfl rfl ?_
  refine wq_iconst (n := 0) F dL_addSource_1 rfl ?_
  refine wq_aload_n F dL_addSource_2 rfl rfl rfl ?_
  refine wq_iload_n F dL_addSource_3 rfl rfl rfl ?_
  refine wq_iload_n F dL_addSource_4 rfl rfl rfl ?_
  rcases wq_bh_some h with ⟨r1, S2, h1r1, h⟩ | ⟨n6, r1, S2, h1r1, h⟩
  · obtain ⟨S3, eS3, h⟩ := wq_lt_some h
    refine wq_callVn (As := [.int (wq_I x1), .int (wq_I x2)]) (b9 := 0) (mc := 3) (ms := 18) (n := 8) F K lk_L_63 (wq_Cx_emb (o := 0) (ct_X8_addSource hlt h1r1) (Nat.le_of_ble_eq_true rfl) wq_EL_c (wq_cls_at _)) ⟨(Nat.le_of_ble_eq_true rfl), (Nat.le_of_ble_eq_true rfl)⟩ ⟨Nat.le_of_ble_eq_true rfl, Nat.le_of_ble_eq_true rfl⟩ (Nat.le_of_ble_eq_true rfl) rfl rfl rfl rfl (Nat.le_of_ble_eq_true rfl) dL_addSource_5 rfl ?_
    refine wq_namS eS3 ?_
    refine wq_i2l_ F dL_addSource_8 rfl ?_
    obtain ⟨t4, ht4, wt4, h⟩ := wq_ix_some h
    refine wq_last F (Nat.le_of_ble_eq_true rfl) rfl rfl ht4 wt4 (Or.inl ⟨Nat.le_add_right _ _, Nat.add_lt_add_left (Nat.le_of_ble_eq_true rfl) b⟩) dL_addSource_9 rfl ?_
    refine wq_goto (tgt := 21) F dL_addSource_10 (by decide) ?_
    refine wq_iconst (n := 0) F dL_addSource_21 rfl ?_
    cases h
    exact wq_iretx F rfl rfl rfl (Nat.le_of_ble_eq_true rfl) (Nat.le_of_ble_eq_true rfl) dL_addSource_22
  · by_cases hn1 : n6 + 1 = 1
    · replace h := wq_ift hn1 h
      obtain rfl : n6 = 0 := by omega
      obtain ⟨S5, eS5, h⟩ := wq_lt_some h
      refine wq_callVc (As := [.int (wq_I x1), .int (wq_I x2)]) (b9 := 0) (mc := 3) (ms := 18) (n := 8) (k := 0) F K lk_L_63 (wq_Cx_emb (o := 0) (ct_X8_addSource hlt h1r1) (Nat.le_of_ble_eq_true rfl) wq_EL_c (wq_cls_at _)) ⟨(Nat.le_of_ble_eq_true rfl), (Nat.le_of_ble_eq_true rfl)⟩ ⟨Nat.le_of_ble_eq_true rfl, Nat.le_of_ble_eq_true rfl⟩ (Nat.le_of_ble_eq_true rfl) rfl rfl rfl rfl (Nat.le_of_ble_eq_true rfl) dL_addSource_5 (name := "java/lang/IndexOutOfBoundsException") rfl [] ⟨0, 10, 13, 21⟩ [⟨0, 10, 17, 15⟩] (htab.trans rfl) (fun _ h => absurd h List.not_mem_nil) (by decide) (by decide) aw_524 (List.mem_of_getElem? (i := 2) rfl) (fun q9 => ?_)
      refine wq_namS eS5 ?_
      refine wq_astore (L' := [some (.ref (b + 0)), some (.int (wq_I x1)), some (.int (wq_I x2)), some (.ref (b + 316)), some (.ref q9)]) F dL_addSource_13 (by decide) rfl rfl rfl ?_
      refine wq_iconst (n := 1) F dL_addSource_15 rfl ?_
      cases h
      exact wq_iretx F rfl rfl rfl (Nat.le_of_ble_eq_true rfl) (Nat.le_of_ble_eq_true rfl) dL_addSource_16
    · replace h := wq_iff hn1 h
      by_cases hn3 : n6 + 1 = 3
      · replace h := wq_ift hn3 h
        obtain rfl : n6 = 2 := by omega
        obtain ⟨S5, eS5, h⟩ := wq_lt_some h
        refine wq_callVc (As := [.int (wq_I x1), .int (wq_I x2)]) (b9 := 0) (mc := 3) (ms := 18) (n := 8) (k := 2) F K lk_L_63 (wq_Cx_emb (o := 0) (ct_X8_addSource hlt h1r1) (Nat.le_of_ble_eq_true rfl) wq_EL_c (wq_cls_at _)) ⟨(Nat.le_of_ble_eq_true rfl), (Nat.le_of_ble_eq_true rfl)⟩ ⟨Nat.le_of_ble_eq_true rfl, Nat.le_of_ble_eq_true rfl⟩ (Nat.le_of_ble_eq_true rfl) rfl rfl rfl rfl (Nat.le_of_ble_eq_true rfl) dL_addSource_5 (name := "java/lang/IllegalStateException") rfl [⟨0, 10, 13, 21⟩] ⟨0, 10, 17, 15⟩ [] (htab.trans rfl) (List.forall_mem_cons.mpr ⟨⟨by decide, "java/lang/IndexOutOfBoundsException", aw_524, Kn.2.1⟩, fun _ h => absurd h List.not_mem_nil⟩) (by decide) (by decide) aw_432 (List.mem_of_getElem? (i := 1) rfl) (fun q9 => ?_)
        refine wq_namS eS5 ?_
        refine wq_astore (L' := [some (.ref (b + 0)), some (.int (wq_I x1)), some (.int (wq_I x2)), some (.ref (b + 316)), some (.ref q9)]) F dL_addSource_17 (by decide) rfl rfl rfl ?_
        refine wq_iconst (n := 2) F dL_addSource_19 rfl ?_
        cases h
        exact wq_iretx F rfl rfl rfl (Nat.le_of_ble_eq_true rfl) (Nat.le_of_ble_eq_true rfl) dL_addSource_20
      · replace h := wq_iff hn3 h
        simp at h
set_option maxHeartbeats 4000000 in
set_option maxRecDepth 100000 in
theorem ct_L_addCondition {l : Launch} (hlt : l.stackTraces = false) {D : va_G} {Ar : Nat → ClassId} {b : Nat} {x1 : Int} {x2 : Int} {x3 : Int} {x4 : Int} {x5 : Int} {S S0 : wq_St} {r0 : Int} (h : f_L_addCondition x1 x2 x3 x4 x5 S = some (r0, S0)) : wq_Cw l yL_addCondition (.codeWith yL_addCondition cL_addCondition 8 ((Option.some Jvm.ClassFile.FieldType.int)) [(0, 16, 19, 21), (0, 16, 23, 13), (0, 16, 27, 15)]) 10 5 30 D Ar (wq_EL Ar b) b 317 [.ref (b + 0), .int (wq_I x1), .int (wq_I x2), .int (wq_I x3), .int (wq_I x4), .int (wq_I x5), .ref (b + 316)] S (some (.int (wq_I r0))) S0 := by
  refine wq_startw "WharfQueryLaw" [some (.ref (b + 0)), some (.int (wq_I x1)), some (.int (wq_I x2)), some (.int (wq_I x3)), some (.int (wq_I x4)), some (.int (wq_I x5)), some (.ref (b + 316)), none] (by decide +kernel) rfl (Nat.le_of_ble_eq_true rfl) rfl ?_
  intro p e s m args below meth c F K Kn htab
  unfold f_L_addCondition at h
  refine wq_aload F dL_addCondition_0 rfl rfl ?_
  refine wq_iconst (n := 0) F dL_addCondition_2 rfl ?_
  refine wq_aload_n F dL_addCondition_3 rfl rfl rfl ?_
  refine wq_iload_n F dL_addCondition_4 rfl rfl rfl ?_
  refine wq_iload_n F dL_addCondition_5 rfl rfl rfl ?_
  refine wq_iload_n F dL_addCondition_6 rfl rfl rfl ?_
  refine wq_iload F dL_addCondition_7 rfl rfl ?_
  refine wq_iload F dL_addCondition_9 rfl rfl ?_
  rcases wq_bh_some h with ⟨r1, S2, h1r1, h⟩ | ⟨n6, r1, S2, h1r1, h⟩
  · obtain ⟨S3, eS3, h⟩ := wq_lt_some h
    refine wq_callVn (As := [.int (wq_I x1), .int (wq_I x2), .int (wq_I x3), .int (wq_I x4), .int (wq_I x5)]) (b9 := 0) (mc := 5) (ms := 30) (n := 9) F K lk_L_66 (wq_Cx_emb (o := 0) (ct_X8_addCondition hlt h1r1) (Nat.le_of_ble_eq_true rfl) wq_EL_c (wq_cls_at _)) ⟨(Nat.le_of_ble_eq_true rfl), (Nat.le_of_ble_eq_true rfl)⟩ ⟨Nat.le_of_ble_eq_true rfl, Nat.le_of_ble_eq_true rfl⟩ (Nat.le_of_ble_eq_true rfl) rfl rfl rfl rfl (Nat.le_of_ble_eq_true rfl) dL_addCondition_11 rfl ?_
    refine wq_namS eS3 ?_
    refine wq_i2l_ F dL_addCondition_14 rfl ?_
    obtain ⟨t4, ht4, wt4, h⟩ := wq_ix_some h
    refine wq_last F (Nat.le_of_ble_eq_true rfl) rfl rfl ht4 wt4 (Or.inl ⟨Nat.le_add_right _ _, Nat.add_lt_add_left (Nat.le_of_ble_eq_true rfl) b⟩) dL_addCondition_15 rfl ?_
    refine wq_goto (tgt := 31) F dL_addCondition_16 (by decide) ?_
    refine wq_iconst (n := 0) F dL_addCondition_31 rfl ?_
    cases h
    exact wq_iretx F rfl rfl rfl (Nat.le_of_ble_eq_true rfl) (Nat.le_of_ble_eq_true rfl) dL_addCondition_32
  · by_cases hn1 : n6 + 1 = 1
    · replace h := wq_ift hn1 h
      obtain rfl : n6 = 0 := by omega
      obtain ⟨S5, eS5, h⟩ := wq_lt_some h
      refine wq_callVc (As := [.int (wq_I x1), .int (wq_I x2), .int (wq_I x3), .int (wq_I x4), .int (wq_I x5)]) (b9 := 0) (mc := 5) (ms := 30) (n := 9) (k := 0) F K lk_L_66 (wq_Cx_emb (o := 0) (ct_X8_addCondition hlt h1r1) (Nat.le_of_ble_eq_true rfl) wq_EL_c (wq_cls_at _)) ⟨(Nat.le_of_ble_eq_true rfl), (Nat.le_of_ble_eq_true rfl)⟩ ⟨Nat.le_of_ble_eq_true rfl, Nat.le_of_ble_eq_true rfl⟩ (Nat.le_of_ble_eq_true rfl) rfl rfl rfl rfl (Nat.le_of_ble_eq_true rfl) dL_addCondition_11 (name := "java/lang/IndexOutOfBoundsException") rfl [] ⟨0, 16, 19, 21⟩ [⟨0, 16, 23, 13⟩, ⟨0, 16, 27, 15⟩] (htab.trans rfl) (fun _ h => absurd h List.not_mem_nil) (by decide) (by decide) aw_524 (List.mem_of_getElem? (i := 2) rfl) (fun q9 => ?_)
      refine wq_namS eS5 ?_
      refine wq_astore (L' := [some (.ref (b + 0)), some (.int (wq_I x1)), some (.int (wq_I x2)), some (.int (wq_I x3)), some (.int (wq_I x4)), some (.int (wq_I x5)), some (.ref (b + 316)), some (.ref q9)]) F dL_addCondition_19 (by decide) rfl rfl rfl ?_
      refine wq_iconst (n := 1) F dL_addCondition_21 rfl ?_
      cases h
      exact wq_iretx F rfl rfl rfl (Nat.le_of_ble_eq_true rfl) (Nat.le_of_ble_eq_true rfl) dL_addCondition_22
    · replace h := wq_iff hn1 h
      by_cases hn2 : n6 + 1 = 2
      · replace h := wq_ift hn2 h
        obtain rfl : n6 = 1 := by omega
        obtain ⟨S5, eS5, h⟩ := wq_lt_some h
        refine wq_callVc (As := [.int (wq_I x1), .int (wq_I x2), .int (wq_I x3), .int (wq_I x4), .int (wq_I x5)]) (b9 := 0) (mc := 5) (ms := 30) (n := 9) (k := 1) F K lk_L_66 (wq_Cx_emb (o := 0) (ct_X8_addCondition hlt h1r1) (Nat.le_of_ble_eq_true rfl) wq_EL_c (wq_cls_at _)) ⟨(Nat.le_of_ble_eq_true rfl), (Nat.le_of_ble_eq_true rfl)⟩ ⟨Nat.le_of_ble_eq_true rfl, Nat.le_of_ble_eq_true rfl⟩ (Nat.le_of_ble_eq_true rfl) rfl rfl rfl rfl (Nat.le_of_ble_eq_true rfl) dL_addCondition_11 (name := "java/lang/IllegalArgumentException") rfl [⟨0, 16, 19, 21⟩] ⟨0, 16, 23, 13⟩ [⟨0, 16, 27, 15⟩] (htab.trans rfl) (List.forall_mem_cons.mpr ⟨⟨by decide, "java/lang/IndexOutOfBoundsException", aw_524, Kn.1⟩, fun _ h => absurd h List.not_mem_nil⟩) (by decide) (by decide) aw_431 (List.mem_of_getElem? (i := 0) rfl) (fun q9 => ?_)
        refine wq_namS eS5 ?_
        refine wq_astore (L' := [some (.ref (b + 0)), some (.int (wq_I x1)), some (.int (wq_I x2)), some (.int (wq_I x3)), some (.int (wq_I x4)), some (.int (wq_I x5)), some (.ref (b + 316)), some (.ref q9)]) F dL_addCondition_23 (by decide) rfl rfl rfl ?_
        refine wq_iconst (n := 2) F dL_addCondition_25 rfl ?_
        cases h
        exact wq_iretx F rfl rfl rfl (Nat.le_of_ble_eq_true rfl) (Nat.le_of_ble_eq_true rfl) dL_addCondition_26
      · replace h := wq_iff hn2 h
        by_cases hn3 : n6 + 1 = 3
        · replace h := wq_ift hn3 h
          obtain rfl : n6 = 2 := by omega
          obtain ⟨S5, eS5, h⟩ := wq_lt_some h
          refine wq_callVc (As := [.int (wq_I x1), .int (wq_I x2), .int (wq_I x3), .int (wq_I x4), .int (wq_I x5)]) (b9 := 0) (mc := 5) (ms := 30) (n := 9) (k := 2) F K lk_L_66 (wq_Cx_emb (o := 0) (ct_X8_addCondition hlt h1r1) (Nat.le_of_ble_eq_true rfl) wq_EL_c (wq_cls_at _)) ⟨(Nat.le_of_ble_eq_true rfl), (Nat.le_of_ble_eq_true rfl)⟩ ⟨Nat.le_of_ble_eq_true rfl, Nat.le_of_ble_eq_true rfl⟩ (Nat.le_of_ble_eq_true rfl) rfl rfl rfl rfl (Nat.le_of_ble_eq_true rfl) dL_addCondition_11 (name := "java/lang/IllegalStateException") rfl [⟨0, 16, 19, 21⟩, ⟨0, 16, 23, 13⟩] ⟨0, 16, 27, 15⟩ [] (htab.trans rfl) (List.forall_mem_cons.mpr ⟨⟨by decide, "java/lang/IndexOutOfBoundsException", aw_524, Kn.2.1⟩, List.forall_mem_cons.mpr ⟨⟨by decide, "java/lang/IllegalArgumentException", aw_431, Kn.2.2⟩, fun _ h => absurd h List.not_mem_nil⟩⟩) (by decide) (by decide) aw_432 (List.mem_of_getElem? (i := 1) rfl) (fun q9 => ?_)
          refine wq_namS eS5 ?_
          refine wq_astore (L' := [some (.ref (b + 0)), some (.int (wq_I x1)), some (.int (wq_I x2)), some (.int (wq_I x3)), some (.int (wq_I x4)), some (.int (wq_I x5)), some (.ref (b + 316)), some (.ref q9)]) F dL_addCondition_27 (by decide) rfl rfl rfl ?_
          refine wq_iconst (n := 3) F dL_addCondition_29 rfl ?_
          cases h
          exact wq_iretx F rfl rfl rfl (Nat.le_of_ble_eq_true rfl) (Nat.le_of_ble_eq_true rfl) dL_addCondition_30
        · replace h := wq_iff hn3 h
          simp at h
set_option maxHeartbeats 4000000 in
set_option maxRecDepth 100000 in
theorem ct_L_addJoin {l : Launch} (hlt : l.stackTraces = false) {D : va_G} {Ar : Nat → ClassId} {b : Nat} {x1 : Int} {x2 : Int} {x3 : Int} {x4 : Int} {x5 : Int} {S S0 : wq_St} {r0 : Int} (h : f_L_addJoin x1 x2 x3 x4 x5 S = some (r0, S0)) : wq_Cw l yL_addJoin (.codeWith yL_addJoin cL_addJoin 8 ((Option.some Jvm.ClassFile.FieldType.int)) [(0, 16, 19, 21), (0, 16, 23, 13), (0, 16, 27, 15)]) 10 7 42 D Ar (wq_EL Ar b) b 317 [.ref (b + 0), .int (wq_I x1), .int (wq_I x2), .int (wq_I x3), .int (wq_I x4), .int (wq_I x5), .ref (b + 316)] S (some (.int (wq_I r0))) S0 := by
  refine wq_startw "WharfQueryLaw" [some (.ref (b + 0)), some (.int (wq_I x1)), some (.int (wq_I x2)), some (.int (wq_I x3)), some (.int (wq_I x4)), some (.int (wq_I x5)), some (.ref (b + 316)), none] (by decide +kernel) rfl (Nat.le_of_ble_eq_true rfl) rfl ?_
  intro p e s m args below meth c F K Kn htab
  unfold f_L_addJoin at h
  refine wq_aload F dL_addJoin_0 rfl rfl ?_
  refine wq_iconst (n := 0) F dL_addJoin_2 rfl ?_
  refine wq_aload_n F dL_addJoin_3 rfl rfl rfl ?_
  refine wq_iload_n F dL_addJoin_4 rfl rfl rfl ?_
  refine wq_iload_n F dL_addJoin_5 rfl rfl rfl ?_
  refine wq_iload_n F dL_addJoin_6 rfl rfl rfl ?_
  refine wq_iload F dL_addJoin_7 rfl rfl ?_
  refine wq_iload F dL_addJoin_9 rfl rfl ?_
  rcases wq_bh_some h with ⟨r1, S2, h1r1, h⟩ | ⟨n6, r1, S2, h1r1, h⟩
  · obtain ⟨S3, eS3, h⟩ := wq_lt_some h
    refine wq_callVn (As := [.int (wq_I x1), .int (wq_I x2), .int (wq_I x3), .int (wq_I x4), .int (wq_I x5)]) (b9 := 0) (mc := 7) (ms := 42) (n := 9) F K lk_L_70 (wq_Cx_emb (o := 0) (ct_X8_addJoin hlt h1r1) (Nat.le_of_ble_eq_true rfl) wq_EL_c (wq_cls_at _)) ⟨(Nat.le_of_ble_eq_true rfl), (Nat.le_of_ble_eq_true rfl)⟩ ⟨Nat.le_of_ble_eq_true rfl, Nat.le_of_ble_eq_true rfl⟩ (Nat.le_of_ble_eq_true rfl) rfl rfl rfl rfl (Nat.le_of_ble_eq_true rfl) dL_addJoin_11 rfl ?_
    refine wq_namS eS3 ?_
    refine wq_i2l_ F dL_addJoin_14 rfl ?_
    obtain ⟨t4, ht4, wt4, h⟩ := wq_ix_some h
    refine wq_last F (Nat.le_of_ble_eq_true rfl) rfl rfl ht4 wt4 (Or.inl ⟨Nat.le_add_right _ _, Nat.add_lt_add_left (Nat.le_of_ble_eq_true rfl) b⟩) dL_addJoin_15 rfl ?_
    refine wq_goto (tgt := 31) F dL_addJoin_16 (by decide) ?_
    refine wq_iconst (n := 0) F dL_addJoin_31 rfl ?_
    cases h
    exact wq_iretx F rfl rfl rfl (Nat.le_of_ble_eq_true rfl) (Nat.le_of_ble_eq_true rfl) dL_addJoin_32
  · by_cases hn1 : n6 + 1 = 1
    · replace h := wq_ift hn1 h
      obtain rfl : n6 = 0 := by omega
      obtain ⟨S5, eS5, h⟩ := wq_lt_some h
      refine wq_callVc (As := [.int (wq_I x1), .int (wq_I x2), .int (wq_I x3), .int (wq_I x4), .int (wq_I x5)]) (b9 := 0) (mc := 7) (ms := 42) (n := 9) (k := 0) F K lk_L_70 (wq_Cx_emb (o := 0) (ct_X8_addJoin hlt h1r1) (Nat.le_of_ble_eq_true rfl) wq_EL_c (wq_cls_at _)) ⟨(Nat.le_of_ble_eq_true rfl), (Nat.le_of_ble_eq_true rfl)⟩ ⟨Nat.le_of_ble_eq_true rfl, Nat.le_of_ble_eq_true rfl⟩ (Nat.le_of_ble_eq_true rfl) rfl rfl rfl rfl (Nat.le_of_ble_eq_true rfl) dL_addJoin_11 (name := "java/lang/IndexOutOfBoundsException") rfl [] ⟨0, 16, 19, 21⟩ [⟨0, 16, 23, 13⟩, ⟨0, 16, 27, 15⟩] (htab.trans rfl) (fun _ h => absurd h List.not_mem_nil) (by decide) (by decide) aw_524 (List.mem_of_getElem? (i := 2) rfl) (fun q9 => ?_)
      refine wq_namS eS5 ?_
      refine wq_astore (L' := [some (.ref (b + 0)), some (.int (wq_I x1)), some (.int (wq_I x2)), some (.int (wq_I x3)), some (.int (wq_I x4)), some (.int (wq_I x5)), some (.ref (b + 316)), some (.ref q9)]) F dL_addJoin_19 (by decide) rfl rfl rfl ?_
      refine wq_iconst (n := 1) F dL_addJoin_21 rfl ?_
      cases h
      exact wq_iretx F rfl rfl rfl (Nat.le_of_ble_eq_true rfl) (Nat.le_of_ble_eq_true rfl) dL_addJoin_22
    · replace h := wq_iff hn1 h
      by_cases hn2 : n6 + 1 = 2
      · replace h := wq_ift hn2 h
        obtain rfl : n6 = 1 := by omega
        obtain ⟨S5, eS5, h⟩ := wq_lt_some h
        refine wq_callVc (As := [.int (wq_I x1), .int (wq_I x2), .int (wq_I x3), .int (wq_I x4), .int (wq_I x5)]) (b9 := 0) (mc := 7) (ms := 42) (n := 9) (k := 1) F K lk_L_70 (wq_Cx_emb (o := 0) (ct_X8_addJoin hlt h1r1) (Nat.le_of_ble_eq_true rfl) wq_EL_c (wq_cls_at _)) ⟨(Nat.le_of_ble_eq_true rfl), (Nat.le_of_ble_eq_true rfl)⟩ ⟨Nat.le_of_ble_eq_true rfl, Nat.le_of_ble_eq_true rfl⟩ (Nat.le_of_ble_eq_true rfl) rfl rfl rfl rfl (Nat.le_of_ble_eq_true rfl) dL_addJoin_11 (name := "java/lang/IllegalArgumentException") rfl [⟨0, 16, 19, 21⟩] ⟨0, 16, 23, 13⟩ [⟨0, 16, 27, 15⟩] (htab.trans rfl) (List.forall_mem_cons.mpr ⟨⟨by decide, "java/lang/IndexOutOfBoundsException", aw_524, Kn.1⟩, fun _ h => absurd h List.not_mem_nil⟩) (by decide) (by decide) aw_431 (List.mem_of_getElem? (i := 0) rfl) (fun q9 => ?_)
        refine wq_namS eS5 ?_
        refine wq_astore (L' := [some (.ref (b + 0)), some (.int (wq_I x1)), some (.int (wq_I x2)), some (.int (wq_I x3)), some (.int (wq_I x4)), some (.int (wq_I x5)), some (.ref (b + 316)), some (.ref q9)]) F dL_addJoin_23 (by decide) rfl rfl rfl ?_
        refine wq_iconst (n := 2) F dL_addJoin_25 rfl ?_
        cases h
        exact wq_iretx F rfl rfl rfl (Nat.le_of_ble_eq_true rfl) (Nat.le_of_ble_eq_true rfl) dL_addJoin_26
      · replace h := wq_iff hn2 h
        by_cases hn3 : n6 + 1 = 3
        · replace h := wq_ift hn3 h
          obtain rfl : n6 = 2 := by omega
          obtain ⟨S5, eS5, h⟩ := wq_lt_some h
          refine wq_callVc (As := [.int (wq_I x1), .int (wq_I x2), .int (wq_I x3), .int (wq_I x4), .int (wq_I x5)]) (b9 := 0) (mc := 7) (ms := 42) (n := 9) (k := 2) F K lk_L_70 (wq_Cx_emb (o := 0) (ct_X8_addJoin hlt h1r1) (Nat.le_of_ble_eq_true rfl) wq_EL_c (wq_cls_at _)) ⟨(Nat.le_of_ble_eq_true rfl), (Nat.le_of_ble_eq_true rfl)⟩ ⟨Nat.le_of_ble_eq_true rfl, Nat.le_of_ble_eq_true rfl⟩ (Nat.le_of_ble_eq_true rfl) rfl rfl rfl rfl (Nat.le_of_ble_eq_true rfl) dL_addJoin_11 (name := "java/lang/IllegalStateException") rfl [⟨0, 16, 19, 21⟩, ⟨0, 16, 23, 13⟩] ⟨0, 16, 27, 15⟩ [] (htab.trans rfl) (List.forall_mem_cons.mpr ⟨⟨by decide, "java/lang/IndexOutOfBoundsException", aw_524, Kn.2.1⟩, List.forall_mem_cons.mpr ⟨⟨by decide, "java/lang/IllegalArgumentException", aw_431, Kn.2.2⟩, fun _ h => absurd h List.not_mem_nil⟩⟩) (by decide) (by decide) aw_432 (List.mem_of_getElem? (i := 1) rfl) (fun q9 => ?_)
          refine wq_namS eS5 ?_
          refine wq_astore (L' := [some (.ref (b + 0)), some (.int (wq_I x1)), some (.int (wq_I x2)), some (.int (wq_I x3)), some (.int (wq_I x4)), some (.int (wq_I x5)), some (.ref (b + 316)), some (.ref q9)]) F dL_addJoin_27 (by decide) rfl rfl rfl ?_
          refine wq_iconst (n := 3) F dL_addJoin_29 rfl ?_
          cases h
          exact wq_iretx F rfl rfl rfl (Nat.le_of_ble_eq_true rfl) (Nat.le_of_ble_eq_true rfl) dL_addJoin_30
        · replace h := wq_iff hn3 h
          simp at h
set_option maxHeartbeats 4000000 in
set_option maxRecDepth 100000 in
theorem ct_L_dropCondition {l : Launch} (hlt : l.stackTraces = false) {D : va_G} {Ar : Nat → ClassId} {b : Nat} {x1 : Int} {S S0 : wq_St} {r0 : Int} (h : f_L_dropCondition x1 S = some (r0, S0)) : wq_Cw l yL_dropCondition (.codeWith yL_dropCondition cL_dropCondition 4 ((Option.some Jvm.ClassFile.FieldType.int)) [(0, 9, 12, 21), (0, 9, 15, 15)]) 9 2 12 D Ar (wq_EL Ar b) b 317 [.ref (b + 0), .int (wq_I x1), .ref (b + 316)] S (some (.int (wq_I r0))) S0 := by
  refine wq_startw "WharfQueryLaw" [some (.ref (b + 0)), some (.int (wq_I x1)), some (.ref (b + 316)), none] (by decide +kernel) rfl (Nat.le_of_ble_eq_true rfl) rfl ?_
  intro p e s m args below meth c F K Kn htab
  unfold f_L_dropCondition at h
  refine wq_aload_n F dL_dropCondition_0 rfl rfl rfl ?_
  refine wq_iconst (n := 0) F dL_dropCondition_1 rfl ?_
  refine wq_aload_n F dL_dropCondition_2 rfl rfl rfl ?_
  refine wq_iload_n F dL_dropCondition_3 rfl rfl rfl ?_
  rcases wq_bh_some h with ⟨r1, S2, h1r1, h⟩ | ⟨n6, r1, S2, h1r1, h⟩
  · obtain ⟨S3, eS3, h⟩ := wq_lt_some h
    refine wq_callVn (As := [.int (wq_I x1)]) (b9 := 0) (mc := 2) (ms := 12) (n := 8) F K lk_L_73 (wq_Cx_emb (o := 0) (ct_X8_dropCondition hlt h1r1) (Nat.le_of_ble_eq_true rfl) wq_EL_c (wq_cls_at _)) ⟨(Nat.le_of_ble_eq_true rfl), (Nat.le_of_ble_eq_true rfl)⟩ ⟨Nat.le_of_ble_eq_true rfl, Nat.le_of_ble_eq_true rfl⟩ (Nat.le_of_ble_eq_true rfl) rfl rfl rfl rfl (Nat.le_of_ble_eq_true rfl) dL_dropCondition_4 rfl ?_
    refine wq_namS eS3 ?_
    refine wq_i2l_ F dL_dropCondition_7 rfl ?_
    obtain ⟨t4, ht4, wt4, h⟩ := wq_ix_some h
    refine wq_last F (Nat.le_of_ble_eq_true rfl) rfl rfl ht4 wt4 (Or.inl ⟨Nat.le_add_right _ _, Nat.add_lt_add_left (Nat.le_of_ble_eq_true rfl) b⟩) dL_dropCondition_8 rfl ?_
    refine wq_goto (tgt := 18) F dL_dropCondition_9 (by decide) ?_
    refine wq_iconst (n := 0) F dL_dropCondition_18 rfl ?_
    cases h
    exact wq_iretx F rfl rfl rfl (Nat.le_of_ble_eq_true rfl) (Nat.le_of_ble_eq_true rfl) dL_dropCondition_19
  · by_cases hn1 : n6 + 1 = 1
    · replace h := wq_ift hn1 h
      obtain rfl : n6 = 0 := by omega
      obtain ⟨S5, eS5, h⟩ := wq_lt_some h
      refine wq_callVc (As := [.int (wq_I x1)]) (b9 := 0) (mc := 2) (ms := 12) (n := 8) (k := 0) F K lk_L_73 (wq_Cx_emb (o := 0) (ct_X8_dropCondition hlt h1r1) (Nat.le_of_ble_eq_true rfl) wq_EL_c (wq_cls_at _)) ⟨(Nat.le_of_ble_eq_true rfl), (Nat.le_of_ble_eq_true rfl)⟩ ⟨Nat.le_of_ble_eq_true rfl, Nat.le_of_ble_eq_true rfl⟩ (Nat.le_of_ble_eq_true rfl) rfl rfl rfl rfl (Nat.le_of_ble_eq_true rfl) dL_dropCondition_4 (name := "java/lang/IndexOutOfBoundsException") rfl [] ⟨0, 9, 12, 21⟩ [⟨0, 9, 15, 15⟩] (htab.trans rfl) (fun _ h => absurd h List.not_mem_nil) (by decide) (by decide) aw_524 (List.mem_of_getElem? (i := 2) rfl) (fun q9 => ?_)
      refine wq_namS eS5 ?_
      refine wq_astore_n (L' := [some (.ref (b + 0)), some (.int (wq_I x1)), some (.ref (b + 316)), some (.ref q9)]) F dL_dropCondition_12 rfl (by decide) rfl rfl rfl ?_
      refine wq_iconst (n := 1) F dL_dropCondition_13 rfl ?_
      cases h
      exact wq_iretx F rfl rfl rfl (Nat.le_of_ble_eq_true rfl) (Nat.le_of_ble_eq_true rfl) dL_dropCondition_14
    · replace h := wq_iff hn1 h
      by_cases hn3 : n6 + 1 = 3
      · replace h := wq_ift hn3 h
        obtain rfl : n6 = 2 := by omega
        obtain ⟨S5, eS5, h⟩ := wq_lt_some h
        refine wq_callVc (As := [.int (wq_I x1)]) (b9 := 0) (mc := 2) (ms := 12) (n := 8) (k := 2) F K lk_L_73 (wq_Cx_emb (o := 0) (ct_X8_dropCondition hlt h1r1) (Nat.le_of_ble_eq_true rfl) wq_EL_c (wq_cls_at _)) ⟨(Nat.le_of_ble_eq_true rfl), (Nat.le_of_ble_eq_true rfl)⟩ ⟨Nat.le_of_ble_eq_true rfl, Nat.le_of_ble_eq_true rfl⟩ (Nat.le_of_ble_eq_true rfl) rfl rfl rfl rfl (Nat.le_of_ble_eq_true rfl) dL_dropCondition_4 (name := "java/lang/IllegalStateException") rfl [⟨0, 9, 12, 21⟩] ⟨0, 9, 15, 15⟩ [] (htab.trans rfl) (List.forall_mem_cons.mpr ⟨⟨by decide, "java/lang/IndexOutOfBoundsException", aw_524, Kn.2.1⟩, fun _ h => absurd h List.not_mem_nil⟩) (by decide) (by decide) aw_432 (List.mem_of_getElem? (i := 1) rfl) (fun q9 => ?_)
        refine wq_namS eS5 ?_
        refine wq_astore_n (L' := [some (.ref (b + 0)), some (.int (wq_I x1)), some (.ref (b + 316)), some (.ref q9)]) F dL_dropCondition_15 rfl (by decide) rfl rfl rfl ?_
        refine wq_iconst (n := 2) F dL_dropCondition_16 rfl ?_
        cases h
        exact wq_iretx F rfl rfl rfl (Nat.le_of_ble_eq_true rfl) (Nat.le_of_ble_eq_true rfl) dL_dropCondition_17
      · replace h := wq_iff hn3 h
        simp at h
set_option maxHeartbeats 4000000 in
set_option maxRecDepth 100000 in
theorem ct_L_setSum {l : Launch} (hlt : l.stackTraces = false) {D : va_G} {Ar : Nat → ClassId} {b : Nat} {x1 : Int} {x2 : Int} {x3 : Int} {S S0 : wq_St} {r0 : Int} (h : f_L_setSum x1 x2 x3 S = some (r0, S0)) : wq_Cw l yL_setSum (.codeWith yL_setSum cL_setSum 5 ((Option.some Jvm.ClassFile.FieldType.int)) [(0, 7, 10, 21)]) 10 3 18 D Ar (wq_EL Ar b) b 317 [.ref (b + 0), .int (wq_I x1), .int (wq_I x2), .int (wq_I x3)] S (some (.int (wq_I r0))) S0 := by
  refine wq_startw "WharfQueryLaw" [some (.ref (b + 0)), some (.int (wq_I x1)), some (.int (wq_I x2)), some (.int (wq_I x3)), none] (by decide +kernel) rfl (Nat.le_of_ble_eq_true rfl) rfl ?_
  intro p e s m args below meth c F K Kn htab
  unfold f_L_setSum at h
  refine wq_aload_n F dL_setSum_0 rfl rfl rfl ?_
  refine wq_iload_n F dL_setSum_1 rfl rfl rfl ?_
  refine wq_iload_n F dL_setSum_2 rfl rfl rfl ?_
  refine wq_iload_n F dL_setSum_3 rfl rfl rfl ?_
  rcases wq_bh_some h with ⟨r1, S2, h1r1, h⟩ | ⟨n5, r1, S2, h1r1, h⟩
  · obtain ⟨S3, eS3, h⟩ := wq_lt_some h
    refine wq_callVn (As := [.int (wq_I x1), .int (wq_I x2), .int (wq_I x3)]) (b9 := 0) (mc := 3) (ms := 18) (n := 9) F K lk_L_76 (wq_Cx_emb (o := 0) (ct_X8_setSum hlt h1r1) (Nat.le_of_ble_eq_true rfl) wq_EL_c (wq_cls_at _)) ⟨(Nat.le_of_ble_eq_true rfl), (Nat.le_of_ble_eq_true rfl)⟩ ⟨Nat.le_of_ble_eq_true rfl, Nat.le_of_ble_eq_true rfl⟩ (Nat.le_of_ble_eq_true rfl) rfl rfl rfl rfl (Nat.le_of_ble_eq_true rfl) dL_setSum_4 rfl ?_
    refine wq_namS eS3 ?_
    refine wq_goto (tgt := 14) F dL_setSum_7 (by decide) ?_
    refine wq_iconst (n := 0) F dL_setSum_14 rfl ?_
    cases h
    exact wq_iretx F rfl rfl rfl (Nat.le_of_ble_eq_true rfl) (Nat.le_of_ble_eq_true rfl) dL_setSum_15
  · by_cases hn1 : n5 + 1 = 1
    · replace h := wq_ift hn1 h
      obtain rfl : n5 = 0 := by omega
      obtain ⟨S4, eS4, h⟩ := wq_lt_some h
      refine wq_callVc (As := [.int (wq_I x1), .int (wq_I x2), .int (wq_I x3)]) (b9 := 0) (mc := 3) (ms := 18) (n := 9) (k := 0) F K lk_L_76 (wq_Cx_emb (o := 0) (ct_X8_setSum hlt h1r1) (Nat.le_of_ble_eq_true rfl) wq_EL_c (wq_cls_at _)) ⟨(Nat.le_of_ble_eq_true rfl), (Nat.le_of_ble_eq_true rfl)⟩ ⟨Nat.le_of_ble_eq_true rfl, Nat.le_of_ble_eq_true rfl⟩ (Nat.le_of_ble_eq_true rfl) rfl rfl rfl rfl (Nat.le_of_ble_eq_true rfl) dL_setSum_4 (name := "java/lang/IndexOutOfBoundsException") rfl [] ⟨0, 7, 10, 21⟩ [] (htab.trans rfl) (fun _ h => absurd h List.not_mem_nil) (by decide) (by decide) aw_524 (List.mem_of_getElem? (i := 2) rfl) (fun q9 => ?_)
      refine wq_namS eS4 ?_
      refine wq_astore (L' := [some (.ref (b + 0)), some (.int (wq_I x1)), some (.int (wq_I x2)), some (.int (wq_I x3)), some (.ref q9)]) F dL_setSum_10 (by decide) rfl rfl rfl ?_
      refine wq_iconst (n := 1) F dL_setSum_12 rfl ?_
      cases h
      exact wq_iretx F rfl rfl rfl (Nat.le_of_ble_eq_true rfl) (Nat.le_of_ble_eq_true rfl) dL_setSum_13
    · replace h := wq_iff hn1 h
      simp at h
set_option maxHeartbeats 4000000 in
set_option maxRecDepth 100000 in
theorem ct_L_setDue {l : Launch} (hlt : l.stackTraces = false) {D : va_G} {Ar : Nat → ClassId} {b : Nat} {x1 : Int} {x2 : Int} {S S0 : wq_St} {r0 : Int} (h : f_L_setDue x1 x2 S = some (r0, S0)) : wq_Cw l yL_setDue (.codeWith yL_setDue cL_setDue 5 ((Option.some Jvm.ClassFile.FieldType.int)) [(0, 17, 20, 21)]) 9 1 6 D Ar (wq_EL Ar b) b 317 [.ref (b + 0), .int (wq_I x1), .int (wq_I x2), .ref (b + 316)] S (some (.int (wq_I r0))) S0 := by
  refine wq_startw "WharfQueryLaw" [some (.ref (b + 0)), some (.int (wq_I x1)), some (.int (wq_I x2)), some (.ref (b + 316)), none] (by decide +kernel) rfl (Nat.le_of_ble_eq_true rfl) rfl ?_
  intro p e s m args below meth c F K Kn htab
  unfold f_L_setDue at h
  refine wq_aload_n F dL_setDue_0 rfl rfl rfl ?_
  refine wq_iconst (n := 0) F dL_setDue_1 rfl ?_
  refine wq_aload_n F dL_setDue_2 rfl rfl rfl ?_
  refine wq_iload_n F dL_setDue_3 rfl rfl rfl ?_
  refine wq_iload_n F dL_setDue_4 rfl rfl rfl ?_
  rcases wq_bh_some h with ⟨r1, S2, h1r1, h⟩ | ⟨n7, r1, S2, h1r1, h⟩
  · obtain ⟨S3, eS3, h⟩ := wq_lt_some h
    refine wq_callVn (As := [.int (wq_I x1), .int (wq_I x2)]) (b9 := 0) (mc := 1) (ms := 6) (n := 8) F K lk_L_80 (wq_Cx_emb (o := 0) (ct_X8_setDue hlt h1r1) (Nat.le_of_ble_eq_true rfl) wq_EL_c (wq_cls_at _)) ⟨(Nat.le_of_ble_eq_true rfl), (Nat.le_of_ble_eq_true rfl)⟩ ⟨Nat.le_of_ble_eq_true rfl, Nat.le_of_ble_eq_true rfl⟩ (Nat.le_of_ble_eq_true rfl) rfl rfl rfl rfl (Nat.le_of_ble_eq_true rfl) dL_setDue_5 rfl ?_
    refine wq_namS eS3 ?_
    refine wq_if_eq (tgt := 15) F dL_setDue_8 (by decide) rfl (fun hc => ?_) (fun hc => ?_)
    · replace h := wq_ift hc h
      refine wq_lconst (v := 0) F dL_setDue_15 rfl rfl ?_
      obtain ⟨t4, ht4, wt4, h⟩ := wq_ix_some h
      refine wq_last F (Nat.le_of_ble_eq_true rfl) rfl rfl ht4 wt4 (Or.inl ⟨Nat.le_add_right _ _, Nat.add_lt_add_left (Nat.le_of_ble_eq_true rfl) b⟩) dL_setDue_16 rfl ?_
      refine wq_goto (tgt := 24) F dL_setDue_17 (by decide) ?_
      refine wq_iconst (n := 0) F dL_setDue_24 rfl ?_
      cases h
      exact wq_iretx F rfl rfl rfl (Nat.le_of_ble_eq_true rfl) (Nat.le_of_ble_eq_true rfl) dL_setDue_25
    · replace h := wq_iff hc h
      refine wq_lconst (v := 1) F dL_setDue_11 rfl rfl ?_
      refine wq_goto (tgt := 16) F dL_setDue_12 (by decide) ?_
      obtain ⟨t5, ht5, wt5, h⟩ := wq_ix_some h
      refine wq_last F (Nat.le_of_ble_eq_true rfl) rfl rfl ht5 wt5 (Or.inl ⟨Nat.le_add_right _ _, Nat.add_lt_add_left (Nat.le_of_ble_eq_true rfl) b⟩) dL_setDue_16 rfl ?_
      refine wq_goto (tgt := 24) F dL_setDue_17 (by decide) ?_
      refine wq_iconst (n := 0) F dL_setDue_24 rfl ?_
      cases h
      exact wq_iretx F rfl rfl rfl (Nat.le_of_ble_eq_true rfl) (Nat.le_of_ble_eq_true rfl) dL_setDue_25
  · by_cases hn1 : n7 + 1 = 1
    · replace h := wq_ift hn1 h
      obtain rfl : n7 = 0 := by omega
      obtain ⟨S6, eS6, h⟩ := wq_lt_some h
      refine wq_callVc (As := [.int (wq_I x1), .int (wq_I x2)]) (b9 := 0) (mc := 1) (ms := 6) (n := 8) (k := 0) F K lk_L_80 (wq_Cx_emb (o := 0) (ct_X8_setDue hlt h1r1) (Nat.le_of_ble_eq_true rfl) wq_EL_c (wq_cls_at _)) ⟨(Nat.le_of_ble_eq_true rfl), (Nat.le_of_ble_eq_true rfl)⟩ ⟨Nat.le_of_ble_eq_true rfl, Nat.le_of_ble_eq_true rfl⟩ (Nat.le_of_ble_eq_true rfl) rfl rfl rfl rfl (Nat.le_of_ble_eq_true rfl) dL_setDue_5 (name := "java/lang/IndexOutOfBoundsException") rfl [] ⟨0, 17, 20, 21⟩ [] (htab.trans rfl) (fun _ h => absurd h List.not_mem_nil) (by decide) (by decide) aw_524 (List.mem_of_getElem? (i := 2) rfl) (fun q9 => ?_)
      refine wq_namS eS6 ?_
      refine wq_astore (L' := [some (.ref (b + 0)), some (.int (wq_I x1)), some (.int (wq_I x2)), some (.ref (b + 316)), some (.ref q9)]) F dL_setDue_20 (by decide) rfl rfl rfl ?_
      refine wq_iconst (n := 1) F dL_setDue_22 rfl ?_
      cases h
      exact wq_iretx F rfl rfl rfl (Nat.le_of_ble_eq_true rfl) (Nat.le_of_ble_eq_true rfl) dL_setDue_23
    · replace h := wq_iff hn1 h
      simp at h
set_option maxHeartbeats 4000000 in
set_option maxRecDepth 100000 in
theorem ct_L_isDue {l : Launch} (hlt : l.stackTraces = false) {D : va_G} {Ar : Nat → ClassId} {b : Nat} {x1 : Int} {S S0 : wq_St} {r0 : Int} (h : f_L_isDue x1 S = some (r0, S0)) : wq_Cw l yL_isDue (.codeWith yL_isDue cL_isDue 4 ((Option.some Jvm.ClassFile.FieldType.int)) [(0, 16, 19, 21)]) 9 1 6 D Ar (wq_EL Ar b) b 317 [.ref (b + 0), .int (wq_I x1), .ref (b + 316)] S (some (.int (wq_I r0))) S0 := by
  refine wq_startw "WharfQueryLaw" [some (.ref (b + 0)), some (.int (wq_I x1)), some (.ref (b + 316)), none] (by decide +kernel) rfl (Nat.le_of_ble_eq_true rfl) rfl ?_
  intro p e s m args below meth c F K Kn htab
  unfold f_L_isDue at h
  refine wq_aload_n F dL_isDue_0 rfl rfl rfl ?_
  refine wq_iconst (n := 0) F dL_isDue_1 rfl ?_
  refine wq_aload_n F dL_isDue_2 rfl rfl rfl ?_
  refine wq_iload_n F dL_isDue_3 rfl rfl rfl ?_
  rcases wq_bh_some h with ⟨r1, S2, h1r1, h⟩ | ⟨n7, r1, S2, h1r1, h⟩
  · obtain ⟨S3, eS3, h⟩ := wq_lt_some h
    refine wq_callVn (As := [.int (wq_I x1)]) (b9 := 0) (mc := 1) (ms := 6) (n := 8) F K lk_L_84 (wq_Cx_emb (o := 0) (ct_X8_isDue hlt h1r1) (Nat.le_of_ble_eq_true rfl) wq_EL_c (wq_cls_at _)) ⟨(Nat.le_of_ble_eq_true rfl), (Nat.le_of_ble_eq_true rfl)⟩ ⟨Nat.le_of_ble_eq_true rfl, Nat.le_of_ble_eq_true rfl⟩ (Nat.le_of_ble_eq_true rfl) rfl rfl rfl rfl (Nat.le_of_ble_eq_true rfl) dL_isDue_4 rfl ?_
    refine wq_namS eS3 ?_
    refine wq_if_eq (tgt := 14) F dL_isDue_7 (by decide) rfl (fun hc => ?_) (fun hc => ?_)
    · replace h := wq_ift hc h
      refine wq_lconst (v := 0) F dL_isDue_14 rfl rfl ?_
      obtain ⟨t4, ht4, wt4, h⟩ := wq_ix_some h
      refine wq_last F (Nat.le_of_ble_eq_true rfl) rfl rfl ht4 wt4 (Or.inl ⟨Nat.le_add_right _ _, Nat.add_lt_add_left (Nat.le_of_ble_eq_true rfl) b⟩) dL_isDue_15 rfl ?_
      refine wq_goto (tgt := 22) F dL_isDue_16 (by decide) ?_
      refine wq_iconst (n := 0) F dL_isDue_22 rfl ?_
      cases h
      exact wq_iretx F rfl rfl rfl (Nat.le_of_ble_eq_true rfl) (Nat.le_of_ble_eq_true rfl) dL_isDue_23
    · replace h := wq_iff hc h
      refine wq_lconst (v := 1) F dL_isDue_10 rfl rfl ?_
      refine wq_goto (tgt := 15) F dL_isDue_11 (by decide) ?_
      obtain ⟨t5, ht5, wt5, h⟩ := wq_ix_some h
      refine wq_last F (Nat.le_of_ble_eq_true rfl) rfl rfl ht5 wt5 (Or.inl ⟨Nat.le_add_right _ _, Nat.add_lt_add_left (Nat.le_of_ble_eq_true rfl) b⟩) dL_isDue_15 rfl ?_
      refine wq_goto (tgt := 22) F dL_isDue_16 (by decide) ?_
      refine wq_iconst (n := 0) F dL_isDue_22 rfl ?_
      cases h
      exact wq_iretx F rfl rfl rfl (Nat.le_of_ble_eq_true rfl) (Nat.le_of_ble_eq_true rfl) dL_isDue_23
  · by_cases hn1 : n7 + 1 = 1
    · replace h := wq_ift hn1 h
      obtain rfl : n7 = 0 := by omega
      obtain ⟨S6, eS6, h⟩ := wq_lt_some h
      refine wq_callVc (As := [.int (wq_I x1)]) (b9 := 0) (mc := 1) (ms := 6) (n := 8) (k := 0) F K lk_L_84 (wq_Cx_emb (o := 0) (ct_X8_isDue hlt h1r1) (Nat.le_of_ble_eq_true rfl) wq_EL_c (wq_cls_at _)) ⟨(Nat.le_of_ble_eq_true rfl), (Nat.le_of_ble_eq_true rfl)⟩ ⟨Nat.le_of_ble_eq_true rfl, Nat.le_of_ble_eq_true rfl⟩ (Nat.le_of_ble_eq_true rfl) rfl rfl rfl rfl (Nat.le_of_ble_eq_true rfl) dL_isDue_4 (name := "java/lang/IndexOutOfBoundsException") rfl [] ⟨0, 16, 19, 21⟩ [] (htab.trans rfl) (fun _ h => absurd h List.not_mem_nil) (by decide) (by decide) aw_524 (List.mem_of_getElem? (i := 2) rfl) (fun q9 => ?_)
      refine wq_namS eS6 ?_
      refine wq_astore_n (L' := [some (.ref (b + 0)), some (.int (wq_I x1)), some (.ref (b + 316)), some (.ref q9)]) F dL_isDue_19 rfl (by decide) rfl rfl rfl ?_
      refine wq_iconst (n := 1) F dL_isDue_20 rfl ?_
      cases h
      exact wq_iretx F rfl rfl rfl (Nat.le_of_ble_eq_true rfl) (Nat.le_of_ble_eq_true rfl) dL_isDue_21
    · replace h := wq_iff hn1 h
      simp at h
set_option maxHeartbeats 4000000 in
set_option maxRecDepth 100000 in
theorem ct_L_planSource {l : Launch} (hlt : l.stackTraces = false) {D : va_G} {Ar : Nat → ClassId} {b : Nat} {x1 : Int} {x2 : Int} {S S0 : wq_St} {r0 : Int} (h : f_L_planSource x1 x2 S = some (r0, S0)) : wq_Cw l yL_planSource (.codeWith yL_planSource cL_planSource 5 ((Option.some Jvm.ClassFile.FieldType.int)) [(0, 10, 13, 21)]) 14 2 12 D Ar (wq_EL Ar b) b 317 [.ref (b + 0), .int (wq_I x1), .int (wq_I x2), .ref (b + 316)] S (some (.int (wq_I r0))) S0 := by
  refine wq_startw "WharfQueryLaw" [some (.ref (b + 0)), some (.int (wq_I x1)), some (.int (wq_I x2)), some (.ref (b + 316)), none] (by decide +kernel) rfl (Nat.le_of_ble_eq_true rfl) rfl ?_
  intro p e s m args below meth c F K Kn htab
  unfold f_L_planSource at h
  refine wq_aload_n F dL_planSource_0 rfl rfl rfl ?_
  refine wq_iconst (n := 0) F dL_planSource_1 rfl ?_
  refine wq_aload_n F dL_planSource_2 rfl rfl rfl ?_
  refine wq_iload_n F dL_planSource_3 rfl rfl rfl ?_
  refine wq_iload_n F dL_planSource_4 rfl rfl rfl ?_
  rcases wq_bh_some h with ⟨r1, S2, h1r1, h⟩ | ⟨n6, r1, S2, h1r1, h⟩
  · obtain ⟨S3, eS3, h⟩ := wq_lt_some h
    refine wq_callVn (As := [.int (wq_I x1), .int (wq_I x2)]) (b9 := 0) (mc := 2) (ms := 12) (n := 13) F K lk_L_87 (wq_Cx_emb (o := 0) (ct_X8_planSource hlt h1r1) (Nat.le_of_ble_eq_true rfl) wq_EL_c (wq_cls_at _)) ⟨(Nat.le_of_ble_eq_true rfl), (Nat.le_of_ble_eq_true rfl)⟩ ⟨Nat.le_of_ble_eq_true rfl, Nat.le_of_ble_eq_true rfl⟩ (Nat.le_of_ble_eq_true rfl) rfl rfl rfl rfl (Nat.le_of_ble_eq_true rfl) dL_planSource_5 rfl ?_
    refine wq_namS eS3 ?_
    refine wq_i2l_ F dL_planSource_8 rfl ?_
    obtain ⟨t4, ht4, wt4, h⟩ := wq_ix_some h
    refine wq_last F (Nat.le_of_ble_eq_true rfl) rfl rfl ht4 wt4 (Or.inl ⟨Nat.le_add_right _ _, Nat.add_lt_add_left (Nat.le_of_ble_eq_true rfl) b⟩) dL_planSource_9 rfl ?_
    refine wq_goto (tgt := 17) F dL_planSource_10 (by decide) ?_
    refine wq_iconst (n := 0) F dL_planSource_17 rfl ?_
    cases h
    exact wq_iretx F rfl rfl rfl (Nat.le_of_ble_eq_true rfl) (Nat.le_of_ble_eq_true rfl) dL_planSource_18
  · by_cases hn1 : n6 + 1 = 1
    · replace h := wq_ift hn1 h
      obtain rfl : n6 = 0 := by omega
      obtain ⟨S5, eS5, h⟩ := wq_lt_some h
      refine wq_callVc (As := [.int (wq_I x1), .int (wq_I x2)]) (b9 := 0) (mc := 2) (ms := 12) (n := 13) (k := 0) F K lk_L_87 (wq_Cx_emb (o := 0) (ct_X8_planSource hlt h1r1) (Nat.le_of_ble_eq_true rfl) wq_EL_c (wq_cls_at _)) ⟨(Nat.le_of_ble_eq_true rfl), (Nat.le_of_ble_eq_true rfl)⟩ ⟨Nat.le_of_ble_eq_true rfl, Nat.le_of_ble_eq_true rfl⟩ (Nat.le_of_ble_eq_true rfl) rfl rfl rfl rfl (Nat.le_of_ble_eq_true rfl) dL_planSource_5 (name := "java/lang/IndexOutOfBoundsException") rfl [] ⟨0, 10, 13, 21⟩ [] (htab.trans rfl) (fun _ h => absurd h List.not_mem_nil) (by decide) (by decide) aw_524 (List.mem_of_getElem? (i := 2) rfl) (fun q9 => ?_)
      refine wq_namS eS5 ?_
      refine wq_astore (L' := [some (.ref (b + 0)), some (.int (wq_I x1)), some (.int (wq_I x2)), some (.ref (b + 316)), some (.ref q9)]) F dL_planSource_13 (by decide) rfl rfl rfl ?_
      refine wq_iconst (n := 1) F dL_planSource_15 rfl ?_
      cases h
      exact wq_iretx F rfl rfl rfl (Nat.le_of_ble_eq_true rfl) (Nat.le_of_ble_eq_true rfl) dL_planSource_16
    · replace h := wq_iff hn1 h
      simp at h
set_option maxHeartbeats 4000000 in
set_option maxRecDepth 100000 in
theorem ct_L_planWay {l : Launch} (hlt : l.stackTraces = false) {D : va_G} {Ar : Nat → ClassId} {b : Nat} {x1 : Int} {x2 : Int} {S S0 : wq_St} {r0 : Int} (h : f_L_planWay x1 x2 S = some (r0, S0)) : wq_Cw l yL_planWay (.codeWith yL_planWay cL_planWay 5 ((Option.some Jvm.ClassFile.FieldType.int)) [(0, 10, 13, 21)]) 14 2 12 D Ar (wq_EL Ar b) b 317 [.ref (b + 0), .int (wq_I x1), .int (wq_I x2), .ref (b + 316)] S (some (.int (wq_I r0))) S0 := by
  refine wq_startw "WharfQueryLaw" [some (.ref (b + 0)), some (.int (wq_I x1)), some (.int (wq_I x2)), some (.ref (b + 316)), none] (by decide +kernel) rfl (Nat.le_of_ble_eq_true rfl) rfl ?_
  intro p e s m args below meth c F K Kn htab
  unfold f_L_planWay at h
  refine wq_aload_n F dL_planWay_0 rfl rfl rfl ?_
  refine wq_iconst (n := 0) F dL_planWay_1 rfl ?_
  refine wq_aload_n F dL_planWay_2 rfl rfl rfl ?_
  refine wq_iload_n F dL_planWay_3 rfl rfl rfl ?_
  refine wq_iload_n F dL_planWay_4 rfl rfl rfl ?_
  rcases wq_bh_some h with ⟨r1, S2, h1r1, h⟩ | ⟨n6, r1, S2, h1r1, h⟩
  · obtain ⟨S3, eS3, h⟩ := wq_lt_some h
    refine wq_callVn (As := [.int (wq_I x1), .int (wq_I x2)]) (b9 := 0) (mc := 2) (ms := 12) (n := 13) F K lk_L_90 (wq_Cx_emb (o := 0) (ct_X8_planWay hlt h1r1) (Nat.le_of_ble_eq_true rfl) wq_EL_c (wq_cls_at _)) ⟨(Nat.le_of_ble_eq_true rfl), (Nat.le_of_ble_eq_true rfl)⟩ ⟨Nat.le_of_ble_eq_true rfl, Nat.le_of_ble_eq_true rfl⟩ (Nat.le_of_ble_eq_true rfl) rfl rfl rfl rfl (Nat.le_of_ble_eq_true rfl) dL_planWay_5 rfl ?_
    refine wq_namS eS3 ?_
    refine wq_i2l_ F dL_planWay_8 rfl ?_
    obtain ⟨t4, ht4, wt4, h⟩ := wq_ix_some h
    refine wq_last F (Nat.le_of_ble_eq_true rfl) rfl rfl ht4 wt4 (Or.inl ⟨Nat.le_add_right _ _, Nat.add_lt_add_left (Nat.le_of_ble_eq_true rfl) b⟩) dL_planWay_9 rfl ?_
    refine wq_goto (tgt := 17) F dL_planWay_10 (by decide) ?_
    refine wq_iconst (n := 0) F dL_planWay_17 rfl ?_
    cases h
    exact wq_iretx F rfl rfl rfl (Nat.le_of_ble_eq_true rfl) (Nat.le_of_ble_eq_true rfl) dL_planWay_18
  · by_cases hn1 : n6 + 1 = 1
    · replace h := wq_ift hn1 h
      obtain rfl : n6 = 0 := by omega
      obtain ⟨S5, eS5, h⟩ := wq_lt_some h
      refine wq_callVc (As := [.int (wq_I x1), .int (wq_I x2)]) (b9 := 0) (mc := 2) (ms := 12) (n := 13) (k := 0) F K lk_L_90 (wq_Cx_emb (o := 0) (ct_X8_planWay hlt h1r1) (Nat.le_of_ble_eq_true rfl) wq_EL_c (wq_cls_at _)) ⟨(Nat.le_of_ble_eq_true rfl), (Nat.le_of_ble_eq_true rfl)⟩ ⟨Nat.le_of_ble_eq_true rfl, Nat.le_of_ble_eq_true rfl⟩ (Nat.le_of_ble_eq_true rfl) rfl rfl rfl rfl (Nat.le_of_ble_eq_true rfl) dL_planWay_5 (name := "java/lang/IndexOutOfBoundsException") rfl [] ⟨0, 10, 13, 21⟩ [] (htab.trans rfl) (fun _ h => absurd h List.not_mem_nil) (by decide) (by decide) aw_524 (List.mem_of_getElem? (i := 2) rfl) (fun q9 => ?_)
      refine wq_namS eS5 ?_
      refine wq_astore (L' := [some (.ref (b + 0)), some (.int (wq_I x1)), some (.int (wq_I x2)), some (.ref (b + 316)), some (.ref q9)]) F dL_planWay_13 (by decide) rfl rfl rfl ?_
      refine wq_iconst (n := 1) F dL_planWay_15 rfl ?_
      cases h
      exact wq_iretx F rfl rfl rfl (Nat.le_of_ble_eq_true rfl) (Nat.le_of_ble_eq_true rfl) dL_planWay_16
    · replace h := wq_iff hn1 h
      simp at h
set_option maxHeartbeats 4000000 in
set_option maxRecDepth 100000 in
theorem ct_L_foretold {l : Launch} (hlt : l.stackTraces = false) {D : va_G} {Ar : Nat → ClassId} {b : Nat} {x1 : Int} {S S0 : wq_St} {r0 : Int} (h : f_L_foretold x1 S = some (r0, S0)) : wq_Cw l yL_foretold (.codeWith yL_foretold cL_foretold 4 ((Option.some Jvm.ClassFile.FieldType.int)) [(0, 9, 12, 21)]) 14 1 6 D Ar (wq_EL Ar b) b 317 [.ref (b + 0), .int (wq_I x1), .ref (b + 316)] S (some (.int (wq_I r0))) S0 := by
  refine wq_startw "WharfQueryLaw" [some (.ref (b + 0)), some (.int (wq_I x1)), some (.ref (b + 316)), none] (by decide +kernel) rfl (Nat.le_of_ble_eq_true rfl) rfl ?_
  intro p e s m args below meth c F K Kn htab
  unfold f_L_foretold at h
  refine wq_aload_n F dL_foretold_0 rfl rfl rfl ?_
  refine wq_iconst (n := 0) F dL_foretold_1 rfl ?_
  refine wq_aload_n F dL_foretold_2 rfl rfl rfl ?_
  refine wq_iload_n F dL_foretold_3 rfl rfl rfl ?_
  rcases wq_bh_some h with ⟨r1, S2, h1r1, h⟩ | ⟨n6, r1, S2, h1r1, h⟩
  · obtain ⟨S3, eS3, h⟩ := wq_lt_some h
    refine wq_callVn (As := [.int (wq_I x1)]) (b9 := 0) (mc := 1) (ms := 6) (n := 13) F K lk_L_93 (wq_Cx_emb (o := 0) (ct_X8_foretold hlt h1r1) (Nat.le_of_ble_eq_true rfl) wq_EL_c (wq_cls_at _)) ⟨(Nat.le_of_ble_eq_true rfl), (Nat.le_of_ble_eq_true rfl)⟩ ⟨Nat.le_of_ble_eq_true rfl, Nat.le_of_ble_eq_true rfl⟩ (Nat.le_of_ble_eq_true rfl) rfl rfl rfl rfl (Nat.le_of_ble_eq_true rfl) dL_foretold_4 rfl ?_
    refine wq_namS eS3 ?_
    refine wq_i2l_ F dL_foretold_7 rfl ?_
    obtain ⟨t4, ht4, wt4, h⟩ := wq_ix_some h
    refine wq_last F (Nat.le_of_ble_eq_true rfl) rfl rfl ht4 wt4 (Or.inl ⟨Nat.le_add_right _ _, Nat.add_lt_add_left (Nat.le_of_ble_eq_true rfl) b⟩) dL_foretold_8 rfl ?_
    refine wq_goto (tgt := 15) F dL_foretold_9 (by decide) ?_
    refine wq_iconst (n := 0) F dL_foretold_15 rfl ?_
    cases h
    exact wq_iretx F rfl rfl rfl (Nat.le_of_ble_eq_true rfl) (Nat.le_of_ble_eq_true rfl) dL_foretold_16
  · by_cases hn1 : n6 + 1 = 1
    · replace h := wq_ift hn1 h
      obtain rfl : n6 = 0 := by omega
      obtain ⟨S5, eS5, h⟩ := wq_lt_some h
      refine wq_callVc (As := [.int (wq_I x1)]) (b9 := 0) (mc := 1) (ms := 6) (n := 13) (k := 0) F K lk_L_93 (wq_Cx_emb (o := 0) (ct_X8_foretold hlt h1r1) (Nat.le_of_ble_eq_true rfl) wq_EL_c (wq_cls_at _)) ⟨(Nat.le_of_ble_eq_true rfl), (Nat.le_of_ble_eq_true rfl)⟩ ⟨Nat.le_of_ble_eq_true rfl, Nat.le_of_ble_eq_true rfl⟩ (Nat.le_of_ble_eq_true rfl) rfl rfl rfl rfl (Nat.le_of_ble_eq_true rfl) dL_foretold_4 (name := "java/lang/IndexOutOfBoundsException") rfl [] ⟨0, 9, 12, 21⟩ [] (htab.trans rfl) (fun _ h => absurd h List.not_mem_nil) (by decide) (by decide) aw_524 (List.mem_of_getElem? (i := 2) rfl) (fun q9 => ?_)
      refine wq_namS eS5 ?_
      refine wq_astore_n (L' := [some (.ref (b + 0)), some (.int (wq_I x1)), some (.ref (b + 316)), some (.ref q9)]) F dL_foretold_12 rfl (by decide) rfl rfl rfl ?_
      refine wq_iconst (n := 1) F dL_foretold_13 rfl ?_
      cases h
      exact wq_iretx F rfl rfl rfl (Nat.le_of_ble_eq_true rfl) (Nat.le_of_ble_eq_true rfl) dL_foretold_14
    · replace h := wq_iff hn1 h
      simp at h
set_option maxHeartbeats 4000000 in
set_option maxRecDepth 100000 in
theorem ct_L_minutes {l : Launch} (hlt : l.stackTraces = false) {D : va_G} {Ar : Nat → ClassId} {b : Nat} {x1 : Int} {S S0 : wq_St} {r0 : Int} (h : f_L_minutes x1 S = some (r0, S0)) : wq_Cw l yL_minutes (.codeWith yL_minutes cL_minutes 4 ((Option.some Jvm.ClassFile.FieldType.int)) [(0, 9, 12, 21)]) 15 1 6 D Ar (wq_EL Ar b) b 317 [.ref (b + 0), .int (wq_I x1), .ref (b + 316)] S (some (.int (wq_I r0))) S0 := by
  refine wq_startw "WharfQueryLaw" [some (.ref (b + 0)), some (.int (wq_I x1)), some (.ref (b + 316)), none] (by decide +kernel) rfl (Nat.le_of_ble_eq_true rfl) rfl ?_
  intro p e s m args below meth c F K Kn htab
  unfold f_L_minutes at h
  refine wq_aload_n F dL_minutes_0 rfl rfl rfl ?_
  refine wq_iconst (n := 0) F dL_minutes_1 rfl ?_
  refine wq_aload_n F dL_minutes_2 rfl rfl rfl ?_
  refine wq_iload_n F dL_minutes_3 rfl rfl rfl ?_
  rcases wq_bh_some h with ⟨r1, S2, h1r1, h⟩ | ⟨n6, r1, S2, h1r1, h⟩
  · obtain ⟨S3, eS3, h⟩ := wq_lt_some h
    refine wq_callVn (As := [.int (wq_I x1)]) (b9 := 0) (mc := 1) (ms := 6) (n := 14) F K lk_L_96 (wq_Cx_emb (o := 0) (ct_X8_minutes hlt h1r1) (Nat.le_of_ble_eq_true rfl) wq_EL_c (wq_cls_at _)) ⟨(Nat.le_of_ble_eq_true rfl), (Nat.le_of_ble_eq_true rfl)⟩ ⟨Nat.le_of_ble_eq_true rfl, Nat.le_of_ble_eq_true rfl⟩ (Nat.le_of_ble_eq_true rfl) rfl rfl rfl rfl (Nat.le_of_ble_eq_true rfl) dL_minutes_4 rfl ?_
    refine wq_namS eS3 ?_
    refine wq_i2l_ F dL_minutes_7 rfl ?_
    obtain ⟨t4, ht4, wt4, h⟩ := wq_ix_some h
    refine wq_last F (Nat.le_of_ble_eq_true rfl) rfl rfl ht4 wt4 (Or.inl ⟨Nat.le_add_right _ _, Nat.add_lt_add_left (Nat.le_of_ble_eq_true rfl) b⟩) dL_minutes_8 rfl ?_
    refine wq_goto (tgt := 15) F dL_minutes_9 (by decide) ?_
    refine wq_iconst (n := 0) F dL_minutes_15 rfl ?_
    cases h
    exact wq_iretx F rfl rfl rfl (Nat.le_of_ble_eq_true rfl) (Nat.le_of_ble_eq_true rfl) dL_minutes_16
  · by_cases hn1 : n6 + 1 = 1
    · replace h := wq_ift hn1 h
      obtain rfl : n6 = 0 := by omega
      obtain ⟨S5, eS5, h⟩ := wq_lt_some h
      refine wq_callVc (As := [.int (wq_I x1)]) (b9 := 0) (mc := 1) (ms := 6) (n := 14) (k := 0) F K lk_L_96 (wq_Cx_emb (o := 0) (ct_X8_minutes hlt h1r1) (Nat.le_of_ble_eq_true rfl) wq_EL_c (wq_cls_at _)) ⟨(Nat.le_of_ble_eq_true rfl), (Nat.le_of_ble_eq_true rfl)⟩ ⟨Nat.le_of_ble_eq_true rfl, Nat.le_of_ble_eq_true rfl⟩ (Nat.le_of_ble_eq_true rfl) rfl rfl rfl rfl (Nat.le_of_ble_eq_true rfl) dL_minutes_4 (name := "java/lang/IndexOutOfBoundsException") rfl [] ⟨0, 9, 12, 21⟩ [] (htab.trans rfl) (fun _ h => absurd h List.not_mem_nil) (by decide) (by decide) aw_524 (List.mem_of_getElem? (i := 2) rfl) (fun q9 => ?_)
      refine wq_namS eS5 ?_
      refine wq_astore_n (L' := [some (.ref (b + 0)), some (.int (wq_I x1)), some (.ref (b + 316)), some (.ref q9)]) F dL_minutes_12 rfl (by decide) rfl rfl rfl ?_
      refine wq_iconst (n := 1) F dL_minutes_13 rfl ?_
      cases h
      exact wq_iretx F rfl rfl rfl (Nat.le_of_ble_eq_true rfl) (Nat.le_of_ble_eq_true rfl) dL_minutes_14
    · replace h := wq_iff hn1 h
      simp at h
set_option maxHeartbeats 4000000 in
set_option maxRecDepth 100000 in
theorem ct_L_answer {l : Launch} (hlt : l.stackTraces = false) {D : va_G} {Ar : Nat → ClassId} {b : Nat} {x1 : Int} {S S0 : wq_St} {r0 : Int} (h : f_L_answer x1 S = some (r0, S0)) : wq_Cw l yL_answer (.codeWith yL_answer cL_answer 4 ((Option.some Jvm.ClassFile.FieldType.int)) [(0, 9, 12, 21)]) 15 1 6 D Ar (wq_EL Ar b) b 317 [.ref (b + 0), .int (wq_I x1), .ref (b + 316)] S (some (.int (wq_I r0))) S0 := by
  refine wq_startw "WharfQueryLaw" [some (.ref (b + 0)), some (.int (wq_I x1)), some (.ref (b + 316)), none] (by decide +kernel) rfl (Nat.le_of_ble_eq_true rfl) rfl ?_
  intro p e s m args below meth c F K Kn htab
  unfold f_L_answer at h
  refine wq_aload_n F dL_answer_0 rfl rfl rfl ?_
  refine wq_iconst (n := 0) F dL_answer_1 rfl ?_
  refine wq_aload_n F dL_answer_2 rfl rfl rfl ?_
  refine wq_iload_n F dL_answer_3 rfl rfl rfl ?_
  rcases wq_bh_some h with ⟨r1, S2, h1r1, h⟩ | ⟨n6, r1, S2, h1r1, h⟩
  · obtain ⟨S3, eS3, h⟩ := wq_lt_some h
    refine wq_callVn (As := [.int (wq_I x1)]) (b9 := 0) (mc := 1) (ms := 6) (n := 14) F K lk_L_99 (wq_Cx_emb (o := 0) (ct_X8_answer hlt h1r1) (Nat.le_of_ble_eq_true rfl) wq_EL_c (wq_cls_at _)) ⟨(Nat.le_of_ble_eq_true rfl), (Nat.le_of_ble_eq_true rfl)⟩ ⟨Nat.le_of_ble_eq_true rfl, Nat.le_of_ble_eq_true rfl⟩ (Nat.le_of_ble_eq_true rfl) rfl rfl rfl rfl (Nat.le_of_ble_eq_true rfl) dL_answer_4 rfl ?_
    refine wq_namS eS3 ?_
    refine wq_i2l_ F dL_answer_7 rfl ?_
    obtain ⟨t4, ht4, wt4, h⟩ := wq_ix_some h
    refine wq_last F (Nat.le_of_ble_eq_true rfl) rfl rfl ht4 wt4 (Or.inl ⟨Nat.le_add_right _ _, Nat.add_lt_add_left (Nat.le_of_ble_eq_true rfl) b⟩) dL_answer_8 rfl ?_
    refine wq_goto (tgt := 15) F dL_answer_9 (by decide) ?_
    refine wq_iconst (n := 0) F dL_answer_15 rfl ?_
    cases h
    exact wq_iretx F rfl rfl rfl (Nat.le_of_ble_eq_true rfl) (Nat.le_of_ble_eq_true rfl) dL_answer_16
  · by_cases hn1 : n6 + 1 = 1
    · replace h := wq_ift hn1 h
      obtain rfl : n6 = 0 := by omega
      obtain ⟨S5, eS5, h⟩ := wq_lt_some h
      refine wq_callVc (As := [.int (wq_I x1)]) (b9 := 0) (mc := 1) (ms := 6) (n := 14) (k := 0) F K lk_L_99 (wq_Cx_emb (o := 0) (ct_X8_answer hlt h1r1) (Nat.le_of_ble_eq_true rfl) wq_EL_c (wq_cls_at _)) ⟨(Nat.le_of_ble_eq_true rfl), (Nat.le_of_ble_eq_true rfl)⟩ ⟨Nat.le_of_ble_eq_true rfl, Nat.le_of_ble_eq_true rfl⟩ (Nat.le_of_ble_eq_true rfl) rfl rfl rfl rfl (Nat.le_of_ble_eq_true rfl) dL_answer_4 (name := "java/lang/IndexOutOfBoundsException") rfl [] ⟨0, 9, 12, 21⟩ [] (htab.trans rfl) (fun _ h => absurd h List.not_mem_nil) (by decide) (by decide) aw_524 (List.mem_of_getElem? (i := 2) rfl) (fun q9 => ?_)
      refine wq_namS eS5 ?_
      refine wq_astore_n (L' := [some (.ref (b + 0)), some (.int (wq_I x1)), some (.ref (b + 316)), some (.ref q9)]) F dL_answer_12 rfl (by decide) rfl rfl rfl ?_
      refine wq_iconst (n := 1) F dL_answer_13 rfl ?_
      cases h
      exact wq_iretx F rfl rfl rfl (Nat.le_of_ble_eq_true rfl) (Nat.le_of_ble_eq_true rfl) dL_answer_14
    · replace h := wq_iff hn1 h
      simp at h
set_option maxHeartbeats 4000000 in
set_option maxRecDepth 100000 in
theorem ct_L_sum {l : Launch} (hlt : l.stackTraces = false) {D : va_G} {Ar : Nat → ClassId} {b : Nat} {x1 : Int} {S S0 : wq_St} {r0 : Int} (h : f_L_sum x1 S = some (r0, S0)) : wq_Cw l yL_sum (.codeWith yL_sum cL_sum 4 ((Option.some Jvm.ClassFile.FieldType.int)) [(0, 9, 12, 21)]) 15 1 6 D Ar (wq_EL Ar b) b 317 [.ref (b + 0), .int (wq_I x1), .ref (b + 316)] S (some (.int (wq_I r0))) S0 := by
  refine wq_startw "WharfQueryLaw" [some (.ref (b + 0)), some (.int (wq_I x1)), some (.ref (b + 316)), none] (by decide +kernel) rfl (Nat.le_of_ble_eq_true rfl) rfl ?_
  intro p e s m args below meth c F K Kn htab
  unfold f_L_sum at h
  refine wq_aload_n F dL_sum_0 rfl rfl rfl ?_
  refine wq_iconst (n := 0) F dL_sum_1 rfl ?_
  refine wq_aload_n F dL_sum_2 rfl rfl rfl ?_
  refine wq_iload_n F dL_sum_3 rfl rfl rfl ?_
  rcases wq_bh_some h with ⟨r1, S2, h1r1, h⟩ | ⟨n6, r1, S2, h1r1, h⟩
  · obtain ⟨S3, eS3, h⟩ := wq_lt_some h
    refine wq_callVn (As := [.int (wq_I x1)]) (b9 := 0) (mc := 1) (ms := 6) (n := 14) F K lk_L_102 (wq_Cx_emb (o := 0) (ct_X8_sum hlt h1r1) (Nat.le_of_ble_eq_true rfl) wq_EL_c (wq_cls_at _)) ⟨(Nat.le_of_ble_eq_true rfl), (Nat.le_of_ble_eq_true rfl)⟩ ⟨Nat.le_of_ble_eq_true rfl, Nat.le_of_ble_eq_true rfl⟩ (Nat.le_of_ble_eq_true rfl) rfl rfl rfl rfl (Nat.le_of_ble_eq_true rfl) dL_sum_4 rfl ?_
    refine wq_namS eS3 ?_
    refine wq_i2l_ F dL_sum_7 rfl ?_
    obtain ⟨t4, ht4, wt4, h⟩ := wq_ix_some h
    refine wq_last F (Nat.le_of_ble_eq_true rfl) rfl rfl ht4 wt4 (Or.inl ⟨Nat.le_add_right _ _, Nat.add_lt_add_left (Nat.le_of_ble_eq_true rfl) b⟩) dL_sum_8 rfl ?_
    refine wq_goto (tgt := 15) F dL_sum_9 (by decide) ?_
    refine wq_iconst (n := 0) F dL_sum_15 rfl ?_
    cases h
    exact wq_iretx F rfl rfl rfl (Nat.le_of_ble_eq_true rfl) (Nat.le_of_ble_eq_true rfl) dL_sum_16
  · by_cases hn1 : n6 + 1 = 1
    · replace h := wq_ift hn1 h
      obtain rfl : n6 = 0 := by omega
      obtain ⟨S5, eS5, h⟩ := wq_lt_some h
      refine wq_callVc (As := [.int (wq_I x1)]) (b9 := 0) (mc := 1) (ms := 6) (n := 14) (k := 0) F K lk_L_102 (wq_Cx_emb (o := 0) (ct_X8_sum hlt h1r1) (Nat.le_of_ble_eq_true rfl) wq_EL_c (wq_cls_at _)) ⟨(Nat.le_of_ble_eq_true rfl), (Nat.le_of_ble_eq_true rfl)⟩ ⟨Nat.le_of_ble_eq_true rfl, Nat.le_of_ble_eq_true rfl⟩ (Nat.le_of_ble_eq_true rfl) rfl rfl rfl rfl (Nat.le_of_ble_eq_true rfl) dL_sum_4 (name := "java/lang/IndexOutOfBoundsException") rfl [] ⟨0, 9, 12, 21⟩ [] (htab.trans rfl) (fun _ h => absurd h List.not_mem_nil) (by decide) (by decide) aw_524 (List.mem_of_getElem? (i := 2) rfl) (fun q9 => ?_)
      refine wq_namS eS5 ?_
      refine wq_astore_n (L' := [some (.ref (b + 0)), some (.int (wq_I x1)), some (.ref (b + 316)), some (.ref q9)]) F dL_sum_12 rfl (by decide) rfl rfl rfl ?_
      refine wq_iconst (n := 1) F dL_sum_13 rfl ?_
      cases h
      exact wq_iretx F rfl rfl rfl (Nat.le_of_ble_eq_true rfl) (Nat.le_of_ble_eq_true rfl) dL_sum_14
    · replace h := wq_iff hn1 h
      simp at h
set_option maxHeartbeats 4000000 in
set_option maxRecDepth 100000 in
theorem ct_L_plainAnswer {l : Launch} (hlt : l.stackTraces = false) {D : va_G} {Ar : Nat → ClassId} {b : Nat} {x1 : Int} {S S0 : wq_St} {r0 : Int} (h : f_L_plainAnswer x1 S = some (r0, S0)) : wq_Cw l yL_plainAnswer (.codeWith yL_plainAnswer cL_plainAnswer 4 ((Option.some Jvm.ClassFile.FieldType.int)) [(0, 9, 12, 21)]) 15 1 6 D Ar (wq_EL Ar b) b 317 [.ref (b + 0), .int (wq_I x1), .ref (b + 316)] S (some (.int (wq_I r0))) S0 := by
  refine wq_startw "WharfQueryLaw" [some (.ref (b + 0)), some (.int (wq_I x1)), some (.ref (b + 316)), none] (by decide +kernel) rfl (Nat.le_of_ble_eq_true rfl) rfl ?_
  intro p e s m args below meth c F K Kn htab
  unfold f_L_plainAnswer at h
  refine wq_aload_n F dL_plainAnswer_0 rfl rfl rfl ?_
  refine wq_iconst (n := 0) F dL_plainAnswer_1 rfl ?_
  refine wq_aload_n F dL_plainAnswer_2 rfl rfl rfl ?_
  refine wq_iload_n F dL_plainAnswer_3 rfl rfl rfl ?_
  rcases wq_bh_some h with ⟨r1, S2, h1r1, h⟩ | ⟨n6, r1, S2, h1r1, h⟩
  · obtain ⟨S3, eS3, h⟩ := wq_lt_some h
    refine wq_callVn (As := [.int (wq_I x1)]) (b9 := 0) (mc := 1) (ms := 6) (n := 14) F K lk_L_105 (wq_Cx_emb (o := 0) (ct_X8_plainAnswer hlt h1r1) (Nat.le_of_ble_eq_true rfl) wq_EL_c (wq_cls_at _)) ⟨(Nat.le_of_ble_eq_true rfl), (Nat.le_of_ble_eq_true rfl)⟩ ⟨Nat.le_of_ble_eq_true rfl, Nat.le_of_ble_eq_true rfl⟩ (Nat.le_of_ble_eq_true rfl) rfl rfl rfl rfl (Nat.le_of_ble_eq_true rfl) dL_plainAnswer_4 rfl ?_
    refine wq_namS eS3 ?_
    refine wq_i2l_ F dL_plainAnswer_7 rfl ?_
    obtain ⟨t4, ht4, wt4, h⟩ := wq_ix_some h
    refine wq_last F (Nat.le_of_ble_eq_true rfl) rfl rfl ht4 wt4 (Or.inl ⟨Nat.le_add_right _ _, Nat.add_lt_add_left (Nat.le_of_ble_eq_true rfl) b⟩) dL_plainAnswer_8 rfl ?_
    refine wq_goto (tgt := 15) F dL_plainAnswer_9 (by decide) ?_
    refine wq_iconst (n := 0) F dL_plainAnswer_15 rfl ?_
    cases h
    exact wq_iretx F rfl rfl rfl (Nat.le_of_ble_eq_true rfl) (Nat.le_of_ble_eq_true rfl) dL_plainAnswer_16
  · by_cases hn1 : n6 + 1 = 1
    · replace h := wq_ift hn1 h
      obtain rfl : n6 = 0 := by omega
      obtain ⟨S5, eS5, h⟩ := wq_lt_some h
      refine wq_callVc (As := [.int (wq_I x1)]) (b9 := 0) (mc := 1) (ms := 6) (n := 14) (k := 0) F K lk_L_105 (wq_Cx_emb (o := 0) (ct_X8_plainAnswer hlt h1r1) (Nat.le_of_ble_eq_true rfl) wq_EL_c (wq_cls_at _)) ⟨(Nat.le_of_ble_eq_true rfl), (Nat.le_of_ble_eq_true rfl)⟩ ⟨Nat.le_of_ble_eq_true rfl, Nat.le_of_ble_eq_true rfl⟩ (Nat.le_of_ble_eq_true rfl) rfl rfl rfl rfl (Nat.le_of_ble_eq_true rfl) dL_plainAnswer_4 (name := "java/lang/IndexOutOfBoundsException") rfl [] ⟨0, 9, 12, 21⟩ [] (htab.trans rfl) (fun _ h => absurd h List.not_mem_nil) (by decide) (by decide) aw_524 (List.mem_of_getElem? (i := 2) rfl) (fun q9 => ?_)
      refine wq_namS eS5 ?_
      refine wq_astore_n (L' := [some (.ref (b + 0)), some (.int (wq_I x1)), some (.ref (b + 316)), some (.ref q9)]) F dL_plainAnswer_12 rfl (by decide) rfl rfl rfl ?_
      refine wq_iconst (n := 1) F dL_plainAnswer_13 rfl ?_
      cases h
      exact wq_iretx F rfl rfl rfl (Nat.le_of_ble_eq_true rfl) (Nat.le_of_ble_eq_true rfl) dL_plainAnswer_14
    · replace h := wq_iff hn1 h
      simp at h
set_option maxHeartbeats 4000000 in
set_option maxRecDepth 100000 in
theorem ct_L_plainSum {l : Launch} (hlt : l.stackTraces = false) {D : va_G} {Ar : Nat → ClassId} {b : Nat} {x1 : Int} {S S0 : wq_St} {r0 : Int} (h : f_L_plainSum x1 S = some (r0, S0)) : wq_Cw l yL_plainSum (.codeWith yL_plainSum cL_plainSum 4 ((Option.some Jvm.ClassFile.FieldType.int)) [(0, 9, 12, 21)]) 15 1 6 D Ar (wq_EL Ar b) b 317 [.ref (b + 0), .int (wq_I x1), .ref (b + 316)] S (some (.int (wq_I r0))) S0 := by
  refine wq_startw "WharfQueryLaw" [some (.ref (b + 0)), some (.int (wq_I x1)), some (.ref (b + 316)), none] (by decide +kernel) rfl (Nat.le_of_ble_eq_true rfl) rfl ?_
  intro p e s m args below meth c F K Kn htab
  unfold f_L_plainSum at h
  refine wq_aload_n F dL_plainSum_0 rfl rfl rfl ?_
  refine wq_iconst (n := 0) F dL_plainSum_1 rfl ?_
  refine wq_aload_n F dL_plainSum_2 rfl rfl rfl ?_
  refine wq_iload_n F dL_plainSum_3 rfl rfl rfl ?_
  rcases wq_bh_some h with ⟨r1, S2, h1r1, h⟩ | ⟨n6, r1, S2, h1r1, h⟩
  · obtain ⟨S3, eS3, h⟩ := wq_lt_some h
    refine wq_callVn (As := [.int (wq_I x1)]) (b9 := 0) (mc := 1) (ms := 6) (n := 14) F K lk_L_108 (wq_Cx_emb (o := 0) (ct_X8_plainSum hlt h1r1) (Nat.le_of_ble_eq_true rfl) wq_EL_c (wq_cls_at _)) ⟨(Nat.le_of_ble_eq_true rfl), (Nat.le_of_ble_eq_true rfl)⟩ ⟨Nat.le_of_ble_eq_true rfl, Nat.le_of_ble_eq_true rfl⟩ (Nat.le_of_ble_eq_true rfl) rfl rfl rfl rfl (Nat.le_of_ble_eq_true rfl) dL_plainSum_4 rfl ?_
    refine wq_namS eS3 ?_
    refine wq_i2l_ F dL_plainSum_7 rfl ?_
    obtain ⟨t4, ht4, wt4, h⟩ := wq_ix_some h
    refine wq_last F (Nat.le_of_ble_eq_true rfl) rfl rfl ht4 wt4 (Or.inl ⟨Nat.le_add_right _ _, Nat.add_lt_add_left (Nat.le_of_ble_eq_true rfl) b⟩) dL_plainSum_8 rfl ?_
    refine wq_goto (tgt := 15) F dL_plainSum_9 (by decide) ?_
    refine wq_iconst (n := 0) F dL_plainSum_15 rfl ?_
    cases h
    exact wq_iretx F rfl rfl rfl (Nat.le_of_ble_eq_true rfl) (Nat.le_of_ble_eq_true rfl) dL_plainSum_16
  · by_cases hn1 : n6 + 1 = 1
    · replace h := wq_ift hn1 h
      obtain rfl : n6 = 0 := by omega
      obtain ⟨S5, eS5, h⟩ := wq_lt_some h
      refine wq_callVc (As := [.int (wq_I x1)]) (b9 := 0) (mc := 1) (ms := 6) (n := 14) (k := 0) F K lk_L_108 (wq_Cx_emb (o := 0) (ct_X8_plainSum hlt h1r1) (Nat.le_of_ble_eq_true rfl) wq_EL_c (wq_cls_at _)) ⟨(Nat.le_of_ble_eq_true rfl), (Nat.le_of_ble_eq_true rfl)⟩ ⟨Nat.le_of_ble_eq_true rfl, Nat.le_of_ble_eq_true rfl⟩ (Nat.le_of_ble_eq_true rfl) rfl rfl rfl rfl (Nat.le_of_ble_eq_true rfl) dL_plainSum_4 (name := "java/lang/IndexOutOfBoundsException") rfl [] ⟨0, 9, 12, 21⟩ [] (htab.trans rfl) (fun _ h => absurd h List.not_mem_nil) (by decide) (by decide) aw_524 (List.mem_of_getElem? (i := 2) rfl) (fun q9 => ?_)
      refine wq_namS eS5 ?_
      refine wq_astore_n (L' := [some (.ref (b + 0)), some (.int (wq_I x1)), some (.ref (b + 316)), some (.ref q9)]) F dL_plainSum_12 rfl (by decide) rfl rfl rfl ?_
      refine wq_iconst (n := 1) F dL_plainSum_13 rfl ?_
      cases h
      exact wq_iretx F rfl rfl rfl (Nat.le_of_ble_eq_true rfl) (Nat.le_of_ble_eq_true rfl) dL_plainSum_14
    · replace h := wq_iff hn1 h
      simp at h
set_option maxHeartbeats 4000000 in
set_option maxRecDepth 100000 in
theorem ct_L_night {l : Launch} (hlt : l.stackTraces = false) {D : va_G} {Ar : Nat → ClassId} {b : Nat} {x1 : Int} {S S0 : wq_St} {r0 : Int} (h : f_L_night x1 S = some (r0, S0)) : wq_Cw l yL_night (.codeWith yL_night cL_night 4 ((Option.some Jvm.ClassFile.FieldType.int)) [(0, 9, 12, 13), (0, 9, 15, 15)]) 15 1 6 D Ar (wq_EL Ar b) b 317 [.ref (b + 0), .int (wq_I x1), .ref (b + 316)] S (some (.int (wq_I r0))) S0 := by
  refine wq_startw "WharfQueryLaw" [some (.ref (b + 0)), some (.int (wq_I x1)), some (.ref (b + 316)), none] (by decide +kernel) rfl (Nat.le_of_ble_eq_true rfl) rfl ?_
  intro p e s m args below meth c F K Kn htab
  unfold f_L_night at h
  refine wq_aload_n F dL_night_0 rfl rfl rfl ?_
  refine wq_iconst (n := 0) F dL_night_1 rfl ?_
  refine wq_aload_n F dL_night_2 rfl rfl rfl ?_
  refine wq_iload_n F dL_night_3 rfl rfl rfl ?_
  rcases wq_bh_some h with ⟨r1, S2, h1r1, h⟩ | ⟨n6, r1, S2, h1r1, h⟩
  · obtain ⟨S3, eS3, h⟩ := wq_lt_some h
    refine wq_callVn (As := [.int (wq_I x1)]) (b9 := 0) (mc := 1) (ms := 6) (n := 14) F K lk_L_111 (wq_Cx_emb (o := 0) (ct_X8_night hlt h1r1) (Nat.le_of_ble_eq_true rfl) wq_EL_c (wq_cls_at _)) ⟨(Nat.le_of_ble_eq_true rfl), (Nat.le_of_ble_eq_true rfl)⟩ ⟨Nat.le_of_ble_eq_true rfl, Nat.le_of_ble_eq_true rfl⟩ (Nat.le_of_ble_eq_true rfl) rfl rfl rfl rfl (Nat.le_of_ble_eq_true rfl) dL_night_4 rfl ?_
    refine wq_namS eS3 ?_
    refine wq_i2l_ F dL_night_7 rfl ?_
    obtain ⟨t4, ht4, wt4, h⟩ := wq_ix_some h
    refine wq_last F (Nat.le_of_ble_eq_true rfl) rfl rfl ht4 wt4 (Or.inl ⟨Nat.le_add_right _ _, Nat.add_lt_add_left (Nat.le_of_ble_eq_true rfl) b⟩) dL_night_8 rfl ?_
    refine wq_goto (tgt := 18) F dL_night_9 (by decide) ?_
    refine wq_iconst (n := 0) F dL_night_18 rfl ?_
    cases h
    exact wq_iretx F rfl rfl rfl (Nat.le_of_ble_eq_true rfl) (Nat.le_of_ble_eq_true rfl) dL_night_19
  · by_cases hn2 : n6 + 1 = 2
    · replace h := wq_ift hn2 h
      obtain rfl : n6 = 1 := by omega
      obtain ⟨S5, eS5, h⟩ := wq_lt_some h
      refine wq_callVc (As := [.int (wq_I x1)]) (b9 := 0) (mc := 1) (ms := 6) (n := 14) (k := 1) F K lk_L_111 (wq_Cx_emb (o := 0) (ct_X8_night hlt h1r1) (Nat.le_of_ble_eq_true rfl) wq_EL_c (wq_cls_at _)) ⟨(Nat.le_of_ble_eq_true rfl), (Nat.le_of_ble_eq_true rfl)⟩ ⟨Nat.le_of_ble_eq_true rfl, Nat.le_of_ble_eq_true rfl⟩ (Nat.le_of_ble_eq_true rfl) rfl rfl rfl rfl (Nat.le_of_ble_eq_true rfl) dL_night_4 (name := "java/lang/IllegalArgumentException") rfl [] ⟨0, 9, 12, 13⟩ [⟨0, 9, 15, 15⟩] (htab.trans rfl) (fun _ h => absurd h List.not_mem_nil) (by decide) (by decide) aw_431 (List.mem_of_getElem? (i := 0) rfl) (fun q9 => ?_)
      refine wq_namS eS5 ?_
      refine wq_astore_n (L' := [some (.ref (b + 0)), some (.int (wq_I x1)), some (.ref (b + 316)), some (.ref q9)]) F dL_night_12 rfl (by decide) rfl rfl rfl ?_
      refine wq_iconst (n := 1) F dL_night_13 rfl ?_
      cases h
      exact wq_iretx F rfl rfl rfl (Nat.le_of_ble_eq_true rfl) (Nat.le_of_ble_eq_true rfl) dL_night_14
    · replace h := wq_iff hn2 h
      by_cases hn3 : n6 + 1 = 3
      · replace h := wq_ift hn3 h
        obtain rfl : n6 = 2 := by omega
        obtain ⟨S5, eS5, h⟩ := wq_lt_some h
        refine wq_callVc (As := [.int (wq_I x1)]) (b9 := 0) (mc := 1) (ms := 6) (n := 14) (k := 2) F K lk_L_111 (wq_Cx_emb (o := 0) (ct_X8_night hlt h1r1) (Nat.le_of_ble_eq_true rfl) wq_EL_c (wq_cls_at _)) ⟨(Nat.le_of_ble_eq_true rfl), (Nat.le_of_ble_eq_true rfl)⟩ ⟨Nat.le_of_ble_eq_true rfl, Nat.le_of_ble_eq_true rfl⟩ (Nat.le_of_ble_eq_true rfl) rfl rfl rfl rfl (Nat.le_of_ble_eq_true rfl) dL_night_4 (name := "java/lang/IllegalStateException") rfl [⟨0, 9, 12, 13⟩] ⟨0, 9, 15, 15⟩ [] (htab.trans rfl) (List.forall_mem_cons.mpr ⟨⟨by decide, "java/lang/IllegalArgumentException", aw_431, Kn.2.2⟩, fun _ h => absurd h List.not_mem_nil⟩) (by decide) (by decide) aw_432 (List.mem_of_getElem? (i := 1) rfl) (fun q9 => ?_)
        refine wq_namS eS5 ?_
        refine wq_astore_n (L' := [some (.ref (b + 0)), some (.int (wq_I x1)), some (.ref (b + 316)), some (.ref q9)]) F dL_night_15 rfl (by decide) rfl rfl rfl ?_
        refine wq_iconst (n := 2) F dL_night_16 rfl ?_
        cases h
        exact wq_iretx F rfl rfl rfl (Nat.le_of_ble_eq_true rfl) (Nat.le_of_ble_eq_true rfl) dL_night_17
      · replace h := wq_iff hn3 h
        simp at h
set_option maxHeartbeats 4000000 in
set_option maxRecDepth 100000 in
theorem ct_L_kept {l : Launch} (hlt : l.stackTraces = false) {D : va_G} {Ar : Nat → ClassId} {b : Nat} {x1 : Int} {S S0 : wq_St} {r0 : Int} (h : f_L_kept x1 S = some (r0, S0)) : wq_Cw l yL_kept (.codeWith yL_kept cL_kept 4 ((Option.some Jvm.ClassFile.FieldType.int)) [(0, 9, 12, 21)]) 9 1 6 D Ar (wq_EL Ar b) b 317 [.ref (b + 0), .int (wq_I x1), .ref (b + 316)] S (some (.int (wq_I r0))) S0 := by
  refine wq_startw "WharfQueryLaw" [some (.ref (b + 0)), some (.int (wq_I x1)), some (.ref (b + 316)), none] (by decide +kernel) rfl (Nat.le_of_ble_eq_true rfl) rfl ?_
  intro p e s m args below meth c F K Kn htab
  unfold f_L_kept at h
  refine wq_aload_n F dL_kept_0 rfl rfl rfl ?_
  refine wq_iconst (n := 0) F dL_kept_1 rfl ?_
  refine wq_aload_n F dL_kept_2 rfl rfl rfl ?_
  refine wq_iload_n F dL_kept_3 rfl rfl rfl ?_
  rcases wq_bh_some h with ⟨r1, S2, h1r1, h⟩ | ⟨n6, r1, S2, h1r1, h⟩
  · obtain ⟨S3, eS3, h⟩ := wq_lt_some h
    refine wq_callVn (As := [.int (wq_I x1)]) (b9 := 0) (mc := 1) (ms := 6) (n := 8) F K lk_L_114 (wq_Cx_emb (o := 0) (ct_X8_kept hlt h1r1) (Nat.le_of_ble_eq_true rfl) wq_EL_c (wq_cls_at _)) ⟨(Nat.le_of_ble_eq_true rfl), (Nat.le_of_ble_eq_true rfl)⟩ ⟨Nat.le_of_ble_eq_true rfl, Nat.le_of_ble_eq_true rfl⟩ (Nat.le_of_ble_eq_true rfl) rfl rfl rfl rfl (Nat.le_of_ble_eq_true rfl) dL_kept_4 rfl ?_
    refine wq_namS eS3 ?_
    refine wq_i2l_ F dL_kept_7 rfl ?_
    obtain ⟨t4, ht4, wt4, h⟩ := wq_ix_some h
    refine wq_last F (Nat.le_of_ble_eq_true rfl) rfl rfl ht4 wt4 (Or.inl ⟨Nat.le_add_right _ _, Nat.add_lt_add_left (Nat.le_of_ble_eq_true rfl) b⟩) dL_kept_8 rfl ?_
    refine wq_goto (tgt := 15) F dL_kept_9 (by decide) ?_
    refine wq_iconst (n := 0) F dL_kept_15 rfl ?_
    cases h
    exact wq_iretx F rfl rfl rfl (Nat.le_of_ble_eq_true rfl) (Nat.le_of_ble_eq_true rfl) dL_kept_16
  · by_cases hn1 : n6 + 1 = 1
    · replace h := wq_ift hn1 h
      obtain rfl : n6 = 0 := by omega
      obtain ⟨S5, eS5, h⟩ := wq_lt_some h
      refine wq_callVc (As := [.int (wq_I x1)]) (b9 := 0) (mc := 1) (ms := 6) (n := 8) (k := 0) F K lk_L_114 (wq_Cx_emb (o := 0) (ct_X8_kept hlt h1r1) (Nat.le_of_ble_eq_true rfl) wq_EL_c (wq_cls_at _)) ⟨(Nat.le_of_ble_eq_true rfl), (Nat.le_of_ble_eq_true rfl)⟩ ⟨Nat.le_of_ble_eq_true rfl, Nat.le_of_ble_eq_true rfl⟩ (Nat.le_of_ble_eq_true rfl) rfl rfl rfl rfl (Nat.le_of_ble_eq_true rfl) dL_kept_4 (name := "java/lang/IndexOutOfBoundsException") rfl [] ⟨0, 9, 12, 21⟩ [] (htab.trans rfl) (fun _ h => absurd h List.not_mem_nil) (by decide) (by decide) aw_524 (List.mem_of_getElem? (i := 2) rfl) (fun q9 => ?_)
      refine wq_namS eS5 ?_
      refine wq_astore_n (L' := [some (.ref (b + 0)), some (.int (wq_I x1)), some (.ref (b + 316)), some (.ref q9)]) F dL_kept_12 rfl (by decide) rfl rfl rfl ?_
      refine wq_iconst (n := 1) F dL_kept_13 rfl ?_
      cases h
      exact wq_iretx F rfl rfl rfl (Nat.le_of_ble_eq_true rfl) (Nat.le_of_ble_eq_true rfl) dL_kept_14
    · replace h := wq_iff hn1 h
      simp at h
set_option maxHeartbeats 4000000 in
set_option maxRecDepth 100000 in
theorem ct_L_keptSum {l : Launch} (hlt : l.stackTraces = false) {D : va_G} {Ar : Nat → ClassId} {b : Nat} {x1 : Int} {S S0 : wq_St} {r0 : Int} (h : f_L_keptSum x1 S = some (r0, S0)) : wq_Cw l yL_keptSum (.codeWith yL_keptSum cL_keptSum 4 ((Option.some Jvm.ClassFile.FieldType.int)) [(0, 9, 12, 21)]) 9 1 6 D Ar (wq_EL Ar b) b 317 [.ref (b + 0), .int (wq_I x1), .ref (b + 316)] S (some (.int (wq_I r0))) S0 := by
  refine wq_startw "WharfQueryLaw" [some (.ref (b + 0)), some (.int (wq_I x1)), some (.ref (b + 316)), none] (by decide +kernel) rfl (Nat.le_of_ble_eq_true rfl) rfl ?_
  intro p e s m args below meth c F K Kn htab
  unfold f_L_keptSum at h
  refine wq_aload_n F dL_keptSum_0 rfl rfl rfl ?_
  refine wq_iconst (n := 0) F dL_keptSum_1 rfl ?_
  refine wq_aload_n F dL_keptSum_2 rfl rfl rfl ?_
  refine wq_iload_n F dL_keptSum_3 rfl rfl rfl ?_
  rcases wq_bh_some h with ⟨r1, S2, h1r1, h⟩ | ⟨n6, r1, S2, h1r1, h⟩
  · obtain ⟨S3, eS3, h⟩ := wq_lt_some h
    refine wq_callVn (As := [.int (wq_I x1)]) (b9 := 0) (mc := 1) (ms := 6) (n := 8) F K lk_L_117 (wq_Cx_emb (o := 0) (ct_X8_keptSum hlt h1r1) (Nat.le_of_ble_eq_true rfl) wq_EL_c (wq_cls_at _)) ⟨(Nat.le_of_ble_eq_true rfl), (Nat.le_of_ble_eq_true rfl)⟩ ⟨Nat.le_of_ble_eq_true rfl, Nat.le_of_ble_eq_true rfl⟩ (Nat.le_of_ble_eq_true rfl) rfl rfl rfl rfl (Nat.le_of_ble_eq_true rfl) dL_keptSum_4 rfl ?_
    refine wq_namS eS3 ?_
    refine wq_i2l_ F dL_keptSum_7 rfl ?_
    obtain ⟨t4, ht4, wt4, h⟩ := wq_ix_some h
    refine wq_last F (Nat.le_of_ble_eq_true rfl) rfl rfl ht4 wt4 (Or.inl ⟨Nat.le_add_right _ _, Nat.add_lt_add_left (Nat.le_of_ble_eq_true rfl) b⟩) dL_keptSum_8 rfl ?_
    refine wq_goto (tgt := 15) F dL_keptSum_9 (by decide) ?_
    refine wq_iconst (n := 0) F dL_keptSum_15 rfl ?_
    cases h
    exact wq_iretx F rfl rfl rfl (Nat.le_of_ble_eq_true rfl) (Nat.le_of_ble_eq_true rfl) dL_keptSum_16
  · by_cases hn1 : n6 + 1 = 1
    · replace h := wq_ift hn1 h
      obtain rfl : n6 = 0 := by omega
      obtain ⟨S5, eS5, h⟩ := wq_lt_some h
      refine wq_callVc (As := [.int (wq_I x1)]) (b9 := 0) (mc := 1) (ms := 6) (n := 8) (k := 0) F K lk_L_117 (wq_Cx_emb (o := 0) (ct_X8_keptSum hlt h1r1) (Nat.le_of_ble_eq_true rfl) wq_EL_c (wq_cls_at _)) ⟨(Nat.le_of_ble_eq_true rfl), (Nat.le_of_ble_eq_true rfl)⟩ ⟨Nat.le_of_ble_eq_true rfl, Nat.le_of_ble_eq_true rfl⟩ (Nat.le_of_ble_eq_true rfl) rfl rfl rfl rfl (Nat.le_of_ble_eq_true rfl) dL_keptSum_4 (name := "java/lang/IndexOutOfBoundsException") rfl [] ⟨0, 9, 12, 21⟩ [] (htab.trans rfl) (fun _ h => absurd h List.not_mem_nil) (by decide) (by decide) aw_524 (List.mem_of_getElem? (i := 2) rfl) (fun q9 => ?_)
      refine wq_namS eS5 ?_
      refine wq_astore_n (L' := [some (.ref (b + 0)), some (.int (wq_I x1)), some (.ref (b + 316)), some (.ref q9)]) F dL_keptSum_12 rfl (by decide) rfl rfl rfl ?_
      refine wq_iconst (n := 1) F dL_keptSum_13 rfl ?_
      cases h
      exact wq_iretx F rfl rfl rfl (Nat.le_of_ble_eq_true rfl) (Nat.le_of_ble_eq_true rfl) dL_keptSum_14
    · replace h := wq_iff hn1 h
      simp at h
set_option maxHeartbeats 4000000 in
set_option maxRecDepth 100000 in
theorem ct_L_keptIn {l : Launch} (hlt : l.stackTraces = false) {D : va_G} {Ar : Nat → ClassId} {b : Nat} {x1 : Int} {S S0 : wq_St} {r0 : Int} (h : f_L_keptIn x1 S = some (r0, S0)) : wq_Cw l yL_keptIn (.codeWith yL_keptIn cL_keptIn 4 ((Option.some Jvm.ClassFile.FieldType.int)) [(0, 9, 12, 21)]) 9 1 6 D Ar (wq_EL Ar b) b 317 [.ref (b + 0), .int (wq_I x1), .ref (b + 316)] S (some (.int (wq_I r0))) S0 := by
  refine wq_startw "WharfQueryLaw" [some (.ref (b + 0)), some (.int (wq_I x1)), some (.ref (b + 316)), none] (by decide +kernel) rfl (Nat.le_of_ble_eq_true rfl) rfl ?_
  intro p e s m args below meth c F K Kn htab
  unfold f_L_keptIn at h
  refine wq_aload_n F dL_keptIn_0 rfl rfl rfl ?_
  refine wq_iconst (n := 0) F dL_keptIn_1 rfl ?_
  refine wq_aload_n F dL_keptIn_2 rfl rfl rfl ?_
  refine wq_iload_n F dL_keptIn_3 rfl rfl rfl ?_
  rcases wq_bh_some h with ⟨r1, S2, h1r1, h⟩ | ⟨n6, r1, S2, h1r1, h⟩
  · obtain ⟨S3, eS3, h⟩ := wq_lt_some h
    refine wq_callVn (As := [.int (wq_I x1)]) (b9 := 0) (mc := 1) (ms := 6) (n := 8) F K lk_L_120 (wq_Cx_emb (o := 0) (ct_X8_keptIn hlt h1r1) (Nat.le_of_ble_eq_true rfl) wq_EL_c (wq_cls_at _)) ⟨(Nat.le_of_ble_eq_true rfl), (Nat.le_of_ble_eq_true rfl)⟩ ⟨Nat.le_of_ble_eq_true rfl, Nat.le_of_ble_eq_true rfl⟩ (Nat.le_of_ble_eq_true rfl) rfl rfl rfl rfl (Nat.le_of_ble_eq_true rfl) dL_keptIn_4 rfl ?_
    refine wq_namS eS3 ?_
    refine wq_i2l_ F dL_keptIn_7 rfl ?_
    obtain ⟨t4, ht4, wt4, h⟩ := wq_ix_some h
    refine wq_last F (Nat.le_of_ble_eq_true rfl) rfl rfl ht4 wt4 (Or.inl ⟨Nat.le_add_right _ _, Nat.add_lt_add_left (Nat.le_of_ble_eq_true rfl) b⟩) dL_keptIn_8 rfl ?_
    refine wq_goto (tgt := 15) F dL_keptIn_9 (by decide) ?_
    refine wq_iconst (n := 0) F dL_keptIn_15 rfl ?_
    cases h
    exact wq_iretx F rfl rfl rfl (Nat.le_of_ble_eq_true rfl) (Nat.le_of_ble_eq_true rfl) dL_keptIn_16
  · by_cases hn1 : n6 + 1 = 1
    · replace h := wq_ift hn1 h
      obtain rfl : n6 = 0 := by omega
      obtain ⟨S5, eS5, h⟩ := wq_lt_some h
      refine wq_callVc (As := [.int (wq_I x1)]) (b9 := 0) (mc := 1) (ms := 6) (n := 8) (k := 0) F K lk_L_120 (wq_Cx_emb (o := 0) (ct_X8_keptIn hlt h1r1) (Nat.le_of_ble_eq_true rfl) wq_EL_c (wq_cls_at _)) ⟨(Nat.le_of_ble_eq_true rfl), (Nat.le_of_ble_eq_true rfl)⟩ ⟨Nat.le_of_ble_eq_true rfl, Nat.le_of_ble_eq_true rfl⟩ (Nat.le_of_ble_eq_true rfl) rfl rfl rfl rfl (Nat.le_of_ble_eq_true rfl) dL_keptIn_4 (name := "java/lang/IndexOutOfBoundsException") rfl [] ⟨0, 9, 12, 21⟩ [] (htab.trans rfl) (fun _ h => absurd h List.not_mem_nil) (by decide) (by decide) aw_524 (List.mem_of_getElem? (i := 2) rfl) (fun q9 => ?_)
      refine wq_namS eS5 ?_
      refine wq_astore_n (L' := [some (.ref (b + 0)), some (.int (wq_I x1)), some (.ref (b + 316)), some (.ref q9)]) F dL_keptIn_12 rfl (by decide) rfl rfl rfl ?_
      refine wq_iconst (n := 1) F dL_keptIn_13 rfl ?_
      cases h
      exact wq_iretx F rfl rfl rfl (Nat.le_of_ble_eq_true rfl) (Nat.le_of_ble_eq_true rfl) dL_keptIn_14
    · replace h := wq_iff hn1 h
      simp at h
