set_option maxHeartbeats 4000000 in
set_option maxRecDepth 100000 in
theorem ct_L_drawn {l : Launch} {D : va_G} {Ar : Nat → ClassId} {b0 LL : Nat} {X : Nat → Int} {x1 : Int} {S S0 : wq_St} {r0 : Int} (h : f_L_drawn X LL x1 S = some (r0, S0)) : wq_Cd l D Ar b0 LL X x1 r0 S0 := by
  refine wq_startd (S := S) [some (.ref b0), some (.int (wq_I x1)), none] rfl ?_
  intro p e s m args below meth c F hX hbl
  have hbA : ¬ wq_Ab 0 0 b0 := fun h => by have := h.2; omega
  unfold f_L_drawn at h
  refine wq_iload_n F dL_drawn_0 rfl rfl rfl ?_
  refine wq_aload_n F dL_drawn_1 rfl rfl rfl ?_
  refine wq_slen F hX hbl hbA dL_drawn_2 rfl ?_
  refine wq_icmp_ge (tgt := 12) F dL_drawn_3 (by decide) rfl (fun hc => ?_) (fun hc => ?_)
  · replace h := wq_ift hc h
    refine wq_sipush (n := 12421) F dL_drawn_12 (by decide) rfl ?_
    refine wq_iload_n F dL_drawn_15 rfl rfl rfl ?_
    refine wq_imul F dL_drawn_16 rfl ?_
    refine wq_sipush (n := 9019) F dL_drawn_17 (by decide) rfl ?_
    refine wq_iadd F dL_drawn_20 rfl ?_
    refine wq_istore_n (L' := [some (.ref b0), some (.int (wq_I x1)), some (.int (wq_I ((12421 * x1) + 9019)))]) F dL_drawn_21 rfl (by decide) rfl rfl rfl ?_
    refine wq_iload_n F dL_drawn_22 rfl rfl rfl ?_
    refine wq_ldcI (v := 1073741823) F dL_drawn_23 aw_379 (by decide) rfl ?_
    refine wq_iand F dL_drawn_25 rfl ?_
    cases h
    exact wq_iret F rfl rfl dL_drawn_26
  · replace h := wq_iff hc h
    refine wq_aload_n F dL_drawn_6 rfl rfl rfl ?_
    refine wq_iload_n F dL_drawn_7 rfl rfl rfl ?_
    obtain ⟨t1, ht1, wt1, h⟩ := wq_ix_some h
    refine wq_sld F hX hbl hbA ht1 wt1 dL_drawn_8 rfl ?_
    refine wq_goto (tgt := 21) F dL_drawn_9 (by decide) ?_
    refine wq_istore_n (L' := [some (.ref b0), some (.int (wq_I x1)), some (.int (wq_I (X t1)))]) F dL_drawn_21 rfl (by decide) rfl rfl rfl ?_
    refine wq_iload_n F dL_drawn_22 rfl rfl rfl ?_
    refine wq_ldcI (v := 1073741823) F dL_drawn_23 aw_379 (by decide) rfl ?_
    refine wq_iand F dL_drawn_25 rfl ?_
    cases h
    exact wq_iret F rfl rfl dL_drawn_26
set_option maxHeartbeats 4000000 in
set_option maxRecDepth 100000 in
theorem ct_L_insert {l : Launch} (hlt : l.stackTraces = false) {D : va_G} {Ar : Nat → ClassId} {b : Nat} {x1 : Int} {x2 : Int} {x3 : Int} {x4 : Int} {S S0 : wq_St} {r0 : Int} (h : f_L_insert x1 x2 x3 x4 S = some (r0, S0)) : wq_Cw l yL_insert (.codeWith yL_insert cL_insert 6 ((Option.some Jvm.ClassFile.FieldType.int)) [(0, 9, 10, 14), (0, 9, 15, 16), (0, 9, 20, 18)]) 9 2 12 D Ar (wq_EC Ar b) b 284 [.ref (b + 0), .int (wq_I x1), .int (wq_I x2), .int (wq_I x3), .int (wq_I x4)] S (some (.int (wq_I r0))) S0 := by
  refine wq_startw "WharfQueryLaw" [some (.ref (b + 0)), some (.int (wq_I x1)), some (.int (wq_I x2)), some (.int (wq_I x3)), some (.int (wq_I x4)), none] (by decide +kernel) rfl (Nat.le_of_ble_eq_true rfl) rfl ?_
  intro p e s m args below meth c F K Kn htab
  unfold f_L_insert at h
  refine wq_aload_n F dL_insert_0 rfl rfl rfl ?_
  refine wq_iload_n F dL_insert_1 rfl rfl rfl ?_
  refine wq_iload_n F dL_insert_2 rfl rfl rfl ?_
  refine wq_iload_n F dL_insert_3 rfl rfl rfl ?_
  refine wq_iload F dL_insert_4 rfl rfl ?_
  rcases wq_bh_some h with ⟨r1, S2, h1r1, h⟩ | ⟨n4, r1, S2, h1r1, h⟩
  · refine wq_callVn (As := [.int (wq_I x1), .int (wq_I x2), .int (wq_I x3), .int (wq_I x4)]) (b9 := 0) (mc := 2) (ms := 12) (n := 8) F K lk_L_8 (ct_X8_insert hlt h1r1) ⟨(Nat.le_of_ble_eq_true rfl), (Nat.le_of_ble_eq_true rfl)⟩ ⟨Nat.le_of_ble_eq_true rfl, Nat.le_of_ble_eq_true rfl⟩ (Nat.le_of_ble_eq_true rfl) rfl rfl rfl rfl (Nat.le_of_ble_eq_true rfl) dL_insert_6 rfl ?_
    cases h
    exact wq_iretx F rfl rfl rfl (Nat.le_of_ble_eq_true rfl) (Nat.le_of_ble_eq_true rfl) dL_insert_9
  · by_cases hn1 : n4 + 1 = 1
    · replace h := wq_ift hn1 h
      obtain rfl : n4 = 0 := by omega
      refine wq_callVc (As := [.int (wq_I x1), .int (wq_I x2), .int (wq_I x3), .int (wq_I x4)]) (b9 := 0) (mc := 2) (ms := 12) (n := 8) (k := 0) F K lk_L_8 (ct_X8_insert hlt h1r1) ⟨(Nat.le_of_ble_eq_true rfl), (Nat.le_of_ble_eq_true rfl)⟩ ⟨Nat.le_of_ble_eq_true rfl, Nat.le_of_ble_eq_true rfl⟩ (Nat.le_of_ble_eq_true rfl) rfl rfl rfl rfl (Nat.le_of_ble_eq_true rfl) dL_insert_6 (name := "java/lang/IndexOutOfBoundsException") rfl [] ⟨0, 9, 10, 14⟩ [⟨0, 9, 15, 16⟩, ⟨0, 9, 20, 18⟩] (htab.trans rfl) (fun _ h => absurd h List.not_mem_nil) (by decide) (by decide) aw_383 (List.mem_of_getElem? (i := 2) rfl) (fun q9 => ?_)
      refine wq_astore (L' := [some (.ref (b + 0)), some (.int (wq_I x1)), some (.int (wq_I x2)), some (.int (wq_I x3)), some (.int (wq_I x4)), some (.ref q9)]) F dL_insert_10 (by decide) rfl rfl rfl ?_
      refine wq_bipush (n := -8) F dL_insert_12 (by decide) rfl ?_
      cases h
      exact wq_iretx F rfl rfl rfl (Nat.le_of_ble_eq_true rfl) (Nat.le_of_ble_eq_true rfl) dL_insert_14
    · replace h := wq_iff hn1 h
      by_cases hn2 : n4 + 1 = 2
      · replace h := wq_ift hn2 h
        obtain rfl : n4 = 1 := by omega
        refine wq_callVc (As := [.int (wq_I x1), .int (wq_I x2), .int (wq_I x3), .int (wq_I x4)]) (b9 := 0) (mc := 2) (ms := 12) (n := 8) (k := 1) F K lk_L_8 (ct_X8_insert hlt h1r1) ⟨(Nat.le_of_ble_eq_true rfl), (Nat.le_of_ble_eq_true rfl)⟩ ⟨Nat.le_of_ble_eq_true rfl, Nat.le_of_ble_eq_true rfl⟩ (Nat.le_of_ble_eq_true rfl) rfl rfl rfl rfl (Nat.le_of_ble_eq_true rfl) dL_insert_6 (name := "java/lang/IllegalArgumentException") rfl [⟨0, 9, 10, 14⟩] ⟨0, 9, 15, 16⟩ [⟨0, 9, 20, 18⟩] (htab.trans rfl) (List.forall_mem_cons.mpr ⟨⟨by decide, "java/lang/IndexOutOfBoundsException", aw_383, Kn.1⟩, fun _ h => absurd h List.not_mem_nil⟩) (by decide) (by decide) aw_384 (List.mem_of_getElem? (i := 0) rfl) (fun q9 => ?_)
        refine wq_astore (L' := [some (.ref (b + 0)), some (.int (wq_I x1)), some (.int (wq_I x2)), some (.int (wq_I x3)), some (.int (wq_I x4)), some (.ref q9)]) F dL_insert_15 (by decide) rfl rfl rfl ?_
        refine wq_bipush (n := -8) F dL_insert_17 (by decide) rfl ?_
        cases h
        exact wq_iretx F rfl rfl rfl (Nat.le_of_ble_eq_true rfl) (Nat.le_of_ble_eq_true rfl) dL_insert_19
      · replace h := wq_iff hn2 h
        by_cases hn3 : n4 + 1 = 3
        · replace h := wq_ift hn3 h
          obtain rfl : n4 = 2 := by omega
          refine wq_callVc (As := [.int (wq_I x1), .int (wq_I x2), .int (wq_I x3), .int (wq_I x4)]) (b9 := 0) (mc := 2) (ms := 12) (n := 8) (k := 2) F K lk_L_8 (ct_X8_insert hlt h1r1) ⟨(Nat.le_of_ble_eq_true rfl), (Nat.le_of_ble_eq_true rfl)⟩ ⟨Nat.le_of_ble_eq_true rfl, Nat.le_of_ble_eq_true rfl⟩ (Nat.le_of_ble_eq_true rfl) rfl rfl rfl rfl (Nat.le_of_ble_eq_true rfl) dL_insert_6 (name := "java/lang/IllegalStateException") rfl [⟨0, 9, 10, 14⟩, ⟨0, 9, 15, 16⟩] ⟨0, 9, 20, 18⟩ [] (htab.trans rfl) (List.forall_mem_cons.mpr ⟨⟨by decide, "java/lang/IndexOutOfBoundsException", aw_383, Kn.2.1⟩, List.forall_mem_cons.mpr ⟨⟨by decide, "java/lang/IllegalArgumentException", aw_384, Kn.2.2⟩, fun _ h => absurd h List.not_mem_nil⟩⟩) (by decide) (by decide) aw_385 (List.mem_of_getElem? (i := 1) rfl) (fun q9 => ?_)
          refine wq_astore (L' := [some (.ref (b + 0)), some (.int (wq_I x1)), some (.int (wq_I x2)), some (.int (wq_I x3)), some (.int (wq_I x4)), some (.ref q9)]) F dL_insert_20 (by decide) rfl rfl rfl ?_
          refine wq_bipush (n := -8) F dL_insert_22 (by decide) rfl ?_
          cases h
          exact wq_iretx F rfl rfl rfl (Nat.le_of_ble_eq_true rfl) (Nat.le_of_ble_eq_true rfl) dL_insert_24
        · replace h := wq_iff hn3 h
          simp at h
set_option maxHeartbeats 4000000 in
set_option maxRecDepth 100000 in
theorem ct_L_add {l : Launch} (hlt : l.stackTraces = false) {D : va_G} {Ar : Nat → ClassId} {b : Nat} {x1 : Int} {x2 : Int} {S S0 : wq_St} {r0 : Int} (h : f_L_add x1 x2 S = some (r0, S0)) : wq_Cw l yL_add (.codeWith yL_add cL_add 4 ((Option.some Jvm.ClassFile.FieldType.int)) [(0, 56, 57, 14), (0, 56, 61, 16), (0, 56, 65, 18)]) 15 2 12 D Ar (wq_EC Ar b) b 284 [.ref (b + 0), .int (wq_I x1), .int (wq_I x2)] S (some (.int (wq_I r0))) S0 := by
  refine wq_startw "WharfQueryLaw" [some (.ref (b + 0)), some (.int (wq_I x1)), some (.int (wq_I x2)), none] (by decide +kernel) rfl (Nat.le_of_ble_eq_true rfl) rfl ?_
  intro p e s m args below meth c F K Kn htab
  unfold f_L_add at h
  refine wq_iload_n F dL_add_0 rfl rfl rfl ?_
  refine wq_if_ne (tgt := 12) F dL_add_1 (by decide) rfl (fun hc => ?_) (fun hc => ?_)
  · replace h := wq_iff hc h
    refine wq_iload_n F dL_add_12 rfl rfl rfl ?_
    refine wq_iconst (n := 1) F dL_add_13 rfl ?_
    refine wq_icmp_ne (tgt := 25) F dL_add_14 (by decide) rfl (fun hc => ?_) (fun hc => ?_)
    · replace h := wq_iff hc h
      refine wq_iload_n F dL_add_25 rfl rfl rfl ?_
      refine wq_iconst (n := 2) F dL_add_26 rfl ?_
      refine wq_icmp_ne (tgt := 38) F dL_add_27 (by decide) rfl (fun hc => ?_) (fun hc => ?_)
      · replace h := wq_iff hc h
        refine wq_iload_n F dL_add_38 rfl rfl rfl ?_
        refine wq_iconst (n := 3) F dL_add_39 rfl ?_
        refine wq_icmp_ne (tgt := 51) F dL_add_40 (by decide) rfl (fun hc => ?_) (fun hc => ?_)
        · replace h := wq_iff hc h
          refine wq_aload_n F dL_add_51 rfl rfl rfl ?_
          refine wq_iload_n F dL_add_52 rfl rfl rfl ?_
          rcases wq_bh_some h with ⟨r1, S2, h1r1, h⟩ | ⟨n4, r1, S2, h1r1, h⟩
          · refine wq_callVn (As := [.int (wq_I x2)]) (b9 := 0) (mc := 2) (ms := 12) (n := 8) F K lk_L_33 (ct_X8_dropCondition hlt h1r1) ⟨(Nat.le_of_ble_eq_true rfl), (Nat.le_of_ble_eq_true rfl)⟩ ⟨Nat.le_of_ble_eq_true rfl, Nat.le_of_ble_eq_true rfl⟩ (Nat.le_of_ble_eq_true rfl) rfl rfl rfl rfl (Nat.le_of_ble_eq_true rfl) dL_add_53 rfl ?_
            cases h
            exact wq_iretx F rfl rfl rfl (Nat.le_of_ble_eq_true rfl) (Nat.le_of_ble_eq_true rfl) dL_add_56
          · by_cases hn1 : n4 + 1 = 1
            · replace h := wq_ift hn1 h
              obtain rfl : n4 = 0 := by omega
              refine wq_callVc (As := [.int (wq_I x2)]) (b9 := 0) (mc := 2) (ms := 12) (n := 8) (k := 0) F K lk_L_33 (ct_X8_dropCondition hlt h1r1) ⟨(Nat.le_of_ble_eq_true rfl), (Nat.le_of_ble_eq_true rfl)⟩ ⟨Nat.le_of_ble_eq_true rfl, Nat.le_of_ble_eq_true rfl⟩ (Nat.le_of_ble_eq_true rfl) rfl rfl rfl rfl (Nat.le_of_ble_eq_true rfl) dL_add_53 (name := "java/lang/IndexOutOfBoundsException") rfl [] ⟨0, 56, 57, 14⟩ [⟨0, 56, 61, 16⟩, ⟨0, 56, 65, 18⟩] (htab.trans rfl) (fun _ h => absurd h List.not_mem_nil) (by decide) (by decide) aw_383 (List.mem_of_getElem? (i := 2) rfl) (fun q9 => ?_)
              refine wq_astore_n (L' := [some (.ref (b + 0)), some (.int (wq_I x1)), some (.int (wq_I x2)), some (.ref q9)]) F dL_add_57 rfl (by decide) rfl rfl rfl ?_
              refine wq_bipush (n := -8) F dL_add_58 (by decide) rfl ?_
              cases h
              exact wq_iretx F rfl rfl rfl (Nat.le_of_ble_eq_true rfl) (Nat.le_of_ble_eq_true rfl) dL_add_60
            · replace h := wq_iff hn1 h
              by_cases hn2 : n4 + 1 = 2
              · replace h := wq_ift hn2 h
                obtain rfl : n4 = 1 := by omega
                refine wq_callVc (As := [.int (wq_I x2)]) (b9 := 0) (mc := 2) (ms := 12) (n := 8) (k := 1) F K lk_L_33 (ct_X8_dropCondition hlt h1r1) ⟨(Nat.le_of_ble_eq_true rfl), (Nat.le_of_ble_eq_true rfl)⟩ ⟨Nat.le_of_ble_eq_true rfl, Nat.le_of_ble_eq_true rfl⟩ (Nat.le_of_ble_eq_true rfl) rfl rfl rfl rfl (Nat.le_of_ble_eq_true rfl) dL_add_53 (name := "java/lang/IllegalArgumentException") rfl [⟨0, 56, 57, 14⟩] ⟨0, 56, 61, 16⟩ [⟨0, 56, 65, 18⟩] (htab.trans rfl) (List.forall_mem_cons.mpr ⟨⟨by decide, "java/lang/IndexOutOfBoundsException", aw_383, Kn.1⟩, fun _ h => absurd h List.not_mem_nil⟩) (by decide) (by decide) aw_384 (List.mem_of_getElem? (i := 0) rfl) (fun q9 => ?_)
                refine wq_astore_n (L' := [some (.ref (b + 0)), some (.int (wq_I x1)), some (.int (wq_I x2)), some (.ref q9)]) F dL_add_61 rfl (by decide) rfl rfl rfl ?_
                refine wq_bipush (n := -8) F dL_add_62 (by decide) rfl ?_
                cases h
                exact wq_iretx F rfl rfl rfl (Nat.le_of_ble_eq_true rfl) (Nat.le_of_ble_eq_true rfl) dL_add_64
              · replace h := wq_iff hn2 h
                by_cases hn3 : n4 + 1 = 3
                · replace h := wq_ift hn3 h
                  obtain rfl : n4 = 2 := by omega
                  refine wq_callVc (As := [.int (wq_I x2)]) (b9 := 0) (mc := 2) (ms := 12) (n := 8) (k := 2) F K lk_L_33 (ct_X8_dropCondition hlt h1r1) ⟨(Nat.le_of_ble_eq_true rfl), (Nat.le_of_ble_eq_true rfl)⟩ ⟨Nat.le_of_ble_eq_true rfl, Nat.le_of_ble_eq_true rfl⟩ (Nat.le_of_ble_eq_true rfl) rfl rfl rfl rfl (Nat.le_of_ble_eq_true rfl) dL_add_53 (name := "java/lang/IllegalStateException") rfl [⟨0, 56, 57, 14⟩, ⟨0, 56, 61, 16⟩] ⟨0, 56, 65, 18⟩ [] (htab.trans rfl) (List.forall_mem_cons.mpr ⟨⟨by decide, "java/lang/IndexOutOfBoundsException", aw_383, Kn.2.1⟩, List.forall_mem_cons.mpr ⟨⟨by decide, "java/lang/IllegalArgumentException", aw_384, Kn.2.2⟩, fun _ h => absurd h List.not_mem_nil⟩⟩) (by decide) (by decide) aw_385 (List.mem_of_getElem? (i := 1) rfl) (fun q9 => ?_)
                  refine wq_astore_n (L' := [some (.ref (b + 0)), some (.int (wq_I x1)), some (.int (wq_I x2)), some (.ref q9)]) F dL_add_65 rfl (by decide) rfl rfl rfl ?_
                  refine wq_bipush (n := -8) F dL_add_66 (by decide) rfl ?_
                  cases h
                  exact wq_iretx F rfl rfl rfl (Nat.le_of_ble_eq_true rfl) (Nat.le_of_ble_eq_true rfl) dL_add_68
                · replace h := wq_iff hn3 h
                  simp at h
        · replace h := wq_ift hc h
          refine wq_aload_n F dL_add_43 rfl rfl rfl ?_
          refine wq_iload_n F dL_add_44 rfl rfl rfl ?_
          rcases wq_bh_some h with ⟨r5, S6, h1r5, h⟩ | ⟨n8, r5, S6, h1r5, h⟩
          · refine wq_callVn (As := [.int (wq_I x2)]) (b9 := 0) (mc := 1) (ms := 6) (n := 14) F K lk_L_30 (ct_X8_night hlt h1r5) ⟨(Nat.le_of_ble_eq_true rfl), (Nat.le_of_ble_eq_true rfl)⟩ ⟨Nat.le_of_ble_eq_true rfl, Nat.le_of_ble_eq_true rfl⟩ (Nat.le_of_ble_eq_true rfl) rfl rfl rfl rfl (Nat.le_of_ble_eq_true rfl) dL_add_45 rfl ?_
            refine wq_goto (tgt := 56) F dL_add_48 (by decide) ?_
            cases h
            exact wq_iretx F rfl rfl rfl (Nat.le_of_ble_eq_true rfl) (Nat.le_of_ble_eq_true rfl) dL_add_56
          · by_cases hn1 : n8 + 1 = 1
            · replace h := wq_ift hn1 h
              obtain rfl : n8 = 0 := by omega
              refine wq_callVc (As := [.int (wq_I x2)]) (b9 := 0) (mc := 1) (ms := 6) (n := 14) (k := 0) F K lk_L_30 (ct_X8_night hlt h1r5) ⟨(Nat.le_of_ble_eq_true rfl), (Nat.le_of_ble_eq_true rfl)⟩ ⟨Nat.le_of_ble_eq_true rfl, Nat.le_of_ble_eq_true rfl⟩ (Nat.le_of_ble_eq_true rfl) rfl rfl rfl rfl (Nat.le_of_ble_eq_true rfl) dL_add_45 (name := "java/lang/IndexOutOfBoundsException") rfl [] ⟨0, 56, 57, 14⟩ [⟨0, 56, 61, 16⟩, ⟨0, 56, 65, 18⟩] (htab.trans rfl) (fun _ h => absurd h List.not_mem_nil) (by decide) (by decide) aw_383 (List.mem_of_getElem? (i := 2) rfl) (fun q9 => ?_)
              refine wq_astore_n (L' := [some (.ref (b + 0)), some (.int (wq_I x1)), some (.int (wq_I x2)), some (.ref q9)]) F dL_add_57 rfl (by decide) rfl rfl rfl ?_
              refine wq_bipush (n := -8) F dL_add_58 (by decide) rfl ?_
              cases h
              exact wq_iretx F rfl rfl rfl (Nat.le_of_ble_eq_true rfl) (Nat.le_of_ble_eq_true rfl) dL_add_60
            · replace h := wq_iff hn1 h
              by_cases hn2 : n8 + 1 = 2
              · replace h := wq_ift hn2 h
                obtain rfl : n8 = 1 := by omega
                refine wq_callVc (As := [.int (wq_I x2)]) (b9 := 0) (mc := 1) (ms := 6) (n := 14) (k := 1) F K lk_L_30 (ct_X8_night hlt h1r5) ⟨(Nat.le_of_ble_eq_true rfl), (Nat.le_of_ble_eq_true rfl)⟩ ⟨Nat.le_of_ble_eq_true rfl, Nat.le_of_ble_eq_true rfl⟩ (Nat.le_of_ble_eq_true rfl) rfl rfl rfl rfl (Nat.le_of_ble_eq_true rfl) dL_add_45 (name := "java/lang/IllegalArgumentException") rfl [⟨0, 56, 57, 14⟩] ⟨0, 56, 61, 16⟩ [⟨0, 56, 65, 18⟩] (htab.trans rfl) (List.forall_mem_cons.mpr ⟨⟨by decide, "java/lang/IndexOutOfBoundsException", aw_383, Kn.1⟩, fun _ h => absurd h List.not_mem_nil⟩) (by decide) (by decide) aw_384 (List.mem_of_getElem? (i := 0) rfl) (fun q9 => ?_)
                refine wq_astore_n (L' := [some (.ref (b + 0)), some (.int (wq_I x1)), some (.int (wq_I x2)), some (.ref q9)]) F dL_add_61 rfl (by decide) rfl rfl rfl ?_
                refine wq_bipush (n := -8) F dL_add_62 (by decide) rfl ?_
                cases h
                exact wq_iretx F rfl rfl rfl (Nat.le_of_ble_eq_true rfl) (Nat.le_of_ble_eq_true rfl) dL_add_64
              · replace h := wq_iff hn2 h
                by_cases hn3 : n8 + 1 = 3
                · replace h := wq_ift hn3 h
                  obtain rfl : n8 = 2 := by omega
                  refine wq_callVc (As := [.int (wq_I x2)]) (b9 := 0) (mc := 1) (ms := 6) (n := 14) (k := 2) F K lk_L_30 (ct_X8_night hlt h1r5) ⟨(Nat.le_of_ble_eq_true rfl), (Nat.le_of_ble_eq_true rfl)⟩ ⟨Nat.le_of_ble_eq_true rfl, Nat.le_of_ble_eq_true rfl⟩ (Nat.le_of_ble_eq_true rfl) rfl rfl rfl rfl (Nat.le_of_ble_eq_true rfl) dL_add_45 (name := "java/lang/IllegalStateException") rfl [⟨0, 56, 57, 14⟩, ⟨0, 56, 61, 16⟩] ⟨0, 56, 65, 18⟩ [] (htab.trans rfl) (List.forall_mem_cons.mpr ⟨⟨by decide, "java/lang/IndexOutOfBoundsException", aw_383, Kn.2.1⟩, List.forall_mem_cons.mpr ⟨⟨by decide, "java/lang/IllegalArgumentException", aw_384, Kn.2.2⟩, fun _ h => absurd h List.not_mem_nil⟩⟩) (by decide) (by decide) aw_385 (List.mem_of_getElem? (i := 1) rfl) (fun q9 => ?_)
                  refine wq_astore_n (L' := [some (.ref (b + 0)), some (.int (wq_I x1)), some (.int (wq_I x2)), some (.ref q9)]) F dL_add_65 rfl (by decide) rfl rfl rfl ?_
                  refine wq_bipush (n := -8) F dL_add_66 (by decide) rfl ?_
                  cases h
                  exact wq_iretx F rfl rfl rfl (Nat.le_of_ble_eq_true rfl) (Nat.le_of_ble_eq_true rfl) dL_add_68
                · replace h := wq_iff hn3 h
                  simp at h
      · replace h := wq_ift hc h
        refine wq_aload_n F dL_add_30 rfl rfl rfl ?_
        refine wq_iload_n F dL_add_31 rfl rfl rfl ?_
        rcases wq_bh_some h with ⟨r9, S10, h1r9, h⟩ | ⟨n12, r9, S10, h1r9, h⟩
        · refine wq_callVn (As := [.int (wq_I x2)]) (b9 := 0) (mc := 1) (ms := 6) (n := 8) F K lk_L_27 (ct_X8_setStep hlt h1r9) ⟨(Nat.le_of_ble_eq_true rfl), (Nat.le_of_ble_eq_true rfl)⟩ ⟨Nat.le_of_ble_eq_true rfl, Nat.le_of_ble_eq_true rfl⟩ (Nat.le_of_ble_eq_true rfl) rfl rfl rfl rfl (Nat.le_of_ble_eq_true rfl) dL_add_32 rfl ?_
          refine wq_goto (tgt := 56) F dL_add_35 (by decide) ?_
          cases h
          exact wq_iretx F rfl rfl rfl (Nat.le_of_ble_eq_true rfl) (Nat.le_of_ble_eq_true rfl) dL_add_56
        · by_cases hn1 : n12 + 1 = 1
          · replace h := wq_ift hn1 h
            obtain rfl : n12 = 0 := by omega
            refine wq_callVc (As := [.int (wq_I x2)]) (b9 := 0) (mc := 1) (ms := 6) (n := 8) (k := 0) F K lk_L_27 (ct_X8_setStep hlt h1r9) ⟨(Nat.le_of_ble_eq_true rfl), (Nat.le_of_ble_eq_true rfl)⟩ ⟨Nat.le_of_ble_eq_true rfl, Nat.le_of_ble_eq_true rfl⟩ (Nat.le_of_ble_eq_true rfl) rfl rfl rfl rfl (Nat.le_of_ble_eq_true rfl) dL_add_32 (name := "java/lang/IndexOutOfBoundsException") rfl [] ⟨0, 56, 57, 14⟩ [⟨0, 56, 61, 16⟩, ⟨0, 56, 65, 18⟩] (htab.trans rfl) (fun _ h => absurd h List.not_mem_nil) (by decide) (by decide) aw_383 (List.mem_of_getElem? (i := 2) rfl) (fun q9 => ?_)
            refine wq_astore_n (L' := [some (.ref (b + 0)), some (.int (wq_I x1)), some (.int (wq_I x2)), some (.ref q9)]) F dL_add_57 rfl (by decide) rfl rfl rfl ?_
            refine wq_bipush (n := -8) F dL_add_58 (by decide) rfl ?_
            cases h
            exact wq_iretx F rfl rfl rfl (Nat.le_of_ble_eq_true rfl) (Nat.le_of_ble_eq_true rfl) dL_add_60
          · replace h := wq_iff hn1 h
            by_cases hn2 : n12 + 1 = 2
            · replace h := wq_ift hn2 h
              obtain rfl : n12 = 1 := by omega
              refine wq_callVc (As := [.int (wq_I x2)]) (b9 := 0) (mc := 1) (ms := 6) (n := 8) (k := 1) F K lk_L_27 (ct_X8_setStep hlt h1r9) ⟨(Nat.le_of_ble_eq_true rfl), (Nat.le_of_ble_eq_true rfl)⟩ ⟨Nat.le_of_ble_eq_true rfl, Nat.le_of_ble_eq_true rfl⟩ (Nat.le_of_ble_eq_true rfl) rfl rfl rfl rfl (Nat.le_of_ble_eq_true rfl) dL_add_32 (name := "java/lang/IllegalArgumentException") rfl [⟨0, 56, 57, 14⟩] ⟨0, 56, 61, 16⟩ [⟨0, 56, 65, 18⟩] (htab.trans rfl) (List.forall_mem_cons.mpr ⟨⟨by decide, "java/lang/IndexOutOfBoundsException", aw_383, Kn.1⟩, fun _ h => absurd h List.not_mem_nil⟩) (by decide) (by decide) aw_384 (List.mem_of_getElem? (i := 0) rfl) (fun q9 => ?_)
              refine wq_astore_n (L' := [some (.ref (b + 0)), some (.int (wq_I x1)), some (.int (wq_I x2)), some (.ref q9)]) F dL_add_61 rfl (by decide) rfl rfl rfl ?_
              refine wq_bipush (n := -8) F dL_add_62 (by decide) rfl ?_
              cases h
              exact wq_iretx F rfl rfl rfl (Nat.le_of_ble_eq_true rfl) (Nat.le_of_ble_eq_true rfl) dL_add_64
            · replace h := wq_iff hn2 h
              by_cases hn3 : n12 + 1 = 3
              · replace h := wq_ift hn3 h
                obtain rfl : n12 = 2 := by omega
                refine wq_callVc (As := [.int (wq_I x2)]) (b9 := 0) (mc := 1) (ms := 6) (n := 8) (k := 2) F K lk_L_27 (ct_X8_setStep hlt h1r9) ⟨(Nat.le_of_ble_eq_true rfl), (Nat.le_of_ble_eq_true rfl)⟩ ⟨Nat.le_of_ble_eq_true rfl, Nat.le_of_ble_eq_true rfl⟩ (Nat.le_of_ble_eq_true rfl) rfl rfl rfl rfl (Nat.le_of_ble_eq_true rfl) dL_add_32 (name := "java/lang/IllegalStateException") rfl [⟨0, 56, 57, 14⟩, ⟨0, 56, 61, 16⟩] ⟨0, 56, 65, 18⟩ [] (htab.trans rfl) (List.forall_mem_cons.mpr ⟨⟨by decide, "java/lang/IndexOutOfBoundsException", aw_383, Kn.2.1⟩, List.forall_mem_cons.mpr ⟨⟨by decide, "java/lang/IllegalArgumentException", aw_384, Kn.2.2⟩, fun _ h => absurd h List.not_mem_nil⟩⟩) (by decide) (by decide) aw_385 (List.mem_of_getElem? (i := 1) rfl) (fun q9 => ?_)
                refine wq_astore_n (L' := [some (.ref (b + 0)), some (.int (wq_I x1)), some (.int (wq_I x2)), some (.ref q9)]) F dL_add_65 rfl (by decide) rfl rfl rfl ?_
                refine wq_bipush (n := -8) F dL_add_66 (by decide) rfl ?_
                cases h
                exact wq_iretx F rfl rfl rfl (Nat.le_of_ble_eq_true rfl) (Nat.le_of_ble_eq_true rfl) dL_add_68
              · replace h := wq_iff hn3 h
                simp at h
    · replace h := wq_ift hc h
      refine wq_aload_n F dL_add_17 rfl rfl rfl ?_
      refine wq_iload_n F dL_add_18 rfl rfl rfl ?_
      rcases wq_bh_some h with ⟨r13, S14, h1r13, h⟩ | ⟨n16, r13, S14, h1r13, h⟩
      · refine wq_callVn (As := [.int (wq_I x2)]) (b9 := 0) (mc := 1) (ms := 6) (n := 7) F K lk_L_24 (ct_X8_addReport hlt h1r13) ⟨(Nat.le_of_ble_eq_true rfl), (Nat.le_of_ble_eq_true rfl)⟩ ⟨Nat.le_of_ble_eq_true rfl, Nat.le_of_ble_eq_true rfl⟩ (Nat.le_of_ble_eq_true rfl) rfl rfl rfl rfl (Nat.le_of_ble_eq_true rfl) dL_add_19 rfl ?_
        refine wq_goto (tgt := 56) F dL_add_22 (by decide) ?_
        cases h
        exact wq_iretx F rfl rfl rfl (Nat.le_of_ble_eq_true rfl) (Nat.le_of_ble_eq_true rfl) dL_add_56
      · by_cases hn1 : n16 + 1 = 1
        · replace h := wq_ift hn1 h
          obtain rfl : n16 = 0 := by omega
          refine wq_callVc (As := [.int (wq_I x2)]) (b9 := 0) (mc := 1) (ms := 6) (n := 7) (k := 0) F K lk_L_24 (ct_X8_addReport hlt h1r13) ⟨(Nat.le_of_ble_eq_true rfl), (Nat.le_of_ble_eq_true rfl)⟩ ⟨Nat.le_of_ble_eq_true rfl, Nat.le_of_ble_eq_true rfl⟩ (Nat.le_of_ble_eq_true rfl) rfl rfl rfl rfl (Nat.le_of_ble_eq_true rfl) dL_add_19 (name := "java/lang/IndexOutOfBoundsException") rfl [] ⟨0, 56, 57, 14⟩ [⟨0, 56, 61, 16⟩, ⟨0, 56, 65, 18⟩] (htab.trans rfl) (fun _ h => absurd h List.not_mem_nil) (by decide) (by decide) aw_383 (List.mem_of_getElem? (i := 2) rfl) (fun q9 => ?_)
          refine wq_astore_n (L' := [some (.ref (b + 0)), some (.int (wq_I x1)), some (.int (wq_I x2)), some (.ref q9)]) F dL_add_57 rfl (by decide) rfl rfl rfl ?_
          refine wq_bipush (n := -8) F dL_add_58 (by decide) rfl ?_
          cases h
          exact wq_iretx F rfl rfl rfl (Nat.le_of_ble_eq_true rfl) (Nat.le_of_ble_eq_true rfl) dL_add_60
        · replace h := wq_iff hn1 h
          by_cases hn2 : n16 + 1 = 2
          · replace h := wq_ift hn2 h
            obtain rfl : n16 = 1 := by omega
            refine wq_callVc (As := [.int (wq_I x2)]) (b9 := 0) (mc := 1) (ms := 6) (n := 7) (k := 1) F K lk_L_24 (ct_X8_addReport hlt h1r13) ⟨(Nat.le_of_ble_eq_true rfl), (Nat.le_of_ble_eq_true rfl)⟩ ⟨Nat.le_of_ble_eq_true rfl, Nat.le_of_ble_eq_true rfl⟩ (Nat.le_of_ble_eq_true rfl) rfl rfl rfl rfl (Nat.le_of_ble_eq_true rfl) dL_add_19 (name := "java/lang/IllegalArgumentException") rfl [⟨0, 56, 57, 14⟩] ⟨0, 56, 61, 16⟩ [⟨0, 56, 65, 18⟩] (htab.trans rfl) (List.forall_mem_cons.mpr ⟨⟨by decide, "java/lang/IndexOutOfBoundsException", aw_383, Kn.1⟩, fun _ h => absurd h List.not_mem_nil⟩) (by decide) (by decide) aw_384 (List.mem_of_getElem? (i := 0) rfl) (fun q9 => ?_)
            refine wq_astore_n (L' := [some (.ref (b + 0)), some (.int (wq_I x1)), some (.int (wq_I x2)), some (.ref q9)]) F dL_add_61 rfl (by decide) rfl rfl rfl ?_
            refine wq_bipush (n := -8) F dL_add_62 (by decide) rfl ?_
            cases h
            exact wq_iretx F rfl rfl rfl (Nat.le_of_ble_eq_true rfl) (Nat.le_of_ble_eq_true rfl) dL_add_64
          · replace h := wq_iff hn2 h
            by_cases hn3 : n16 + 1 = 3
            · replace h := wq_ift hn3 h
              obtain rfl : n16 = 2 := by omega
              refine wq_callVc (As := [.int (wq_I x2)]) (b9 := 0) (mc := 1) (ms := 6) (n := 7) (k := 2) F K lk_L_24 (ct_X8_addReport hlt h1r13) ⟨(Nat.le_of_ble_eq_true rfl), (Nat.le_of_ble_eq_true rfl)⟩ ⟨Nat.le_of_ble_eq_true rfl, Nat.le_of_ble_eq_true rfl⟩ (Nat.le_of_ble_eq_true rfl) rfl rfl rfl rfl (Nat.le_of_ble_eq_true rfl) dL_add_19 (name := "java/lang/IllegalStateException") rfl [⟨0, 56, 57, 14⟩, ⟨0, 56, 61, 16⟩] ⟨0, 56, 65, 18⟩ [] (htab.trans rfl) (List.forall_mem_cons.mpr ⟨⟨by decide, "java/lang/IndexOutOfBoundsException", aw_383, Kn.2.1⟩, List.forall_mem_cons.mpr ⟨⟨by decide, "java/lang/IllegalArgumentException", aw_384, Kn.2.2⟩, fun _ h => absurd h List.not_mem_nil⟩⟩) (by decide) (by decide) aw_385 (List.mem_of_getElem? (i := 1) rfl) (fun q9 => ?_)
              refine wq_astore_n (L' := [some (.ref (b + 0)), some (.int (wq_I x1)), some (.int (wq_I x2)), some (.ref q9)]) F dL_add_65 rfl (by decide) rfl rfl rfl ?_
              refine wq_bipush (n := -8) F dL_add_66 (by decide) rfl ?_
              cases h
              exact wq_iretx F rfl rfl rfl (Nat.le_of_ble_eq_true rfl) (Nat.le_of_ble_eq_true rfl) dL_add_68
            · replace h := wq_iff hn3 h
              simp at h
  · replace h := wq_ift hc h
    refine wq_aload_n F dL_add_4 rfl rfl rfl ?_
    refine wq_iload_n F dL_add_5 rfl rfl rfl ?_
    rcases wq_bh_some h with ⟨r17, S18, h1r17, h⟩ | ⟨n20, r17, S18, h1r17, h⟩
    · refine wq_callVn (As := [.int (wq_I x2)]) (b9 := 0) (mc := 1) (ms := 6) (n := 7) F K lk_L_20 (ct_X8_addTable hlt h1r17) ⟨(Nat.le_of_ble_eq_true rfl), (Nat.le_of_ble_eq_true rfl)⟩ ⟨Nat.le_of_ble_eq_true rfl, Nat.le_of_ble_eq_true rfl⟩ (Nat.le_of_ble_eq_true rfl) rfl rfl rfl rfl (Nat.le_of_ble_eq_true rfl) dL_add_6 rfl ?_
      refine wq_goto (tgt := 56) F dL_add_9 (by decide) ?_
      cases h
      exact wq_iretx F rfl rfl rfl (Nat.le_of_ble_eq_true rfl) (Nat.le_of_ble_eq_true rfl) dL_add_56
    · by_cases hn1 : n20 + 1 = 1
      · replace h := wq_ift hn1 h
        obtain rfl : n20 = 0 := by omega
        refine wq_callVc (As := [.int (wq_I x2)]) (b9 := 0) (mc := 1) (ms := 6) (n := 7) (k := 0) F K lk_L_20 (ct_X8_addTable hlt h1r17) ⟨(Nat.le_of_ble_eq_true rfl), (Nat.le_of_ble_eq_true rfl)⟩ ⟨Nat.le_of_ble_eq_true rfl, Nat.le_of_ble_eq_true rfl⟩ (Nat.le_of_ble_eq_true rfl) rfl rfl rfl rfl (Nat.le_of_ble_eq_true rfl) dL_add_6 (name := "java/lang/IndexOutOfBoundsException") rfl [] ⟨0, 56, 57, 14⟩ [⟨0, 56, 61, 16⟩, ⟨0, 56, 65, 18⟩] (htab.trans rfl) (fun _ h => absurd h List.not_mem_nil) (by decide) (by decide) aw_383 (List.mem_of_getElem? (i := 2) rfl) (fun q9 => ?_)
        refine wq_astore_n (L' := [some (.ref (b + 0)), some (.int (wq_I x1)), some (.int (wq_I x2)), some (.ref q9)]) F dL_add_57 rfl (by decide) rfl rfl rfl ?_
        refine wq_bipush (n := -8) F dL_add_58 (by decide) rfl ?_
        cases h
        exact wq_iretx F rfl rfl rfl (Nat.le_of_ble_eq_true rfl) (Nat.le_of_ble_eq_true rfl) dL_add_60
      · replace h := wq_iff hn1 h
        by_cases hn2 : n20 + 1 = 2
        · replace h := wq_ift hn2 h
          obtain rfl : n20 = 1 := by omega
          refine wq_callVc (As := [.int (wq_I x2)]) (b9 := 0) (mc := 1) (ms := 6) (n := 7) (k := 1) F K lk_L_20 (ct_X8_addTable hlt h1r17) ⟨(Nat.le_of_ble_eq_true rfl), (Nat.le_of_ble_eq_true rfl)⟩ ⟨Nat.le_of_ble_eq_true rfl, Nat.le_of_ble_eq_true rfl⟩ (Nat.le_of_ble_eq_true rfl) rfl rfl rfl rfl (Nat.le_of_ble_eq_true rfl) dL_add_6 (name := "java/lang/IllegalArgumentException") rfl [⟨0, 56, 57, 14⟩] ⟨0, 56, 61, 16⟩ [⟨0, 56, 65, 18⟩] (htab.trans rfl) (List.forall_mem_cons.mpr ⟨⟨by decide, "java/lang/IndexOutOfBoundsException", aw_383, Kn.1⟩, fun _ h => absurd h List.not_mem_nil⟩) (by decide) (by decide) aw_384 (List.mem_of_getElem? (i := 0) rfl) (fun q9 => ?_)
          refine wq_astore_n (L' := [some (.ref (b + 0)), some (.int (wq_I x1)), some (.int (wq_I x2)), some (.ref q9)]) F dL_add_61 rfl (by decide) rfl rfl rfl ?_
          refine wq_bipush (n := -8) F dL_add_62 (by decide) rfl ?_
          cases h
          exact wq_iretx F rfl rfl rfl (Nat.le_of_ble_eq_true rfl) (Nat.le_of_ble_eq_true rfl) dL_add_64
        · replace h := wq_iff hn2 h
          by_cases hn3 : n20 + 1 = 3
          · replace h := wq_ift hn3 h
            obtain rfl : n20 = 2 := by omega
            refine wq_callVc (As := [.int (wq_I x2)]) (b9 := 0) (mc := 1) (ms := 6) (n := 7) (k := 2) F K lk_L_20 (ct_X8_addTable hlt h1r17) ⟨(Nat.le_of_ble_eq_true rfl), (Nat.le_of_ble_eq_true rfl)⟩ ⟨Nat.le_of_ble_eq_true rfl, Nat.le_of_ble_eq_true rfl⟩ (Nat.le_of_ble_eq_true rfl) rfl rfl rfl rfl (Nat.le_of_ble_eq_true rfl) dL_add_6 (name := "java/lang/IllegalStateException") rfl [⟨0, 56, 57, 14⟩, ⟨0, 56, 61, 16⟩] ⟨0, 56, 65, 18⟩ [] (htab.trans rfl) (List.forall_mem_cons.mpr ⟨⟨by decide, "java/lang/IndexOutOfBoundsException", aw_383, Kn.2.1⟩, List.forall_mem_cons.mpr ⟨⟨by decide, "java/lang/IllegalArgumentException", aw_384, Kn.2.2⟩, fun _ h => absurd h List.not_mem_nil⟩⟩) (by decide) (by decide) aw_385 (List.mem_of_getElem? (i := 1) rfl) (fun q9 => ?_)
            refine wq_astore_n (L' := [some (.ref (b + 0)), some (.int (wq_I x1)), some (.int (wq_I x2)), some (.ref q9)]) F dL_add_65 rfl (by decide) rfl rfl rfl ?_
            refine wq_bipush (n := -8) F dL_add_66 (by decide) rfl ?_
            cases h
            exact wq_iretx F rfl rfl rfl (Nat.le_of_ble_eq_true rfl) (Nat.le_of_ble_eq_true rfl) dL_add_68
          · replace h := wq_iff hn3 h
            simp at h
set_option maxHeartbeats 4000000 in
set_option maxRecDepth 100000 in
theorem ct_L_does {l : Launch} (hlt : l.stackTraces = false) {D : va_G} {Ar : Nat → ClassId} {b : Nat} {x1 : Int} {x2 : Int} {x3 : Int} {S S0 : wq_St} {r0 : Int} (h : f_L_does x1 x2 x3 S = some (r0, S0)) : wq_Cw l yL_does (.codeWith yL_does cL_does 5 ((Option.some Jvm.ClassFile.FieldType.int)) [(0, 91, 92, 14), (0, 91, 97, 16), (0, 91, 102, 18)]) 10 3 18 D Ar (wq_EC Ar b) b 284 [.ref (b + 0), .int (wq_I x1), .int (wq_I x2), .int (wq_I x3)] S (some (.int (wq_I r0))) S0 := by
  refine wq_startw "WharfQueryLaw" [some (.ref (b + 0)), some (.int (wq_I x1)), some (.int (wq_I x2)), some (.int (wq_I x3)), none] (by decide +kernel) rfl (Nat.le_of_ble_eq_true rfl) rfl ?_
  intro p e s m args below meth c F K Kn htab
  unfold f_L_does at h
  refine wq_iload_n F dL_does_0 rfl rfl rfl ?_
  refine wq_if_ne (tgt := 13) F dL_does_1 (by decide) rfl (fun hc => ?_) (fun hc => ?_)
  · replace h := wq_iff hc h
    refine wq_iload_n F dL_does_13 rfl rfl rfl ?_
    refine wq_iconst (n := 1) F dL_does_14 rfl ?_
    refine wq_icmp_ne (tgt := 27) F dL_does_15 (by decide) rfl (fun hc => ?_) (fun hc => ?_)
    · replace h := wq_iff hc h
      refine wq_iload_n F dL_does_27 rfl rfl rfl ?_
      refine wq_iconst (n := 2) F dL_does_28 rfl ?_
      refine wq_icmp_ne (tgt := 41) F dL_does_29 (by decide) rfl (fun hc => ?_) (fun hc => ?_)
      · replace h := wq_iff hc h
        refine wq_iload_n F dL_does_41 rfl rfl rfl ?_
        refine wq_iconst (n := 5) F dL_does_42 rfl ?_
        refine wq_icmp_ge (tgt := 67) F dL_does_43 (by decide) rfl (fun hc => ?_) (fun hc => ?_)
        · replace h := wq_ift hc h
          refine wq_aload_n F dL_does_67 rfl rfl rfl ?_
          refine wq_iload_n F dL_does_68 rfl rfl rfl ?_
          refine wq_iload_n F dL_does_69 rfl rfl rfl ?_
          refine wq_iload_n F dL_does_70 rfl rfl rfl ?_
          refine wq_iconst (n := 5) F dL_does_71 rfl ?_
          refine wq_icmp_ne (tgt := 79) F dL_does_72 (by decide) rfl (fun hc => ?_) (fun hc => ?_)
          · replace h := wq_iff hc h
            refine wq_iconst (n := 0) F dL_does_79 rfl ?_
            rcases wq_bh_some h with ⟨r1, S2, h1r1, h⟩ | ⟨n4, r1, S2, h1r1, h⟩
            · refine wq_callVn (As := [.int (wq_I x2), .int (wq_I x3), .int (wq_I 0)]) (b9 := 0) (mc := 2) (ms := 12) (n := 9) F K lk_L_50 (ct_X8_setIndex hlt h1r1) ⟨(Nat.le_of_ble_eq_true rfl), (Nat.le_of_ble_eq_true rfl)⟩ ⟨Nat.le_of_ble_eq_true rfl, Nat.le_of_ble_eq_true rfl⟩ (Nat.le_of_ble_eq_true rfl) rfl rfl rfl rfl (Nat.le_of_ble_eq_true rfl) dL_does_80 rfl ?_
              refine wq_if_eq (tgt := 90) F dL_does_83 (by decide) rfl (fun hc => ?_) (fun hc => ?_)
              · replace h := wq_ift hc h
                refine wq_iconst (n := 0) F dL_does_90 rfl ?_
                cases h
                exact wq_iretx F rfl rfl rfl (Nat.le_of_ble_eq_true rfl) (Nat.le_of_ble_eq_true rfl) dL_does_91
              · replace h := wq_iff hc h
                refine wq_iconst (n := 1) F dL_does_86 rfl ?_
                refine wq_goto (tgt := 91) F dL_does_87 (by decide) ?_
                cases h
                exact wq_iretx F rfl rfl rfl (Nat.le_of_ble_eq_true rfl) (Nat.le_of_ble_eq_true rfl) dL_does_91
            · by_cases hn1 : n4 + 1 = 1
              · replace h := wq_ift hn1 h
                obtain rfl : n4 = 0 := by omega
                refine wq_callVc (As := [.int (wq_I x2), .int (wq_I x3), .int (wq_I 0)]) (b9 := 0) (mc := 2) (ms := 12) (n := 9) (k := 0) F K lk_L_50 (ct_X8_setIndex hlt h1r1) ⟨(Nat.le_of_ble_eq_true rfl), (Nat.le_of_ble_eq_true rfl)⟩ ⟨Nat.le_of_ble_eq_true rfl, Nat.le_of_ble_eq_true rfl⟩ (Nat.le_of_ble_eq_true rfl) rfl rfl rfl rfl (Nat.le_of_ble_eq_true rfl) dL_does_80 (name := "java/lang/IndexOutOfBoundsException") rfl [] ⟨0, 91, 92, 14⟩ [⟨0, 91, 97, 16⟩, ⟨0, 91, 102, 18⟩] (htab.trans rfl) (fun _ h => absurd h List.not_mem_nil) (by decide) (by decide) aw_383 (List.mem_of_getElem? (i := 2) rfl) (fun q9 => ?_)
                refine wq_astore (L' := [some (.ref (b + 0)), some (.int (wq_I x1)), some (.int (wq_I x2)), some (.int (wq_I x3)), some (.ref q9)]) F dL_does_92 (by decide) rfl rfl rfl ?_
                refine wq_bipush (n := -8) F dL_does_94 (by decide) rfl ?_
                cases h
                exact wq_iretx F rfl rfl rfl (Nat.le_of_ble_eq_true rfl) (Nat.le_of_ble_eq_true rfl) dL_does_96
              · replace h := wq_iff hn1 h
                by_cases hn2 : n4 + 1 = 2
                · replace h := wq_ift hn2 h
                  obtain rfl : n4 = 1 := by omega
                  refine wq_callVc (As := [.int (wq_I x2), .int (wq_I x3), .int (wq_I 0)]) (b9 := 0) (mc := 2) (ms := 12) (n := 9) (k := 1) F K lk_L_50 (ct_X8_setIndex hlt h1r1) ⟨(Nat.le_of_ble_eq_true rfl), (Nat.le_of_ble_eq_true rfl)⟩ ⟨Nat.le_of_ble_eq_true rfl, Nat.le_of_ble_eq_true rfl⟩ (Nat.le_of_ble_eq_true rfl) rfl rfl rfl rfl (Nat.le_of_ble_eq_true rfl) dL_does_80 (name := "java/lang/IllegalArgumentException") rfl [⟨0, 91, 92, 14⟩] ⟨0, 91, 97, 16⟩ [⟨0, 91, 102, 18⟩] (htab.trans rfl) (List.forall_mem_cons.mpr ⟨⟨by decide, "java/lang/IndexOutOfBoundsException", aw_383, Kn.1⟩, fun _ h => absurd h List.not_mem_nil⟩) (by decide) (by decide) aw_384 (List.mem_of_getElem? (i := 0) rfl) (fun q9 => ?_)
                  refine wq_astore (L' := [some (.ref (b + 0)), some (.int (wq_I x1)), some (.int (wq_I x2)), some (.int (wq_I x3)), some (.ref q9)]) F dL_does_97 (by decide) rfl rfl rfl ?_
                  refine wq_bipush (n := -8) F dL_does_99 (by decide) rfl ?_
                  cases h
                  exact wq_iretx F rfl rfl rfl (Nat.le_of_ble_eq_true rfl) (Nat.le_of_ble_eq_true rfl) dL_does_101
                · replace h := wq_iff hn2 h
                  by_cases hn3 : n4 + 1 = 3
                  · replace h := wq_ift hn3 h
                    obtain rfl : n4 = 2 := by omega
                    refine wq_callVc (As := [.int (wq_I x2), .int (wq_I x3), .int (wq_I 0)]) (b9 := 0) (mc := 2) (ms := 12) (n := 9) (k := 2) F K lk_L_50 (ct_X8_setIndex hlt h1r1) ⟨(Nat.le_of_ble_eq_true rfl), (Nat.le_of_ble_eq_true rfl)⟩ ⟨Nat.le_of_ble_eq_true rfl, Nat.le_of_ble_eq_true rfl⟩ (Nat.le_of_ble_eq_true rfl) rfl rfl rfl rfl (Nat.le_of_ble_eq_true rfl) dL_does_80 (name := "java/lang/IllegalStateException") rfl [⟨0, 91, 92, 14⟩, ⟨0, 91, 97, 16⟩] ⟨0, 91, 102, 18⟩ [] (htab.trans rfl) (List.forall_mem_cons.mpr ⟨⟨by decide, "java/lang/IndexOutOfBoundsException", aw_383, Kn.2.1⟩, List.forall_mem_cons.mpr ⟨⟨by decide, "java/lang/IllegalArgumentException", aw_384, Kn.2.2⟩, fun _ h => absurd h List.not_mem_nil⟩⟩) (by decide) (by decide) aw_385 (List.mem_of_getElem? (i := 1) rfl) (fun q9 => ?_)
                    refine wq_astore (L' := [some (.ref (b + 0)), some (.int (wq_I x1)), some (.int (wq_I x2)), some (.int (wq_I x3)), some (.ref q9)]) F dL_does_102 (by decide) rfl rfl rfl ?_
                    refine wq_bipush (n := -8) F dL_does_104 (by decide) rfl ?_
                    cases h
                    exact wq_iretx F rfl rfl rfl (Nat.le_of_ble_eq_true rfl) (Nat.le_of_ble_eq_true rfl) dL_does_106
                  · replace h := wq_iff hn3 h
                    simp at h
          · replace h := wq_ift hc h
            refine wq_iconst (n := 1) F dL_does_75 rfl ?_
            refine wq_goto (tgt := 80) F dL_does_76 (by decide) ?_
            rcases wq_bh_some h with ⟨r5, S6, h1r5, h⟩ | ⟨n8, r5, S6, h1r5, h⟩
            · refine wq_callVn (As := [.int (wq_I x2), .int (wq_I x3), .int (wq_I 1)]) (b9 := 0) (mc := 2) (ms := 12) (n := 9) F K lk_L_50 (ct_X8_setIndex hlt h1r5) ⟨(Nat.le_of_ble_eq_true rfl), (Nat.le_of_ble_eq_true rfl)⟩ ⟨Nat.le_of_ble_eq_true rfl, Nat.le_of_ble_eq_true rfl⟩ (Nat.le_of_ble_eq_true rfl) rfl rfl rfl rfl (Nat.le_of_ble_eq_true rfl) dL_does_80 rfl ?_
              refine wq_if_eq (tgt := 90) F dL_does_83 (by decide) rfl (fun hc => ?_) (fun hc => ?_)
              · replace h := wq_ift hc h
                refine wq_iconst (n := 0) F dL_does_90 rfl ?_
                cases h
                exact wq_iretx F rfl rfl rfl (Nat.le_of_ble_eq_true rfl) (Nat.le_of_ble_eq_true rfl) dL_does_91
              · replace h := wq_iff hc h
                refine wq_iconst (n := 1) F dL_does_86 rfl ?_
                refine wq_goto (tgt := 91) F dL_does_87 (by decide) ?_
                cases h
                exact wq_iretx F rfl rfl rfl (Nat.le_of_ble_eq_true rfl) (Nat.le_of_ble_eq_true rfl) dL_does_91
            · by_cases hn1 : n8 + 1 = 1
              · replace h := wq_ift hn1 h
                obtain rfl : n8 = 0 := by omega
                refine wq_callVc (As := [.int (wq_I x2), .int (wq_I x3), .int (wq_I 1)]) (b9 := 0) (mc := 2) (ms := 12) (n := 9) (k := 0) F K lk_L_50 (ct_X8_setIndex hlt h1r5) ⟨(Nat.le_of_ble_eq_true rfl), (Nat.le_of_ble_eq_true rfl)⟩ ⟨Nat.le_of_ble_eq_true rfl, Nat.le_of_ble_eq_true rfl⟩ (Nat.le_of_ble_eq_true rfl) rfl rfl rfl rfl (Nat.le_of_ble_eq_true rfl) dL_does_80 (name := "java/lang/IndexOutOfBoundsException") rfl [] ⟨0, 91, 92, 14⟩ [⟨0, 91, 97, 16⟩, ⟨0, 91, 102, 18⟩] (htab.trans rfl) (fun _ h => absurd h List.not_mem_nil) (by decide) (by decide) aw_383 (List.mem_of_getElem? (i := 2) rfl) (fun q9 => ?_)
                refine wq_astore (L' := [some (.ref (b + 0)), some (.int (wq_I x1)), some (.int (wq_I x2)), some (.int (wq_I x3)), some (.ref q9)]) F dL_does_92 (by decide) rfl rfl rfl ?_
                refine wq_bipush (n := -8) F dL_does_94 (by decide) rfl ?_
                cases h
                exact wq_iretx F rfl rfl rfl (Nat.le_of_ble_eq_true rfl) (Nat.le_of_ble_eq_true rfl) dL_does_96
              · replace h := wq_iff hn1 h
                by_cases hn2 : n8 + 1 = 2
                · replace h := wq_ift hn2 h
                  obtain rfl : n8 = 1 := by omega
                  refine wq_callVc (As := [.int (wq_I x2), .int (wq_I x3), .int (wq_I 1)]) (b9 := 0) (mc := 2) (ms := 12) (n := 9) (k := 1) F K lk_L_50 (ct_X8_setIndex hlt h1r5) ⟨(Nat.le_of_ble_eq_true rfl), (Nat.le_of_ble_eq_true rfl)⟩ ⟨Nat.le_of_ble_eq_true rfl, Nat.le_of_ble_eq_true rfl⟩ (Nat.le_of_ble_eq_true rfl) rfl rfl rfl rfl (Nat.le_of_ble_eq_true rfl) dL_does_80 (name := "java/lang/IllegalArgumentException") rfl [⟨0, 91, 92, 14⟩] ⟨0, 91, 97, 16⟩ [⟨0, 91, 102, 18⟩] (htab.trans rfl) (List.forall_mem_cons.mpr ⟨⟨by decide, "java/lang/IndexOutOfBoundsException", aw_383, Kn.1⟩, fun _ h => absurd h List.not_mem_nil⟩) (by decide) (by decide) aw_384 (List.mem_of_getElem? (i := 0) rfl) (fun q9 => ?_)
                  refine wq_astore (L' := [some (.ref (b + 0)), some (.int (wq_I x1)), some (.int (wq_I x2)), some (.int (wq_I x3)), some (.ref q9)]) F dL_does_97 (by decide) rfl rfl rfl ?_
                  refine wq_bipush (n := -8) F dL_does_99 (by decide) rfl ?_
                  cases h
                  exact wq_iretx F rfl rfl rfl (Nat.le_of_ble_eq_true rfl) (Nat.le_of_ble_eq_true rfl) dL_does_101
                · replace h := wq_iff hn2 h
                  by_cases hn3 : n8 + 1 = 3
                  · replace h := wq_ift hn3 h
                    obtain rfl : n8 = 2 := by omega
                    refine wq_callVc (As := [.int (wq_I x2), .int (wq_I x3), .int (wq_I 1)]) (b9 := 0) (mc := 2) (ms := 12) (n := 9) (k := 2) F K lk_L_50 (ct_X8_setIndex hlt h1r5) ⟨(Nat.le_of_ble_eq_true rfl), (Nat.le_of_ble_eq_true rfl)⟩ ⟨Nat.le_of_ble_eq_true rfl, Nat.le_of_ble_eq_true rfl⟩ (Nat.le_of_ble_eq_true rfl) rfl rfl rfl rfl (Nat.le_of_ble_eq_true rfl) dL_does_80 (name := "java/lang/IllegalStateException") rfl [⟨0, 91, 92, 14⟩, ⟨0, 91, 97, 16⟩] ⟨0, 91, 102, 18⟩ [] (htab.trans rfl) (List.forall_mem_cons.mpr ⟨⟨by decide, "java/lang/IndexOutOfBoundsException", aw_383, Kn.2.1⟩, List.forall_mem_cons.mpr ⟨⟨by decide, "java/lang/IllegalArgumentException", aw_384, Kn.2.2⟩, fun _ h => absurd h List.not_mem_nil⟩⟩) (by decide) (by decide) aw_385 (List.mem_of_getElem? (i := 1) rfl) (fun q9 => ?_)
                    refine wq_astore (L' := [some (.ref (b + 0)), some (.int (wq_I x1)), some (.int (wq_I x2)), some (.int (wq_I x3)), some (.ref q9)]) F dL_does_102 (by decide) rfl rfl rfl ?_
                    refine wq_bipush (n := -8) F dL_does_104 (by decide) rfl ?_
                    cases h
                    exact wq_iretx F rfl rfl rfl (Nat.le_of_ble_eq_true rfl) (Nat.le_of_ble_eq_true rfl) dL_does_106
                  · replace h := wq_iff hn3 h
                    simp at h
        · replace h := wq_iff hc h
          refine wq_aload_n F dL_does_46 rfl rfl rfl ?_
          refine wq_iload_n F dL_does_47 rfl rfl rfl ?_
          refine wq_iload_n F dL_does_48 rfl rfl rfl ?_
          refine wq_iconst (n := 3) F dL_does_49 rfl ?_
          refine wq_icmp_ne (tgt := 57) F dL_does_50 (by decide) rfl (fun hc => ?_) (fun hc => ?_)
          · replace h := wq_iff hc h
            refine wq_iconst (n := 0) F dL_does_57 rfl ?_
            rcases wq_bh_some h with ⟨r9, S10, h1r9, h⟩ | ⟨n12, r9, S10, h1r9, h⟩
            · refine wq_callVn (As := [.int (wq_I x2), .int (wq_I 0)]) (b9 := 0) (mc := 1) (ms := 6) (n := 8) F K lk_L_46 (ct_X8_setDue hlt h1r9) ⟨(Nat.le_of_ble_eq_true rfl), (Nat.le_of_ble_eq_true rfl)⟩ ⟨Nat.le_of_ble_eq_true rfl, Nat.le_of_ble_eq_true rfl⟩ (Nat.le_of_ble_eq_true rfl) rfl rfl rfl rfl (Nat.le_of_ble_eq_true rfl) dL_does_58 rfl ?_
              refine wq_if_eq (tgt := 90) F dL_does_61 (by decide) rfl (fun hc => ?_) (fun hc => ?_)
              · replace h := wq_ift hc h
                refine wq_iconst (n := 0) F dL_does_90 rfl ?_
                cases h
                exact wq_iretx F rfl rfl rfl (Nat.le_of_ble_eq_true rfl) (Nat.le_of_ble_eq_true rfl) dL_does_91
              · replace h := wq_iff hc h
                refine wq_goto (tgt := 86) F dL_does_64 (by decide) ?_
                refine wq_iconst (n := 1) F dL_does_86 rfl ?_
                refine wq_goto (tgt := 91) F dL_does_87 (by decide) ?_
                cases h
                exact wq_iretx F rfl rfl rfl (Nat.le_of_ble_eq_true rfl) (Nat.le_of_ble_eq_true rfl) dL_does_91
            · by_cases hn1 : n12 + 1 = 1
              · replace h := wq_ift hn1 h
                obtain rfl : n12 = 0 := by omega
                refine wq_callVc (As := [.int (wq_I x2), .int (wq_I 0)]) (b9 := 0) (mc := 1) (ms := 6) (n := 8) (k := 0) F K lk_L_46 (ct_X8_setDue hlt h1r9) ⟨(Nat.le_of_ble_eq_true rfl), (Nat.le_of_ble_eq_true rfl)⟩ ⟨Nat.le_of_ble_eq_true rfl, Nat.le_of_ble_eq_true rfl⟩ (Nat.le_of_ble_eq_true rfl) rfl rfl rfl rfl (Nat.le_of_ble_eq_true rfl) dL_does_58 (name := "java/lang/IndexOutOfBoundsException") rfl [] ⟨0, 91, 92, 14⟩ [⟨0, 91, 97, 16⟩, ⟨0, 91, 102, 18⟩] (htab.trans rfl) (fun _ h => absurd h List.not_mem_nil) (by decide) (by decide) aw_383 (List.mem_of_getElem? (i := 2) rfl) (fun q9 => ?_)
                refine wq_astore (L' := [some (.ref (b + 0)), some (.int (wq_I x1)), some (.int (wq_I x2)), some (.int (wq_I x3)), some (.ref q9)]) F dL_does_92 (by decide) rfl rfl rfl ?_
                refine wq_bipush (n := -8) F dL_does_94 (by decide) rfl ?_
                cases h
                exact wq_iretx F rfl rfl rfl (Nat.le_of_ble_eq_true rfl) (Nat.le_of_ble_eq_true rfl) dL_does_96
              · replace h := wq_iff hn1 h
                by_cases hn2 : n12 + 1 = 2
                · replace h := wq_ift hn2 h
                  obtain rfl : n12 = 1 := by omega
                  refine wq_callVc (As := [.int (wq_I x2), .int (wq_I 0)]) (b9 := 0) (mc := 1) (ms := 6) (n := 8) (k := 1) F K lk_L_46 (ct_X8_setDue hlt h1r9) ⟨(Nat.le_of_ble_eq_true rfl), (Nat.le_of_ble_eq_true rfl)⟩ ⟨Nat.le_of_ble_eq_true rfl, Nat.le_of_ble_eq_true rfl⟩ (Nat.le_of_ble_eq_true rfl) rfl rfl rfl rfl (Nat.le_of_ble_eq_true rfl) dL_does_58 (name := "java/lang/IllegalArgumentException") rfl [⟨0, 91, 92, 14⟩] ⟨0, 91, 97, 16⟩ [⟨0, 91, 102, 18⟩] (htab.trans rfl) (List.forall_mem_cons.mpr ⟨⟨by decide, "java/lang/IndexOutOfBoundsException", aw_383, Kn.1⟩, fun _ h => absurd h List.not_mem_nil⟩) (by decide) (by decide) aw_384 (List.mem_of_getElem? (i := 0) rfl) (fun q9 => ?_)
                  refine wq_astore (L' := [some (.ref (b + 0)), some (.int (wq_I x1)), some (.int (wq_I x2)), some (.int (wq_I x3)), some (.ref q9)]) F dL_does_97 (by decide) rfl rfl rfl ?_
                  refine wq_bipush (n := -8) F dL_does_99 (by decide) rfl ?_
                  cases h
                  exact wq_iretx F rfl rfl rfl (Nat.le_of_ble_eq_true rfl) (Nat.le_of_ble_eq_true rfl) dL_does_101
                · replace h := wq_iff hn2 h
                  by_cases hn3 : n12 + 1 = 3
                  · replace h := wq_ift hn3 h
                    obtain rfl : n12 = 2 := by omega
                    refine wq_callVc (As := [.int (wq_I x2), .int (wq_I 0)]) (b9 := 0) (mc := 1) (ms := 6) (n := 8) (k := 2) F K lk_L_46 (ct_X8_setDue hlt h1r9) ⟨(Nat.le_of_ble_eq_true rfl), (Nat.le_of_ble_eq_true rfl)⟩ ⟨Nat.le_of_ble_eq_true rfl, Nat.le_of_ble_eq_true rfl⟩ (Nat.le_of_ble_eq_true rfl) rfl rfl rfl rfl (Nat.le_of_ble_eq_true rfl) dL_does_58 (name := "java/lang/IllegalStateException") rfl [⟨0, 91, 92, 14⟩, ⟨0, 91, 97, 16⟩] ⟨0, 91, 102, 18⟩ [] (htab.trans rfl) (List.forall_mem_cons.mpr ⟨⟨by decide, "java/lang/IndexOutOfBoundsException", aw_383, Kn.2.1⟩, List.forall_mem_cons.mpr ⟨⟨by decide, "java/lang/IllegalArgumentException", aw_384, Kn.2.2⟩, fun _ h => absurd h List.not_mem_nil⟩⟩) (by decide) (by decide) aw_385 (List.mem_of_getElem? (i := 1) rfl) (fun q9 => ?_)
                    refine wq_astore (L' := [some (.ref (b + 0)), some (.int (wq_I x1)), some (.int (wq_I x2)), some (.int (wq_I x3)), some (.ref q9)]) F dL_does_102 (by decide) rfl rfl rfl ?_
                    refine wq_bipush (n := -8) F dL_does_104 (by decide) rfl ?_
                    cases h
                    exact wq_iretx F rfl rfl rfl (Nat.le_of_ble_eq_true rfl) (Nat.le_of_ble_eq_true rfl) dL_does_106
                  · replace h := wq_iff hn3 h
                    simp at h
          · replace h := wq_ift hc h
            refine wq_iconst (n := 1) F dL_does_53 rfl ?_
            refine wq_goto (tgt := 58) F dL_does_54 (by decide) ?_
            rcases wq_bh_some h with ⟨r13, S14, h1r13, h⟩ | ⟨n16, r13, S14, h1r13, h⟩
            · refine wq_callVn (As := [.int (wq_I x2), .int (wq_I 1)]) (b9 := 0) (mc := 1) (ms := 6) (n := 8) F K lk_L_46 (ct_X8_setDue hlt h1r13) ⟨(Nat.le_of_ble_eq_true rfl), (Nat.le_of_ble_eq_true rfl)⟩ ⟨Nat.le_of_ble_eq_true rfl, Nat.le_of_ble_eq_true rfl⟩ (Nat.le_of_ble_eq_true rfl) rfl rfl rfl rfl (Nat.le_of_ble_eq_true rfl) dL_does_58 rfl ?_
              refine wq_if_eq (tgt := 90) F dL_does_61 (by decide) rfl (fun hc => ?_) (fun hc => ?_)
              · replace h := wq_ift hc h
                refine wq_iconst (n := 0) F dL_does_90 rfl ?_
                cases h
                exact wq_iretx F rfl rfl rfl (Nat.le_of_ble_eq_true rfl) (Nat.le_of_ble_eq_true rfl) dL_does_91
              · replace h := wq_iff hc h
                refine wq_goto (tgt := 86) F dL_does_64 (by decide) ?_
                refine wq_iconst (n := 1) F dL_does_86 rfl ?_
                refine wq_goto (tgt := 91) F dL_does_87 (by decide) ?_
                cases h
                exact wq_iretx F rfl rfl rfl (Nat.le_of_ble_eq_true rfl) (Nat.le_of_ble_eq_true rfl) dL_does_91
            · by_cases hn1 : n16 + 1 = 1
              · replace h := wq_ift hn1 h
                obtain rfl : n16 = 0 := by omega
                refine wq_callVc (As := [.int (wq_I x2), .int (wq_I 1)]) (b9 := 0) (mc := 1) (ms := 6) (n := 8) (k := 0) F K lk_L_46 (ct_X8_setDue hlt h1r13) ⟨(Nat.le_of_ble_eq_true rfl), (Nat.le_of_ble_eq_true rfl)⟩ ⟨Nat.le_of_ble_eq_true rfl, Nat.le_of_ble_eq_true rfl⟩ (Nat.le_of_ble_eq_true rfl) rfl rfl rfl rfl (Nat.le_of_ble_eq_true rfl) dL_does_58 (name := "java/lang/IndexOutOfBoundsException") rfl [] ⟨0, 91, 92, 14⟩ [⟨0, 91, 97, 16⟩, ⟨0, 91, 102, 18⟩] (htab.trans rfl) (fun _ h => absurd h List.not_mem_nil) (by decide) (by decide) aw_383 (List.mem_of_getElem? (i := 2) rfl) (fun q9 => ?_)
                refine wq_astore (L' := [some (.ref (b + 0)), some (.int (wq_I x1)), some (.int (wq_I x2)), some (.int (wq_I x3)), some (.ref q9)]) F dL_does_92 (by decide) rfl rfl rfl ?_
                refine wq_bipush (n := -8) F dL_does_94 (by decide) rfl ?_
                cases h
                exact wq_iretx F rfl rfl rfl (Nat.le_of_ble_eq_true rfl) (Nat.le_of_ble_eq_true rfl) dL_does_96
              · replace h := wq_iff hn1 h
                by_cases hn2 : n16 + 1 = 2
                · replace h := wq_ift hn2 h
                  obtain rfl : n16 = 1 := by omega
                  refine wq_callVc (As := [.int (wq_I x2), .int (wq_I 1)]) (b9 := 0) (mc := 1) (ms := 6) (n := 8) (k := 1) F K lk_L_46 (ct_X8_setDue hlt h1r13) ⟨(Nat.le_of_ble_eq_true rfl), (Nat.le_of_ble_eq_true rfl)⟩ ⟨Nat.le_of_ble_eq_true rfl, Nat.le_of_ble_eq_true rfl⟩ (Nat.le_of_ble_eq_true rfl) rfl rfl rfl rfl (Nat.le_of_ble_eq_true rfl) dL_does_58 (name := "java/lang/IllegalArgumentException") rfl [⟨0, 91, 92, 14⟩] ⟨0, 91, 97, 16⟩ [⟨0, 91, 102, 18⟩] (htab.trans rfl) (List.forall_mem_cons.mpr ⟨⟨by decide, "java/lang/IndexOutOfBoundsException", aw_383, Kn.1⟩, fun _ h => absurd h List.not_mem_nil⟩) (by decide) (by decide) aw_384 (List.mem_of_getElem? (i := 0) rfl) (fun q9 => ?_)
                  refine wq_astore (L' := [some (.ref (b + 0)), some (.int (wq_I x1)), some (.int (wq_I x2)), some (.int (wq_I x3)), some (.ref q9)]) F dL_does_97 (by decide) rfl rfl rfl ?_
                  refine wq_bipush (n := -8) F dL_does_99 (by decide) rfl ?_
                  cases h
                  exact wq_iretx F rfl rfl rfl (Nat.le_of_ble_eq_true rfl) (Nat.le_of_ble_eq_true rfl) dL_does_101
                · replace h := wq_iff hn2 h
                  by_cases hn3 : n16 + 1 = 3
                  · replace h := wq_ift hn3 h
                    obtain rfl : n16 = 2 := by omega
                    refine wq_callVc (As := [.int (wq_I x2), .int (wq_I 1)]) (b9 := 0) (mc := 1) (ms := 6) (n := 8) (k := 2) F K lk_L_46 (ct_X8_setDue hlt h1r13) ⟨(Nat.le_of_ble_eq_true rfl), (Nat.le_of_ble_eq_true rfl)⟩ ⟨Nat.le_of_ble_eq_true rfl, Nat.le_of_ble_eq_true rfl⟩ (Nat.le_of_ble_eq_true rfl) rfl rfl rfl rfl (Nat.le_of_ble_eq_true rfl) dL_does_58 (name := "java/lang/IllegalStateException") rfl [⟨0, 91, 92, 14⟩, ⟨0, 91, 97, 16⟩] ⟨0, 91, 102, 18⟩ [] (htab.trans rfl) (List.forall_mem_cons.mpr ⟨⟨by decide, "java/lang/IndexOutOfBoundsException", aw_383, Kn.2.1⟩, List.forall_mem_cons.mpr ⟨⟨by decide, "java/lang/IllegalArgumentException", aw_384, Kn.2.2⟩, fun _ h => absurd h List.not_mem_nil⟩⟩) (by decide) (by decide) aw_385 (List.mem_of_getElem? (i := 1) rfl) (fun q9 => ?_)
                    refine wq_astore (L' := [some (.ref (b + 0)), some (.int (wq_I x1)), some (.int (wq_I x2)), some (.int (wq_I x3)), some (.ref q9)]) F dL_does_102 (by decide) rfl rfl rfl ?_
                    refine wq_bipush (n := -8) F dL_does_104 (by decide) rfl ?_
                    cases h
                    exact wq_iretx F rfl rfl rfl (Nat.le_of_ble_eq_true rfl) (Nat.le_of_ble_eq_true rfl) dL_does_106
                  · replace h := wq_iff hn3 h
                    simp at h
      · replace h := wq_ift hc h
        refine wq_aload_n F dL_does_32 rfl rfl rfl ?_
        refine wq_iload_n F dL_does_33 rfl rfl rfl ?_
        refine wq_iload_n F dL_does_34 rfl rfl rfl ?_
        rcases wq_bh_some h with ⟨r17, S18, h1r17, h⟩ | ⟨n20, r17, S18, h1r17, h⟩
        · refine wq_callVn (As := [.int (wq_I x2), .int (wq_I x3)]) (b9 := 0) (mc := 3) (ms := 18) (n := 8) F K lk_L_43 (ct_X8_addSource hlt h1r17) ⟨(Nat.le_of_ble_eq_true rfl), (Nat.le_of_ble_eq_true rfl)⟩ ⟨Nat.le_of_ble_eq_true rfl, Nat.le_of_ble_eq_true rfl⟩ (Nat.le_of_ble_eq_true rfl) rfl rfl rfl rfl (Nat.le_of_ble_eq_true rfl) dL_does_35 rfl ?_
          refine wq_goto (tgt := 91) F dL_does_38 (by decide) ?_
          cases h
          exact wq_iretx F rfl rfl rfl (Nat.le_of_ble_eq_true rfl) (Nat.le_of_ble_eq_true rfl) dL_does_91
        · by_cases hn1 : n20 + 1 = 1
          · replace h := wq_ift hn1 h
            obtain rfl : n20 = 0 := by omega
            refine wq_callVc (As := [.int (wq_I x2), .int (wq_I x3)]) (b9 := 0) (mc := 3) (ms := 18) (n := 8) (k := 0) F K lk_L_43 (ct_X8_addSource hlt h1r17) ⟨(Nat.le_of_ble_eq_true rfl), (Nat.le_of_ble_eq_true rfl)⟩ ⟨Nat.le_of_ble_eq_true rfl, Nat.le_of_ble_eq_true rfl⟩ (Nat.le_of_ble_eq_true rfl) rfl rfl rfl rfl (Nat.le_of_ble_eq_true rfl) dL_does_35 (name := "java/lang/IndexOutOfBoundsException") rfl [] ⟨0, 91, 92, 14⟩ [⟨0, 91, 97, 16⟩, ⟨0, 91, 102, 18⟩] (htab.trans rfl) (fun _ h => absurd h List.not_mem_nil) (by decide) (by decide) aw_383 (List.mem_of_getElem? (i := 2) rfl) (fun q9 => ?_)
            refine wq_astore (L' := [some (.ref (b + 0)), some (.int (wq_I x1)), some (.int (wq_I x2)), some (.int (wq_I x3)), some (.ref q9)]) F dL_does_92 (by decide) rfl rfl rfl ?_
            refine wq_bipush (n := -8) F dL_does_94 (by decide) rfl ?_
            cases h
            exact wq_iretx F rfl rfl rfl (Nat.le_of_ble_eq_true rfl) (Nat.le_of_ble_eq_true rfl) dL_does_96
          · replace h := wq_iff hn1 h
            by_cases hn2 : n20 + 1 = 2
            · replace h := wq_ift hn2 h
              obtain rfl : n20 = 1 := by omega
              refine wq_callVc (As := [.int (wq_I x2), .int (wq_I x3)]) (b9 := 0) (mc := 3) (ms := 18) (n := 8) (k := 1) F K lk_L_43 (ct_X8_addSource hlt h1r17) ⟨(Nat.le_of_ble_eq_true rfl), (Nat.le_of_ble_eq_true rfl)⟩ ⟨Nat.le_of_ble_eq_true rfl, Nat.le_of_ble_eq_true rfl⟩ (Nat.le_of_ble_eq_true rfl) rfl rfl rfl rfl (Nat.le_of_ble_eq_true rfl) dL_does_35 (name := "java/lang/IllegalArgumentException") rfl [⟨0, 91, 92, 14⟩] ⟨0, 91, 97, 16⟩ [⟨0, 91, 102, 18⟩] (htab.trans rfl) (List.forall_mem_cons.mpr ⟨⟨by decide, "java/lang/IndexOutOfBoundsException", aw_383, Kn.1⟩, fun _ h => absurd h List.not_mem_nil⟩) (by decide) (by decide) aw_384 (List.mem_of_getElem? (i := 0) rfl) (fun q9 => ?_)
              refine wq_astore (L' := [some (.ref (b + 0)), some (.int (wq_I x1)), some (.int (wq_I x2)), some (.int (wq_I x3)), some (.ref q9)]) F dL_does_97 (by decide) rfl rfl rfl ?_
              refine wq_bipush (n := -8) F dL_does_99 (by decide) rfl ?_
              cases h
              exact wq_iretx F rfl rfl rfl (Nat.le_of_ble_eq_true rfl) (Nat.le_of_ble_eq_true rfl) dL_does_101
            · replace h := wq_iff hn2 h
              by_cases hn3 : n20 + 1 = 3
              · replace h := wq_ift hn3 h
                obtain rfl : n20 = 2 := by omega
                refine wq_callVc (As := [.int (wq_I x2), .int (wq_I x3)]) (b9 := 0) (mc := 3) (ms := 18) (n := 8) (k := 2) F K lk_L_43 (ct_X8_addSource hlt h1r17) ⟨(Nat.le_of_ble_eq_true rfl), (Nat.le_of_ble_eq_true rfl)⟩ ⟨Nat.le_of_ble_eq_true rfl, Nat.le_of_ble_eq_true rfl⟩ (Nat.le_of_ble_eq_true rfl) rfl rfl rfl rfl (Nat.le_of_ble_eq_true rfl) dL_does_35 (name := "java/lang/IllegalStateException") rfl [⟨0, 91, 92, 14⟩, ⟨0, 91, 97, 16⟩] ⟨0, 91, 102, 18⟩ [] (htab.trans rfl) (List.forall_mem_cons.mpr ⟨⟨by decide, "java/lang/IndexOutOfBoundsException", aw_383, Kn.2.1⟩, List.forall_mem_cons.mpr ⟨⟨by decide, "java/lang/IllegalArgumentException", aw_384, Kn.2.2⟩, fun _ h => absurd h List.not_mem_nil⟩⟩) (by decide) (by decide) aw_385 (List.mem_of_getElem? (i := 1) rfl) (fun q9 => ?_)
                refine wq_astore (L' := [some (.ref (b + 0)), some (.int (wq_I x1)), some (.int (wq_I x2)), some (.int (wq_I x3)), some (.ref q9)]) F dL_does_102 (by decide) rfl rfl rfl ?_
                refine wq_bipush (n := -8) F dL_does_104 (by decide) rfl ?_
                cases h
                exact wq_iretx F rfl rfl rfl (Nat.le_of_ble_eq_true rfl) (Nat.le_of_ble_eq_true rfl) dL_does_106
              · replace h := wq_iff hn3 h
                simp at h
    · replace h := wq_ift hc h
      refine wq_aload_n F dL_does_18 rfl rfl rfl ?_
      refine wq_iload_n F dL_does_19 rfl rfl rfl ?_
      refine wq_iload_n F dL_does_20 rfl rfl rfl ?_
      rcases wq_bh_some h with ⟨r21, S22, h1r21, h⟩ | ⟨n24, r21, S22, h1r21, h⟩
      · refine wq_callVn (As := [.int (wq_I x2), .int (wq_I x3)]) (b9 := 0) (mc := 2) (ms := 12) (n := 8) F K lk_L_40 (ct_X8_renew hlt h1r21) ⟨(Nat.le_of_ble_eq_true rfl), (Nat.le_of_ble_eq_true rfl)⟩ ⟨Nat.le_of_ble_eq_true rfl, Nat.le_of_ble_eq_true rfl⟩ (Nat.le_of_ble_eq_true rfl) rfl rfl rfl rfl (Nat.le_of_ble_eq_true rfl) dL_does_21 rfl ?_
        refine wq_goto (tgt := 91) F dL_does_24 (by decide) ?_
        cases h
        exact wq_iretx F rfl rfl rfl (Nat.le_of_ble_eq_true rfl) (Nat.le_of_ble_eq_true rfl) dL_does_91
      · by_cases hn1 : n24 + 1 = 1
        · replace h := wq_ift hn1 h
          obtain rfl : n24 = 0 := by omega
          refine wq_callVc (As := [.int (wq_I x2), .int (wq_I x3)]) (b9 := 0) (mc := 2) (ms := 12) (n := 8) (k := 0) F K lk_L_40 (ct_X8_renew hlt h1r21) ⟨(Nat.le_of_ble_eq_true rfl), (Nat.le_of_ble_eq_true rfl)⟩ ⟨Nat.le_of_ble_eq_true rfl, Nat.le_of_ble_eq_true rfl⟩ (Nat.le_of_ble_eq_true rfl) rfl rfl rfl rfl (Nat.le_of_ble_eq_true rfl) dL_does_21 (name := "java/lang/IndexOutOfBoundsException") rfl [] ⟨0, 91, 92, 14⟩ [⟨0, 91, 97, 16⟩, ⟨0, 91, 102, 18⟩] (htab.trans rfl) (fun _ h => absurd h List.not_mem_nil) (by decide) (by decide) aw_383 (List.mem_of_getElem? (i := 2) rfl) (fun q9 => ?_)
          refine wq_astore (L' := [some (.ref (b + 0)), some (.int (wq_I x1)), some (.int (wq_I x2)), some (.int (wq_I x3)), some (.ref q9)]) F dL_does_92 (by decide) rfl rfl rfl ?_
          refine wq_bipush (n := -8) F dL_does_94 (by decide) rfl ?_
          cases h
          exact wq_iretx F rfl rfl rfl (Nat.le_of_ble_eq_true rfl) (Nat.le_of_ble_eq_true rfl) dL_does_96
        · replace h := wq_iff hn1 h
          by_cases hn2 : n24 + 1 = 2
          · replace h := wq_ift hn2 h
            obtain rfl : n24 = 1 := by omega
            refine wq_callVc (As := [.int (wq_I x2), .int (wq_I x3)]) (b9 := 0) (mc := 2) (ms := 12) (n := 8) (k := 1) F K lk_L_40 (ct_X8_renew hlt h1r21) ⟨(Nat.le_of_ble_eq_true rfl), (Nat.le_of_ble_eq_true rfl)⟩ ⟨Nat.le_of_ble_eq_true rfl, Nat.le_of_ble_eq_true rfl⟩ (Nat.le_of_ble_eq_true rfl) rfl rfl rfl rfl (Nat.le_of_ble_eq_true rfl) dL_does_21 (name := "java/lang/IllegalArgumentException") rfl [⟨0, 91, 92, 14⟩] ⟨0, 91, 97, 16⟩ [⟨0, 91, 102, 18⟩] (htab.trans rfl) (List.forall_mem_cons.mpr ⟨⟨by decide, "java/lang/IndexOutOfBoundsException", aw_383, Kn.1⟩, fun _ h => absurd h List.not_mem_nil⟩) (by decide) (by decide) aw_384 (List.mem_of_getElem? (i := 0) rfl) (fun q9 => ?_)
            refine wq_astore (L' := [some (.ref (b + 0)), some (.int (wq_I x1)), some (.int (wq_I x2)), some (.int (wq_I x3)), some (.ref q9)]) F dL_does_97 (by decide) rfl rfl rfl ?_
            refine wq_bipush (n := -8) F dL_does_99 (by decide) rfl ?_
            cases h
            exact wq_iretx F rfl rfl rfl (Nat.le_of_ble_eq_true rfl) (Nat.le_of_ble_eq_true rfl) dL_does_101
          · replace h := wq_iff hn2 h
            by_cases hn3 : n24 + 1 = 3
            · replace h := wq_ift hn3 h
              obtain rfl : n24 = 2 := by omega
              refine wq_callVc (As := [.int (wq_I x2), .int (wq_I x3)]) (b9 := 0) (mc := 2) (ms := 12) (n := 8) (k := 2) F K lk_L_40 (ct_X8_renew hlt h1r21) ⟨(Nat.le_of_ble_eq_true rfl), (Nat.le_of_ble_eq_true rfl)⟩ ⟨Nat.le_of_ble_eq_true rfl, Nat.le_of_ble_eq_true rfl⟩ (Nat.le_of_ble_eq_true rfl) rfl rfl rfl rfl (Nat.le_of_ble_eq_true rfl) dL_does_21 (name := "java/lang/IllegalStateException") rfl [⟨0, 91, 92, 14⟩, ⟨0, 91, 97, 16⟩] ⟨0, 91, 102, 18⟩ [] (htab.trans rfl) (List.forall_mem_cons.mpr ⟨⟨by decide, "java/lang/IndexOutOfBoundsException", aw_383, Kn.2.1⟩, List.forall_mem_cons.mpr ⟨⟨by decide, "java/lang/IllegalArgumentException", aw_384, Kn.2.2⟩, fun _ h => absurd h List.not_mem_nil⟩⟩) (by decide) (by decide) aw_385 (List.mem_of_getElem? (i := 1) rfl) (fun q9 => ?_)
              refine wq_astore (L' := [some (.ref (b + 0)), some (.int (wq_I x1)), some (.int (wq_I x2)), some (.int (wq_I x3)), some (.ref q9)]) F dL_does_102 (by decide) rfl rfl rfl ?_
              refine wq_bipush (n := -8) F dL_does_104 (by decide) rfl ?_
              cases h
              exact wq_iretx F rfl rfl rfl (Nat.le_of_ble_eq_true rfl) (Nat.le_of_ble_eq_true rfl) dL_does_106
            · replace h := wq_iff hn3 h
              simp at h
  · replace h := wq_ift hc h
    refine wq_aload_n F dL_does_4 rfl rfl rfl ?_
    refine wq_iload_n F dL_does_5 rfl rfl rfl ?_
    refine wq_iload_n F dL_does_6 rfl rfl rfl ?_
    rcases wq_bh_some h with ⟨r25, S26, h1r25, h⟩ | ⟨n28, r25, S26, h1r25, h⟩
    · refine wq_callVn (As := [.int (wq_I x2), .int (wq_I x3)]) (b9 := 0) (mc := 2) (ms := 12) (n := 8) F K lk_L_36 (ct_X8_delete hlt h1r25) ⟨(Nat.le_of_ble_eq_true rfl), (Nat.le_of_ble_eq_true rfl)⟩ ⟨Nat.le_of_ble_eq_true rfl, Nat.le_of_ble_eq_true rfl⟩ (Nat.le_of_ble_eq_true rfl) rfl rfl rfl rfl (Nat.le_of_ble_eq_true rfl) dL_does_7 rfl ?_
      refine wq_goto (tgt := 91) F dL_does_10 (by decide) ?_
      cases h
      exact wq_iretx F rfl rfl rfl (Nat.le_of_ble_eq_true rfl) (Nat.le_of_ble_eq_true rfl) dL_does_91
    · by_cases hn1 : n28 + 1 = 1
      · replace h := wq_ift hn1 h
        obtain rfl : n28 = 0 := by omega
        refine wq_callVc (As := [.int (wq_I x2), .int (wq_I x3)]) (b9 := 0) (mc := 2) (ms := 12) (n := 8) (k := 0) F K lk_L_36 (ct_X8_delete hlt h1r25) ⟨(Nat.le_of_ble_eq_true rfl), (Nat.le_of_ble_eq_true rfl)⟩ ⟨Nat.le_of_ble_eq_true rfl, Nat.le_of_ble_eq_true rfl⟩ (Nat.le_of_ble_eq_true rfl) rfl rfl rfl rfl (Nat.le_of_ble_eq_true rfl) dL_does_7 (name := "java/lang/IndexOutOfBoundsException") rfl [] ⟨0, 91, 92, 14⟩ [⟨0, 91, 97, 16⟩, ⟨0, 91, 102, 18⟩] (htab.trans rfl) (fun _ h => absurd h List.not_mem_nil) (by decide) (by decide) aw_383 (List.mem_of_getElem? (i := 2) rfl) (fun q9 => ?_)
        refine wq_astore (L' := [some (.ref (b + 0)), some (.int (wq_I x1)), some (.int (wq_I x2)), some (.int (wq_I x3)), some (.ref q9)]) F dL_does_92 (by decide) rfl rfl rfl ?_
        refine wq_bipush (n := -8) F dL_does_94 (by decide) rfl ?_
        cases h
        exact wq_iretx F rfl rfl rfl (Nat.le_of_ble_eq_true rfl) (Nat.le_of_ble_eq_true rfl) dL_does_96
      · replace h := wq_iff hn1 h
        by_cases hn2 : n28 + 1 = 2
        · replace h := wq_ift hn2 h
          obtain rfl : n28 = 1 := by omega
          refine wq_callVc (As := [.int (wq_I x2), .int (wq_I x3)]) (b9 := 0) (mc := 2) (ms := 12) (n := 8) (k := 1) F K lk_L_36 (ct_X8_delete hlt h1r25) ⟨(Nat.le_of_ble_eq_true rfl), (Nat.le_of_ble_eq_true rfl)⟩ ⟨Nat.le_of_ble_eq_true rfl, Nat.le_of_ble_eq_true rfl⟩ (Nat.le_of_ble_eq_true rfl) rfl rfl rfl rfl (Nat.le_of_ble_eq_true rfl) dL_does_7 (name := "java/lang/IllegalArgumentException") rfl [⟨0, 91, 92, 14⟩] ⟨0, 91, 97, 16⟩ [⟨0, 91, 102, 18⟩] (htab.trans rfl) (List.forall_mem_cons.mpr ⟨⟨by decide, "java/lang/IndexOutOfBoundsException", aw_383, Kn.1⟩, fun _ h => absurd h List.not_mem_nil⟩) (by decide) (by decide) aw_384 (List.mem_of_getElem? (i := 0) rfl) (fun q9 => ?_)
          refine wq_astore (L' := [some (.ref (b + 0)), some (.int (wq_I x1)), some (.int (wq_I x2)), some (.int (wq_I x3)), some (.ref q9)]) F dL_does_97 (by decide) rfl rfl rfl ?_
          refine wq_bipush (n := -8) F dL_does_99 (by decide) rfl ?_
          cases h
          exact wq_iretx F rfl rfl rfl (Nat.le_of_ble_eq_true rfl) (Nat.le_of_ble_eq_true rfl) dL_does_101
        · replace h := wq_iff hn2 h
          by_cases hn3 : n28 + 1 = 3
          · replace h := wq_ift hn3 h
            obtain rfl : n28 = 2 := by omega
            refine wq_callVc (As := [.int (wq_I x2), .int (wq_I x3)]) (b9 := 0) (mc := 2) (ms := 12) (n := 8) (k := 2) F K lk_L_36 (ct_X8_delete hlt h1r25) ⟨(Nat.le_of_ble_eq_true rfl), (Nat.le_of_ble_eq_true rfl)⟩ ⟨Nat.le_of_ble_eq_true rfl, Nat.le_of_ble_eq_true rfl⟩ (Nat.le_of_ble_eq_true rfl) rfl rfl rfl rfl (Nat.le_of_ble_eq_true rfl) dL_does_7 (name := "java/lang/IllegalStateException") rfl [⟨0, 91, 92, 14⟩, ⟨0, 91, 97, 16⟩] ⟨0, 91, 102, 18⟩ [] (htab.trans rfl) (List.forall_mem_cons.mpr ⟨⟨by decide, "java/lang/IndexOutOfBoundsException", aw_383, Kn.2.1⟩, List.forall_mem_cons.mpr ⟨⟨by decide, "java/lang/IllegalArgumentException", aw_384, Kn.2.2⟩, fun _ h => absurd h List.not_mem_nil⟩⟩) (by decide) (by decide) aw_385 (List.mem_of_getElem? (i := 1) rfl) (fun q9 => ?_)
            refine wq_astore (L' := [some (.ref (b + 0)), some (.int (wq_I x1)), some (.int (wq_I x2)), some (.int (wq_I x3)), some (.ref q9)]) F dL_does_102 (by decide) rfl rfl rfl ?_
            refine wq_bipush (n := -8) F dL_does_104 (by decide) rfl ?_
            cases h
            exact wq_iretx F rfl rfl rfl (Nat.le_of_ble_eq_true rfl) (Nat.le_of_ble_eq_true rfl) dL_does_106
          · replace h := wq_iff hn3 h
            simp at h
set_option maxHeartbeats 4000000 in
set_option maxRecDepth 100000 in
theorem ct_L_ask {l : Launch} (hlt : l.stackTraces = false) {D : va_G} {Ar : Nat → ClassId} {b : Nat} {x1 : Int} {x2 : Int} {x3 : Int} {x4 : Int} {x5 : Int} {x6 : Int} {S S0 : wq_St} {r0 : Int} (h : f_L_ask x1 x2 x3 x4 x5 x6 S = some (r0, S0)) : wq_Cw l yL_ask (.codeWith yL_ask cL_ask 8 ((Option.some Jvm.ClassFile.FieldType.int)) [(0, 31, 32, 14), (0, 31, 37, 16), (0, 31, 42, 18)]) 10 7 42 D Ar (wq_EC Ar b) b 284 [.ref (b + 0), .int (wq_I x1), .int (wq_I x2), .int (wq_I x3), .int (wq_I x4), .int (wq_I x5), .int (wq_I x6)] S (some (.int (wq_I r0))) S0 := by
  refine wq_startw "WharfQueryLaw" [some (.ref (b + 0)), some (.int (wq_I x1)), some (.int (wq_I x2)), some (.int (wq_I x3)), some (.int (wq_I x4)), some (.int (wq_I x5)), some (.int (wq_I x6)), none] (by decide +kernel) rfl (Nat.le_of_ble_eq_true rfl) rfl ?_
  intro p e s m args below meth c F K Kn htab
  unfold f_L_ask at h
  refine wq_iload F dL_ask_0 rfl rfl ?_
  refine wq_iconst (n := 3) F dL_ask_2 rfl ?_
  refine wq_icmp_ne (tgt := 20) F dL_ask_3 (by decide) rfl (fun hc => ?_) (fun hc => ?_)
  · replace h := wq_iff hc h
    refine wq_aload_n F dL_ask_20 rfl rfl rfl ?_
    refine wq_iload_n F dL_ask_21 rfl rfl rfl ?_
    refine wq_iload_n F dL_ask_22 rfl rfl rfl ?_
    refine wq_iload_n F dL_ask_23 rfl rfl rfl ?_
    refine wq_iload F dL_ask_24 rfl rfl ?_
    refine wq_iload F dL_ask_26 rfl rfl ?_
    rcases wq_bh_some h with ⟨r1, S2, h1r1, h⟩ | ⟨n4, r1, S2, h1r1, h⟩
    · refine wq_callVn (As := [.int (wq_I x1), .int (wq_I x2), .int (wq_I x3), .int (wq_I x4), .int (wq_I x5)]) (b9 := 0) (mc := 5) (ms := 30) (n := 9) F K lk_L_58 (ct_X8_addCondition hlt h1r1) ⟨(Nat.le_of_ble_eq_true rfl), (Nat.le_of_ble_eq_true rfl)⟩ ⟨Nat.le_of_ble_eq_true rfl, Nat.le_of_ble_eq_true rfl⟩ (Nat.le_of_ble_eq_true rfl) rfl rfl rfl rfl (Nat.le_of_ble_eq_true rfl) dL_ask_28 rfl ?_
      cases h
      exact wq_iretx F rfl rfl rfl (Nat.le_of_ble_eq_true rfl) (Nat.le_of_ble_eq_true rfl) dL_ask_31
    · by_cases hn1 : n4 + 1 = 1
      · replace h := wq_ift hn1 h
        obtain rfl : n4 = 0 := by omega
        refine wq_callVc (As := [.int (wq_I x1), .int (wq_I x2), .int (wq_I x3), .int (wq_I x4), .int (wq_I x5)]) (b9 := 0) (mc := 5) (ms := 30) (n := 9) (k := 0) F K lk_L_58 (ct_X8_addCondition hlt h1r1) ⟨(Nat.le_of_ble_eq_true rfl), (Nat.le_of_ble_eq_true rfl)⟩ ⟨Nat.le_of_ble_eq_true rfl, Nat.le_of_ble_eq_true rfl⟩ (Nat.le_of_ble_eq_true rfl) rfl rfl rfl rfl (Nat.le_of_ble_eq_true rfl) dL_ask_28 (name := "java/lang/IndexOutOfBoundsException") rfl [] ⟨0, 31, 32, 14⟩ [⟨0, 31, 37, 16⟩, ⟨0, 31, 42, 18⟩] (htab.trans rfl) (fun _ h => absurd h List.not_mem_nil) (by decide) (by decide) aw_383 (List.mem_of_getElem? (i := 2) rfl) (fun q9 => ?_)
        refine wq_astore (L' := [some (.ref (b + 0)), some (.int (wq_I x1)), some (.int (wq_I x2)), some (.int (wq_I x3)), some (.int (wq_I x4)), some (.int (wq_I x5)), some (.int (wq_I x6)), some (.ref q9)]) F dL_ask_32 (by decide) rfl rfl rfl ?_
        refine wq_bipush (n := -8) F dL_ask_34 (by decide) rfl ?_
        cases h
        exact wq_iretx F rfl rfl rfl (Nat.le_of_ble_eq_true rfl) (Nat.le_of_ble_eq_true rfl) dL_ask_36
      · replace h := wq_iff hn1 h
        by_cases hn2 : n4 + 1 = 2
        · replace h := wq_ift hn2 h
          obtain rfl : n4 = 1 := by omega
          refine wq_callVc (As := [.int (wq_I x1), .int (wq_I x2), .int (wq_I x3), .int (wq_I x4), .int (wq_I x5)]) (b9 := 0) (mc := 5) (ms := 30) (n := 9) (k := 1) F K lk_L_58 (ct_X8_addCondition hlt h1r1) ⟨(Nat.le_of_ble_eq_true rfl), (Nat.le_of_ble_eq_true rfl)⟩ ⟨Nat.le_of_ble_eq_true rfl, Nat.le_of_ble_eq_true rfl⟩ (Nat.le_of_ble_eq_true rfl) rfl rfl rfl rfl (Nat.le_of_ble_eq_true rfl) dL_ask_28 (name := "java/lang/IllegalArgumentException") rfl [⟨0, 31, 32, 14⟩] ⟨0, 31, 37, 16⟩ [⟨0, 31, 42, 18⟩] (htab.trans rfl) (List.forall_mem_cons.mpr ⟨⟨by decide, "java/lang/IndexOutOfBoundsException", aw_383, Kn.1⟩, fun _ h => absurd h List.not_mem_nil⟩) (by decide) (by decide) aw_384 (List.mem_of_getElem? (i := 0) rfl) (fun q9 => ?_)
          refine wq_astore (L' := [some (.ref (b + 0)), some (.int (wq_I x1)), some (.int (wq_I x2)), some (.int (wq_I x3)), some (.int (wq_I x4)), some (.int (wq_I x5)), some (.int (wq_I x6)), some (.ref q9)]) F dL_ask_37 (by decide) rfl rfl rfl ?_
          refine wq_bipush (n := -8) F dL_ask_39 (by decide) rfl ?_
          cases h
          exact wq_iretx F rfl rfl rfl (Nat.le_of_ble_eq_true rfl) (Nat.le_of_ble_eq_true rfl) dL_ask_41
        · replace h := wq_iff hn2 h
          by_cases hn3 : n4 + 1 = 3
          · replace h := wq_ift hn3 h
            obtain rfl : n4 = 2 := by omega
            refine wq_callVc (As := [.int (wq_I x1), .int (wq_I x2), .int (wq_I x3), .int (wq_I x4), .int (wq_I x5)]) (b9 := 0) (mc := 5) (ms := 30) (n := 9) (k := 2) F K lk_L_58 (ct_X8_addCondition hlt h1r1) ⟨(Nat.le_of_ble_eq_true rfl), (Nat.le_of_ble_eq_true rfl)⟩ ⟨Nat.le_of_ble_eq_true rfl, Nat.le_of_ble_eq_true rfl⟩ (Nat.le_of_ble_eq_true rfl) rfl rfl rfl rfl (Nat.le_of_ble_eq_true rfl) dL_ask_28 (name := "java/lang/IllegalStateException") rfl [⟨0, 31, 32, 14⟩, ⟨0, 31, 37, 16⟩] ⟨0, 31, 42, 18⟩ [] (htab.trans rfl) (List.forall_mem_cons.mpr ⟨⟨by decide, "java/lang/IndexOutOfBoundsException", aw_383, Kn.2.1⟩, List.forall_mem_cons.mpr ⟨⟨by decide, "java/lang/IllegalArgumentException", aw_384, Kn.2.2⟩, fun _ h => absurd h List.not_mem_nil⟩⟩) (by decide) (by decide) aw_385 (List.mem_of_getElem? (i := 1) rfl) (fun q9 => ?_)
            refine wq_astore (L' := [some (.ref (b + 0)), some (.int (wq_I x1)), some (.int (wq_I x2)), some (.int (wq_I x3)), some (.int (wq_I x4)), some (.int (wq_I x5)), some (.int (wq_I x6)), some (.ref q9)]) F dL_ask_42 (by decide) rfl rfl rfl ?_
            refine wq_bipush (n := -8) F dL_ask_44 (by decide) rfl ?_
            cases h
            exact wq_iretx F rfl rfl rfl (Nat.le_of_ble_eq_true rfl) (Nat.le_of_ble_eq_true rfl) dL_ask_46
          · replace h := wq_iff hn3 h
            simp at h
  · replace h := wq_ift hc h
    refine wq_aload_n F dL_ask_6 rfl rfl rfl ?_
    refine wq_iload_n F dL_ask_7 rfl rfl rfl ?_
    refine wq_iload_n F dL_ask_8 rfl rfl rfl ?_
    refine wq_iload_n F dL_ask_9 rfl rfl rfl ?_
    refine wq_iload F dL_ask_10 rfl rfl ?_
    refine wq_iload F dL_ask_12 rfl rfl ?_
    rcases wq_bh_some h with ⟨r5, S6, h1r5, h⟩ | ⟨n8, r5, S6, h1r5, h⟩
    · refine wq_callVn (As := [.int (wq_I x1), .int (wq_I x2), .int (wq_I x3), .int (wq_I x5), .int (wq_I x6)]) (b9 := 0) (mc := 7) (ms := 42) (n := 9) F K lk_L_54 (ct_X8_addJoin hlt h1r5) ⟨(Nat.le_of_ble_eq_true rfl), (Nat.le_of_ble_eq_true rfl)⟩ ⟨Nat.le_of_ble_eq_true rfl, Nat.le_of_ble_eq_true rfl⟩ (Nat.le_of_ble_eq_true rfl) rfl rfl rfl rfl (Nat.le_of_ble_eq_true rfl) dL_ask_14 rfl ?_
      refine wq_goto (tgt := 31) F dL_ask_17 (by decide) ?_
      cases h
      exact wq_iretx F rfl rfl rfl (Nat.le_of_ble_eq_true rfl) (Nat.le_of_ble_eq_true rfl) dL_ask_31
    · by_cases hn1 : n8 + 1 = 1
      · replace h := wq_ift hn1 h
        obtain rfl : n8 = 0 := by omega
        refine wq_callVc (As := [.int (wq_I x1), .int (wq_I x2), .int (wq_I x3), .int (wq_I x5), .int (wq_I x6)]) (b9 := 0) (mc := 7) (ms := 42) (n := 9) (k := 0) F K lk_L_54 (ct_X8_addJoin hlt h1r5) ⟨(Nat.le_of_ble_eq_true rfl), (Nat.le_of_ble_eq_true rfl)⟩ ⟨Nat.le_of_ble_eq_true rfl, Nat.le_of_ble_eq_true rfl⟩ (Nat.le_of_ble_eq_true rfl) rfl rfl rfl rfl (Nat.le_of_ble_eq_true rfl) dL_ask_14 (name := "java/lang/IndexOutOfBoundsException") rfl [] ⟨0, 31, 32, 14⟩ [⟨0, 31, 37, 16⟩, ⟨0, 31, 42, 18⟩] (htab.trans rfl) (fun _ h => absurd h List.not_mem_nil) (by decide) (by decide) aw_383 (List.mem_of_getElem? (i := 2) rfl) (fun q9 => ?_)
        refine wq_astore (L' := [some (.ref (b + 0)), some (.int (wq_I x1)), some (.int (wq_I x2)), some (.int (wq_I x3)), some (.int (wq_I x4)), some (.int (wq_I x5)), some (.int (wq_I x6)), some (.ref q9)]) F dL_ask_32 (by decide) rfl rfl rfl ?_
        refine wq_bipush (n := -8) F dL_ask_34 (by decide) rfl ?_
        cases h
        exact wq_iretx F rfl rfl rfl (Nat.le_of_ble_eq_true rfl) (Nat.le_of_ble_eq_true rfl) dL_ask_36
      · replace h := wq_iff hn1 h
        by_cases hn2 : n8 + 1 = 2
        · replace h := wq_ift hn2 h
          obtain rfl : n8 = 1 := by omega
          refine wq_callVc (As := [.int (wq_I x1), .int (wq_I x2), .int (wq_I x3), .int (wq_I x5), .int (wq_I x6)]) (b9 := 0) (mc := 7) (ms := 42) (n := 9) (k := 1) F K lk_L_54 (ct_X8_addJoin hlt h1r5) ⟨(Nat.le_of_ble_eq_true rfl), (Nat.le_of_ble_eq_true rfl)⟩ ⟨Nat.le_of_ble_eq_true rfl, Nat.le_of_ble_eq_true rfl⟩ (Nat.le_of_ble_eq_true rfl) rfl rfl rfl rfl (Nat.le_of_ble_eq_true rfl) dL_ask_14 (name := "java/lang/IllegalArgumentException") rfl [⟨0, 31, 32, 14⟩] ⟨0, 31, 37, 16⟩ [⟨0, 31, 42, 18⟩] (htab.trans rfl) (List.forall_mem_cons.mpr ⟨⟨by decide, "java/lang/IndexOutOfBoundsException", aw_383, Kn.1⟩, fun _ h => absurd h List.not_mem_nil⟩) (by decide) (by decide) aw_384 (List.mem_of_getElem? (i := 0) rfl) (fun q9 => ?_)
          refine wq_astore (L' := [some (.ref (b + 0)), some (.int (wq_I x1)), some (.int (wq_I x2)), some (.int (wq_I x3)), some (.int (wq_I x4)), some (.int (wq_I x5)), some (.int (wq_I x6)), some (.ref q9)]) F dL_ask_37 (by decide) rfl rfl rfl ?_
          refine wq_bipush (n := -8) F dL_ask_39 (by decide) rfl ?_
          cases h
          exact wq_iretx F rfl rfl rfl (Nat.le_of_ble_eq_true rfl) (Nat.le_of_ble_eq_true rfl) dL_ask_41
        · replace h := wq_iff hn2 h
          by_cases hn3 : n8 + 1 = 3
          · replace h := wq_ift hn3 h
            obtain rfl : n8 = 2 := by omega
            refine wq_callVc (As := [.int (wq_I x1), .int (wq_I x2), .int (wq_I x3), .int (wq_I x5), .int (wq_I x6)]) (b9 := 0) (mc := 7) (ms := 42) (n := 9) (k := 2) F K lk_L_54 (ct_X8_addJoin hlt h1r5) ⟨(Nat.le_of_ble_eq_true rfl), (Nat.le_of_ble_eq_true rfl)⟩ ⟨Nat.le_of_ble_eq_true rfl, Nat.le_of_ble_eq_true rfl⟩ (Nat.le_of_ble_eq_true rfl) rfl rfl rfl rfl (Nat.le_of_ble_eq_true rfl) dL_ask_14 (name := "java/lang/IllegalStateException") rfl [⟨0, 31, 32, 14⟩, ⟨0, 31, 37, 16⟩] ⟨0, 31, 42, 18⟩ [] (htab.trans rfl) (List.forall_mem_cons.mpr ⟨⟨by decide, "java/lang/IndexOutOfBoundsException", aw_383, Kn.2.1⟩, List.forall_mem_cons.mpr ⟨⟨by decide, "java/lang/IllegalArgumentException", aw_384, Kn.2.2⟩, fun _ h => absurd h List.not_mem_nil⟩⟩) (by decide) (by decide) aw_385 (List.mem_of_getElem? (i := 1) rfl) (fun q9 => ?_)
            refine wq_astore (L' := [some (.ref (b + 0)), some (.int (wq_I x1)), some (.int (wq_I x2)), some (.int (wq_I x3)), some (.int (wq_I x4)), some (.int (wq_I x5)), some (.int (wq_I x6)), some (.ref q9)]) F dL_ask_42 (by decide) rfl rfl rfl ?_
            refine wq_bipush (n := -8) F dL_ask_44 (by decide) rfl ?_
            cases h
            exact wq_iretx F rfl rfl rfl (Nat.le_of_ble_eq_true rfl) (Nat.le_of_ble_eq_true rfl) dL_ask_46
          · replace h := wq_iff hn3 h
            simp at h
set_option maxHeartbeats 4000000 in
set_option maxRecDepth 100000 in
theorem ct_L_sums {l : Launch} (hlt : l.stackTraces = false) {D : va_G} {Ar : Nat → ClassId} {b : Nat} {x1 : Int} {x2 : Int} {x3 : Int} {S S0 : wq_St} {r0 : Int} (h : f_L_sums x1 x2 x3 S = some (r0, S0)) : wq_Cw l yL_sums (.codeWith yL_sums cL_sums 5 ((Option.some Jvm.ClassFile.FieldType.boolean)) [(0, 7, 10, 14)]) 10 3 18 D Ar (wq_EC Ar b) b 284 [.ref (b + 0), .int (wq_I x1), .int (wq_I x2), .int (wq_I x3)] S (some (.int (wq_I r0))) S0 := by
  refine wq_startw "WharfQueryLaw" [some (.ref (b + 0)), some (.int (wq_I x1)), some (.int (wq_I x2)), some (.int (wq_I x3)), none] (by decide +kernel) rfl (Nat.le_of_ble_eq_true rfl) rfl ?_
  intro p e s m args below meth c F K Kn htab
  unfold f_L_sums at h
  refine wq_aload_n F dL_sums_0 rfl rfl rfl ?_
  refine wq_iload_n F dL_sums_1 rfl rfl rfl ?_
  refine wq_iload_n F dL_sums_2 rfl rfl rfl ?_
  refine wq_iload_n F dL_sums_3 rfl rfl rfl ?_
  rcases wq_bh_some h with ⟨r1, S2, h1r1, h⟩ | ⟨n4, r1, S2, h1r1, h⟩
  · refine wq_callVn (As := [.int (wq_I x1), .int (wq_I x2), .int (wq_I x3)]) (b9 := 0) (mc := 3) (ms := 18) (n := 9) F K lk_L_61 (ct_X8_setSum hlt h1r1) ⟨(Nat.le_of_ble_eq_true rfl), (Nat.le_of_ble_eq_true rfl)⟩ ⟨Nat.le_of_ble_eq_true rfl, Nat.le_of_ble_eq_true rfl⟩ (Nat.le_of_ble_eq_true rfl) rfl rfl rfl rfl (Nat.le_of_ble_eq_true rfl) dL_sums_4 rfl ?_
    refine wq_goto (tgt := 14) F dL_sums_7 (by decide) ?_
    refine wq_iconst (n := 1) F dL_sums_14 rfl ?_
    cases h
    exact wq_zretx F (by decide) rfl rfl rfl (Nat.le_of_ble_eq_true rfl) (Nat.le_of_ble_eq_true rfl) dL_sums_15
  · by_cases hn1 : n4 + 1 = 1
    · replace h := wq_ift hn1 h
      obtain rfl : n4 = 0 := by omega
      refine wq_callVc (As := [.int (wq_I x1), .int (wq_I x2), .int (wq_I x3)]) (b9 := 0) (mc := 3) (ms := 18) (n := 9) (k := 0) F K lk_L_61 (ct_X8_setSum hlt h1r1) ⟨(Nat.le_of_ble_eq_true rfl), (Nat.le_of_ble_eq_true rfl)⟩ ⟨Nat.le_of_ble_eq_true rfl, Nat.le_of_ble_eq_true rfl⟩ (Nat.le_of_ble_eq_true rfl) rfl rfl rfl rfl (Nat.le_of_ble_eq_true rfl) dL_sums_4 (name := "java/lang/IndexOutOfBoundsException") rfl [] ⟨0, 7, 10, 14⟩ [] (htab.trans rfl) (fun _ h => absurd h List.not_mem_nil) (by decide) (by decide) aw_383 (List.mem_of_getElem? (i := 2) rfl) (fun q9 => ?_)
      refine wq_astore (L' := [some (.ref (b + 0)), some (.int (wq_I x1)), some (.int (wq_I x2)), some (.int (wq_I x3)), some (.ref q9)]) F dL_sums_10 (by decide) rfl rfl rfl ?_
      refine wq_iconst (n := 0) F dL_sums_12 rfl ?_
      cases h
      exact wq_zretx F (by decide) rfl rfl rfl (Nat.le_of_ble_eq_true rfl) (Nat.le_of_ble_eq_true rfl) dL_sums_13
    · replace h := wq_iff hn1 h
      simp at h
set_option maxHeartbeats 4000000 in
set_option maxRecDepth 100000 in
theorem ct_L_of {l : Launch} (hlt : l.stackTraces = false) {D : va_G} {Ar : Nat → ClassId} {b : Nat} {x1 : Int} {x2 : Int} {S S0 : wq_St} {r0 : Int} (h : f_L_of x1 x2 S = some (r0, S0)) : wq_Cw l yL_of (.codeWith yL_of cL_of 4 ((Option.some Jvm.ClassFile.FieldType.int)) [(0, 182, 183, 14)]) 15 1 6 D Ar (wq_EC Ar b) b 284 [.ref (b + 0), .int (wq_I x1), .int (wq_I x2)] S (some (.int (wq_I r0))) S0 := by
  refine wq_startw "WharfQueryLaw" [some (.ref (b + 0)), some (.int (wq_I x1)), some (.int (wq_I x2)), none] (by decide +kernel) rfl (Nat.le_of_ble_eq_true rfl) rfl ?_
  intro p e s m args below meth c F K Kn htab
  unfold f_L_of at h
  refine wq_iload_n F dL_of_0 rfl rfl rfl ?_
  refine wq_if_ne (tgt := 12) F dL_of_1 (by decide) rfl (fun hc => ?_) (fun hc => ?_)
  · replace h := wq_iff hc h
    refine wq_iload_n F dL_of_12 rfl rfl rfl ?_
    refine wq_iconst (n := 1) F dL_of_13 rfl ?_
    refine wq_icmp_ne (tgt := 25) F dL_of_14 (by decide) rfl (fun hc => ?_) (fun hc => ?_)
    · replace h := wq_iff hc h
      refine wq_iload_n F dL_of_25 rfl rfl rfl ?_
      refine wq_iconst (n := 2) F dL_of_26 rfl ?_
      refine wq_icmp_ne (tgt := 46) F dL_of_27 (by decide) rfl (fun hc => ?_) (fun hc => ?_)
      · replace h := wq_iff hc h
        refine wq_iload_n F dL_of_46 rfl rfl rfl ?_
        refine wq_iconst (n := 3) F dL_of_47 rfl ?_
        refine wq_icmp_ne (tgt := 67) F dL_of_48 (by decide) rfl (fun hc => ?_) (fun hc => ?_)
        · replace h := wq_iff hc h
          refine wq_iload_n F dL_of_67 rfl rfl rfl ?_
          refine wq_iconst (n := 4) F dL_of_68 rfl ?_
          refine wq_icmp_ne (tgt := 80) F dL_of_69 (by decide) rfl (fun hc => ?_) (fun hc => ?_)
          · replace h := wq_iff hc h
            refine wq_iload_n F dL_of_80 rfl rfl rfl ?_
            refine wq_iconst (n := 5) F dL_of_81 rfl ?_
            refine wq_icmp_ne (tgt := 93) F dL_of_82 (by decide) rfl (fun hc => ?_) (fun hc => ?_)
            · replace h := wq_iff hc h
              refine wq_iload_n F dL_of_93 rfl rfl rfl ?_
              refine wq_bipush (n := 6) F dL_of_94 (by decide) rfl ?_
              refine wq_icmp_ne (tgt := 107) F dL_of_96 (by decide) rfl (fun hc => ?_) (fun hc => ?_)
              · replace h := wq_iff hc h
                refine wq_iload_n F dL_of_107 rfl rfl rfl ?_
                refine wq_bipush (n := 7) F dL_of_108 (by decide) rfl ?_
                refine wq_icmp_ne (tgt := 121) F dL_of_110 (by decide) rfl (fun hc => ?_) (fun hc => ?_)
                · replace h := wq_iff hc h
                  refine wq_iload_n F dL_of_121 rfl rfl rfl ?_
                  refine wq_bipush (n := 8) F dL_of_122 (by decide) rfl ?_
                  refine wq_icmp_ne (tgt := 135) F dL_of_124 (by decide) rfl (fun hc => ?_) (fun hc => ?_)
                  · replace h := wq_iff hc h
                    refine wq_iload_n F dL_of_135 rfl rfl rfl ?_
                    refine wq_bipush (n := 9) F dL_of_136 (by decide) rfl ?_
                    refine wq_icmp_ne (tgt := 149) F dL_of_138 (by decide) rfl (fun hc => ?_) (fun hc => ?_)
                    · replace h := wq_iff hc h
                      refine wq_iload_n F dL_of_149 rfl rfl rfl ?_
                      refine wq_bipush (n := 10) F dL_of_150 (by decide) rfl ?_
                      refine wq_icmp_ne (tgt := 163) F dL_of_152 (by decide) rfl (fun hc => ?_) (fun hc => ?_)
                      · replace h := wq_iff hc h
                        refine wq_iload_n F dL_of_163 rfl rfl rfl ?_
                        refine wq_bipush (n := 11) F dL_of_164 (by decide) rfl ?_
                        refine wq_icmp_ne (tgt := 177) F dL_of_166 (by decide) rfl (fun hc => ?_) (fun hc => ?_)
                        · replace h := wq_iff hc h
                          refine wq_aload_n F dL_of_177 rfl rfl rfl ?_
                          refine wq_iload_n F dL_of_178 rfl rfl rfl ?_
                          rcases wq_bh_some h with ⟨r1, S2, h1r1, h⟩ | ⟨n4, r1, S2, h1r1, h⟩
                          · refine wq_callVn (As := [.int (wq_I x2)]) (b9 := 0) (mc := 1) (ms := 6) (n := 8) F K lk_L_102 (ct_X8_keptIn hlt h1r1) ⟨(Nat.le_of_ble_eq_true rfl), (Nat.le_of_ble_eq_true rfl)⟩ ⟨Nat.le_of_ble_eq_true rfl, Nat.le_of_ble_eq_true rfl⟩ (Nat.le_of_ble_eq_true rfl) rfl rfl rfl rfl (Nat.le_of_ble_eq_true rfl) dL_of_179 rfl ?_
                            cases h
                            exact wq_iretx F rfl rfl rfl (Nat.le_of_ble_eq_true rfl) (Nat.le_of_ble_eq_true rfl) dL_of_182
                          · by_cases hn1 : n4 + 1 = 1
                            · replace h := wq_ift hn1 h
                              obtain rfl : n4 = 0 := by omega
                              refine wq_callVc (As := [.int (wq_I x2)]) (b9 := 0) (mc := 1) (ms := 6) (n := 8) (k := 0) F K lk_L_102 (ct_X8_keptIn hlt h1r1) ⟨(Nat.le_of_ble_eq_true rfl), (Nat.le_of_ble_eq_true rfl)⟩ ⟨Nat.le_of_ble_eq_true rfl, Nat.le_of_ble_eq_true rfl⟩ (Nat.le_of_ble_eq_true rfl) rfl rfl rfl rfl (Nat.le_of_ble_eq_true rfl) dL_of_179 (name := "java/lang/IndexOutOfBoundsException") rfl [] ⟨0, 182, 183, 14⟩ [] (htab.trans rfl) (fun _ h => absurd h List.not_mem_nil) (by decide) (by decide) aw_383 (List.mem_of_getElem? (i := 2) rfl) (fun q9 => ?_)
                              refine wq_astore_n (L' := [some (.ref (b + 0)), some (.int (wq_I x1)), some (.int (wq_I x2)), some (.ref q9)]) F dL_of_183 rfl (by decide) rfl rfl rfl ?_
                              refine wq_bipush (n := -8) F dL_of_184 (by decide) rfl ?_
                              cases h
                              exact wq_iretx F rfl rfl rfl (Nat.le_of_ble_eq_true rfl) (Nat.le_of_ble_eq_true rfl) dL_of_186
                            · replace h := wq_iff hn1 h
                              simp at h
                        · replace h := wq_ift hc h
                          refine wq_aload_n F dL_of_169 rfl rfl rfl ?_
                          refine wq_iload_n F dL_of_170 rfl rfl rfl ?_
                          rcases wq_bh_some h with ⟨r5, S6, h1r5, h⟩ | ⟨n8, r5, S6, h1r5, h⟩
                          · refine wq_callVn (As := [.int (wq_I x2)]) (b9 := 0) (mc := 1) (ms := 6) (n := 8) F K lk_L_99 (ct_X8_keptSum hlt h1r5) ⟨(Nat.le_of_ble_eq_true rfl), (Nat.le_of_ble_eq_true rfl)⟩ ⟨Nat.le_of_ble_eq_true rfl, Nat.le_of_ble_eq_true rfl⟩ (Nat.le_of_ble_eq_true rfl) rfl rfl rfl rfl (Nat.le_of_ble_eq_true rfl) dL_of_171 rfl ?_
                            refine wq_goto (tgt := 182) F dL_of_174 (by decide) ?_
                            cases h
                            exact wq_iretx F rfl rfl rfl (Nat.le_of_ble_eq_true rfl) (Nat.le_of_ble_eq_true rfl) dL_of_182
                          · by_cases hn1 : n8 + 1 = 1
                            · replace h := wq_ift hn1 h
                              obtain rfl : n8 = 0 := by omega
                              refine wq_callVc (As := [.int (wq_I x2)]) (b9 := 0) (mc := 1) (ms := 6) (n := 8) (k := 0) F K lk_L_99 (ct_X8_keptSum hlt h1r5) ⟨(Nat.le_of_ble_eq_true rfl), (Nat.le_of_ble_eq_true rfl)⟩ ⟨Nat.le_of_ble_eq_true rfl, Nat.le_of_ble_eq_true rfl⟩ (Nat.le_of_ble_eq_true rfl) rfl rfl rfl rfl (Nat.le_of_ble_eq_true rfl) dL_of_171 (name := "java/lang/IndexOutOfBoundsException") rfl [] ⟨0, 182, 183, 14⟩ [] (htab.trans rfl) (fun _ h => absurd h List.not_mem_nil) (by decide) (by decide) aw_383 (List.mem_of_getElem? (i := 2) rfl) (fun q9 => ?_)
                              refine wq_astore_n (L' := [some (.ref (b + 0)), some (.int (wq_I x1)), some (.int (wq_I x2)), some (.ref q9)]) F dL_of_183 rfl (by decide) rfl rfl rfl ?_
                              refine wq_bipush (n := -8) F dL_of_184 (by decide) rfl ?_
                              cases h
                              exact wq_iretx F rfl rfl rfl (Nat.le_of_ble_eq_true rfl) (Nat.le_of_ble_eq_true rfl) dL_of_186
                            · replace h := wq_iff hn1 h
                              simp at h
                      · replace h := wq_ift hc h
                        refine wq_aload_n F dL_of_155 rfl rfl rfl ?_
                        refine wq_iload_n F dL_of_156 rfl rfl rfl ?_
                        rcases wq_bh_some h with ⟨r9, S10, h1r9, h⟩ | ⟨n12, r9, S10, h1r9, h⟩
                        · refine wq_callVn (As := [.int (wq_I x2)]) (b9 := 0) (mc := 1) (ms := 6) (n := 8) F K lk_L_96 (ct_X8_kept hlt h1r9) ⟨(Nat.le_of_ble_eq_true rfl), (Nat.le_of_ble_eq_true rfl)⟩ ⟨Nat.le_of_ble_eq_true rfl, Nat.le_of_ble_eq_true rfl⟩ (Nat.le_of_ble_eq_true rfl) rfl rfl rfl rfl (Nat.le_of_ble_eq_true rfl) dL_of_157 rfl ?_
                          refine wq_goto (tgt := 182) F dL_of_160 (by decide) ?_
                          cases h
                          exact wq_iretx F rfl rfl rfl (Nat.le_of_ble_eq_true rfl) (Nat.le_of_ble_eq_true rfl) dL_of_182
                        · by_cases hn1 : n12 + 1 = 1
                          · replace h := wq_ift hn1 h
                            obtain rfl : n12 = 0 := by omega
                            refine wq_callVc (As := [.int (wq_I x2)]) (b9 := 0) (mc := 1) (ms := 6) (n := 8) (k := 0) F K lk_L_96 (ct_X8_kept hlt h1r9) ⟨(Nat.le_of_ble_eq_true rfl), (Nat.le_of_ble_eq_true rfl)⟩ ⟨Nat.le_of_ble_eq_true rfl, Nat.le_of_ble_eq_true rfl⟩ (Nat.le_of_ble_eq_true rfl) rfl rfl rfl rfl (Nat.le_of_ble_eq_true rfl) dL_of_157 (name := "java/lang/IndexOutOfBoundsException") rfl [] ⟨0, 182, 183, 14⟩ [] (htab.trans rfl) (fun _ h => absurd h List.not_mem_nil) (by decide) (by decide) aw_383 (List.mem_of_getElem? (i := 2) rfl) (fun q9 => ?_)
                            refine wq_astore_n (L' := [some (.ref (b + 0)), some (.int (wq_I x1)), some (.int (wq_I x2)), some (.ref q9)]) F dL_of_183 rfl (by decide) rfl rfl rfl ?_
                            refine wq_bipush (n := -8) F dL_of_184 (by decide) rfl ?_
                            cases h
                            exact wq_iretx F rfl rfl rfl (Nat.le_of_ble_eq_true rfl) (Nat.le_of_ble_eq_true rfl) dL_of_186
                          · replace h := wq_iff hn1 h
                            simp at h
                    · replace h := wq_ift hc h
                      refine wq_aload_n F dL_of_141 rfl rfl rfl ?_
                      refine wq_iload_n F dL_of_142 rfl rfl rfl ?_
                      rcases wq_bh_some h with ⟨r13, S14, h1r13, h⟩ | ⟨n16, r13, S14, h1r13, h⟩
                      · refine wq_callVn (As := [.int (wq_I x2)]) (b9 := 0) (mc := 1) (ms := 6) (n := 14) F K lk_L_93 (ct_X8_plainSum hlt h1r13) ⟨(Nat.le_of_ble_eq_true rfl), (Nat.le_of_ble_eq_true rfl)⟩ ⟨Nat.le_of_ble_eq_true rfl, Nat.le_of_ble_eq_true rfl⟩ (Nat.le_of_ble_eq_true rfl) rfl rfl rfl rfl (Nat.le_of_ble_eq_true rfl) dL_of_143 rfl ?_
                        refine wq_goto (tgt := 182) F dL_of_146 (by decide) ?_
                        cases h
                        exact wq_iretx F rfl rfl rfl (Nat.le_of_ble_eq_true rfl) (Nat.le_of_ble_eq_true rfl) dL_of_182
                      · by_cases hn1 : n16 + 1 = 1
                        · replace h := wq_ift hn1 h
                          obtain rfl : n16 = 0 := by omega
                          refine wq_callVc (As := [.int (wq_I x2)]) (b9 := 0) (mc := 1) (ms := 6) (n := 14) (k := 0) F K lk_L_93 (ct_X8_plainSum hlt h1r13) ⟨(Nat.le_of_ble_eq_true rfl), (Nat.le_of_ble_eq_true rfl)⟩ ⟨Nat.le_of_ble_eq_true rfl, Nat.le_of_ble_eq_true rfl⟩ (Nat.le_of_ble_eq_true rfl) rfl rfl rfl rfl (Nat.le_of_ble_eq_true rfl) dL_of_143 (name := "java/lang/IndexOutOfBoundsException") rfl [] ⟨0, 182, 183, 14⟩ [] (htab.trans rfl) (fun _ h => absurd h List.not_mem_nil) (by decide) (by decide) aw_383 (List.mem_of_getElem? (i := 2) rfl) (fun q9 => ?_)
                          refine wq_astore_n (L' := [some (.ref (b + 0)), some (.int (wq_I x1)), some (.int (wq_I x2)), some (.ref q9)]) F dL_of_183 rfl (by decide) rfl rfl rfl ?_
                          refine wq_bipush (n := -8) F dL_of_184 (by decide) rfl ?_
                          cases h
                          exact wq_iretx F rfl rfl rfl (Nat.le_of_ble_eq_true rfl) (Nat.le_of_ble_eq_true rfl) dL_of_186
                        · replace h := wq_iff hn1 h
                          simp at h
                  · replace h := wq_ift hc h
                    refine wq_aload_n F dL_of_127 rfl rfl rfl ?_
                    refine wq_iload_n F dL_of_128 rfl rfl rfl ?_
                    rcases wq_bh_some h with ⟨r17, S18, h1r17, h⟩ | ⟨n20, r17, S18, h1r17, h⟩
                    · refine wq_callVn (As := [.int (wq_I x2)]) (b9 := 0) (mc := 1) (ms := 6) (n := 14) F K lk_L_90 (ct_X8_plainAnswer hlt h1r17) ⟨(Nat.le_of_ble_eq_true rfl), (Nat.le_of_ble_eq_true rfl)⟩ ⟨Nat.le_of_ble_eq_true rfl, Nat.le_of_ble_eq_true rfl⟩ (Nat.le_of_ble_eq_true rfl) rfl rfl rfl rfl (Nat.le_of_ble_eq_true rfl) dL_of_129 rfl ?_
                      refine wq_goto (tgt := 182) F dL_of_132 (by decide) ?_
                      cases h
                      exact wq_iretx F rfl rfl rfl (Nat.le_of_ble_eq_true rfl) (Nat.le_of_ble_eq_true rfl) dL_of_182
                    · by_cases hn1 : n20 + 1 = 1
                      · replace h := wq_ift hn1 h
                        obtain rfl : n20 = 0 := by omega
                        refine wq_callVc (As := [.int (wq_I x2)]) (b9 := 0) (mc := 1) (ms := 6) (n := 14) (k := 0) F K lk_L_90 (ct_X8_plainAnswer hlt h1r17) ⟨(Nat.le_of_ble_eq_true rfl), (Nat.le_of_ble_eq_true rfl)⟩ ⟨Nat.le_of_ble_eq_true rfl, Nat.le_of_ble_eq_true rfl⟩ (Nat.le_of_ble_eq_true rfl) rfl rfl rfl rfl (Nat.le_of_ble_eq_true rfl) dL_of_129 (name := "java/lang/IndexOutOfBoundsException") rfl [] ⟨0, 182, 183, 14⟩ [] (htab.trans rfl) (fun _ h => absurd h List.not_mem_nil) (by decide) (by decide) aw_383 (List.mem_of_getElem? (i := 2) rfl) (fun q9 => ?_)
                        refine wq_astore_n (L' := [some (.ref (b + 0)), some (.int (wq_I x1)), some (.int (wq_I x2)), some (.ref q9)]) F dL_of_183 rfl (by decide) rfl rfl rfl ?_
                        refine wq_bipush (n := -8) F dL_of_184 (by decide) rfl ?_
                        cases h
                        exact wq_iretx F rfl rfl rfl (Nat.le_of_ble_eq_true rfl) (Nat.le_of_ble_eq_true rfl) dL_of_186
                      · replace h := wq_iff hn1 h
                        simp at h
                · replace h := wq_ift hc h
                  refine wq_aload_n F dL_of_113 rfl rfl rfl ?_
                  refine wq_iload_n F dL_of_114 rfl rfl rfl ?_
                  rcases wq_bh_some h with ⟨r21, S22, h1r21, h⟩ | ⟨n24, r21, S22, h1r21, h⟩
                  · refine wq_callVn (As := [.int (wq_I x2)]) (b9 := 0) (mc := 1) (ms := 6) (n := 14) F K lk_L_87 (ct_X8_sum hlt h1r21) ⟨(Nat.le_of_ble_eq_true rfl), (Nat.le_of_ble_eq_true rfl)⟩ ⟨Nat.le_of_ble_eq_true rfl, Nat.le_of_ble_eq_true rfl⟩ (Nat.le_of_ble_eq_true rfl) rfl rfl rfl rfl (Nat.le_of_ble_eq_true rfl) dL_of_115 rfl ?_
                    refine wq_goto (tgt := 182) F dL_of_118 (by decide) ?_
                    cases h
                    exact wq_iretx F rfl rfl rfl (Nat.le_of_ble_eq_true rfl) (Nat.le_of_ble_eq_true rfl) dL_of_182
                  · by_cases hn1 : n24 + 1 = 1
                    · replace h := wq_ift hn1 h
                      obtain rfl : n24 = 0 := by omega
                      refine wq_callVc (As := [.int (wq_I x2)]) (b9 := 0) (mc := 1) (ms := 6) (n := 14) (k := 0) F K lk_L_87 (ct_X8_sum hlt h1r21) ⟨(Nat.le_of_ble_eq_true rfl), (Nat.le_of_ble_eq_true rfl)⟩ ⟨Nat.le_of_ble_eq_true rfl, Nat.le_of_ble_eq_true rfl⟩ (Nat.le_of_ble_eq_true rfl) rfl rfl rfl rfl (Nat.le_of_ble_eq_true rfl) dL_of_115 (name := "java/lang/IndexOutOfBoundsException") rfl [] ⟨0, 182, 183, 14⟩ [] (htab.trans rfl) (fun _ h => absurd h List.not_mem_nil) (by decide) (by decide) aw_383 (List.mem_of_getElem? (i := 2) rfl) (fun q9 => ?_)
                      refine wq_astore_n (L' := [some (.ref (b + 0)), some (.int (wq_I x1)), some (.int (wq_I x2)), some (.ref q9)]) F dL_of_183 rfl (by decide) rfl rfl rfl ?_
                      refine wq_bipush (n := -8) F dL_of_184 (by decide) rfl ?_
                      cases h
                      exact wq_iretx F rfl rfl rfl (Nat.le_of_ble_eq_true rfl) (Nat.le_of_ble_eq_true rfl) dL_of_186
                    · replace h := wq_iff hn1 h
                      simp at h
              · replace h := wq_ift hc h
                refine wq_aload_n F dL_of_99 rfl rfl rfl ?_
                refine wq_iload_n F dL_of_100 rfl rfl rfl ?_
                rcases wq_bh_some h with ⟨r25, S26, h1r25, h⟩ | ⟨n28, r25, S26, h1r25, h⟩
                · refine wq_callVn (As := [.int (wq_I x2)]) (b9 := 0) (mc := 1) (ms := 6) (n := 14) F K lk_L_84 (ct_X8_answer hlt h1r25) ⟨(Nat.le_of_ble_eq_true rfl), (Nat.le_of_ble_eq_true rfl)⟩ ⟨Nat.le_of_ble_eq_true rfl, Nat.le_of_ble_eq_true rfl⟩ (Nat.le_of_ble_eq_true rfl) rfl rfl rfl rfl (Nat.le_of_ble_eq_true rfl) dL_of_101 rfl ?_
                  refine wq_goto (tgt := 182) F dL_of_104 (by decide) ?_
                  cases h
                  exact wq_iretx F rfl rfl rfl (Nat.le_of_ble_eq_true rfl) (Nat.le_of_ble_eq_true rfl) dL_of_182
                · by_cases hn1 : n28 + 1 = 1
                  · replace h := wq_ift hn1 h
                    obtain rfl : n28 = 0 := by omega
                    refine wq_callVc (As := [.int (wq_I x2)]) (b9 := 0) (mc := 1) (ms := 6) (n := 14) (k := 0) F K lk_L_84 (ct_X8_answer hlt h1r25) ⟨(Nat.le_of_ble_eq_true rfl), (Nat.le_of_ble_eq_true rfl)⟩ ⟨Nat.le_of_ble_eq_true rfl, Nat.le_of_ble_eq_true rfl⟩ (Nat.le_of_ble_eq_true rfl) rfl rfl rfl rfl (Nat.le_of_ble_eq_true rfl) dL_of_101 (name := "java/lang/IndexOutOfBoundsException") rfl [] ⟨0, 182, 183, 14⟩ [] (htab.trans rfl) (fun _ h => absurd h List.not_mem_nil) (by decide) (by decide) aw_383 (List.mem_of_getElem? (i := 2) rfl) (fun q9 => ?_)
                    refine wq_astore_n (L' := [some (.ref (b + 0)), some (.int (wq_I x1)), some (.int (wq_I x2)), some (.ref q9)]) F dL_of_183 rfl (by decide) rfl rfl rfl ?_
                    refine wq_bipush (n := -8) F dL_of_184 (by decide) rfl ?_
                    cases h
                    exact wq_iretx F rfl rfl rfl (Nat.le_of_ble_eq_true rfl) (Nat.le_of_ble_eq_true rfl) dL_of_186
                  · replace h := wq_iff hn1 h
                    simp at h
            · replace h := wq_ift hc h
              refine wq_aload_n F dL_of_85 rfl rfl rfl ?_
              refine wq_iload_n F dL_of_86 rfl rfl rfl ?_
              rcases wq_bh_some h with ⟨r29, S30, h1r29, h⟩ | ⟨n32, r29, S30, h1r29, h⟩
              · refine wq_callVn (As := [.int (wq_I x2)]) (b9 := 0) (mc := 1) (ms := 6) (n := 14) F K lk_L_81 (ct_X8_minutes hlt h1r29) ⟨(Nat.le_of_ble_eq_true rfl), (Nat.le_of_ble_eq_true rfl)⟩ ⟨Nat.le_of_ble_eq_true rfl, Nat.le_of_ble_eq_true rfl⟩ (Nat.le_of_ble_eq_true rfl) rfl rfl rfl rfl (Nat.le_of_ble_eq_true rfl) dL_of_87 rfl ?_
                refine wq_goto (tgt := 182) F dL_of_90 (by decide) ?_
                cases h
                exact wq_iretx F rfl rfl rfl (Nat.le_of_ble_eq_true rfl) (Nat.le_of_ble_eq_true rfl) dL_of_182
              · by_cases hn1 : n32 + 1 = 1
                · replace h := wq_ift hn1 h
                  obtain rfl : n32 = 0 := by omega
                  refine wq_callVc (As := [.int (wq_I x2)]) (b9 := 0) (mc := 1) (ms := 6) (n := 14) (k := 0) F K lk_L_81 (ct_X8_minutes hlt h1r29) ⟨(Nat.le_of_ble_eq_true rfl), (Nat.le_of_ble_eq_true rfl)⟩ ⟨Nat.le_of_ble_eq_true rfl, Nat.le_of_ble_eq_true rfl⟩ (Nat.le_of_ble_eq_true rfl) rfl rfl rfl rfl (Nat.le_of_ble_eq_true rfl) dL_of_87 (name := "java/lang/IndexOutOfBoundsException") rfl [] ⟨0, 182, 183, 14⟩ [] (htab.trans rfl) (fun _ h => absurd h List.not_mem_nil) (by decide) (by decide) aw_383 (List.mem_of_getElem? (i := 2) rfl) (fun q9 => ?_)
                  refine wq_astore_n (L' := [some (.ref (b + 0)), some (.int (wq_I x1)), some (.int (wq_I x2)), some (.ref q9)]) F dL_of_183 rfl (by decide) rfl rfl rfl ?_
                  refine wq_bipush (n := -8) F dL_of_184 (by decide) rfl ?_
                  cases h
                  exact wq_iretx F rfl rfl rfl (Nat.le_of_ble_eq_true rfl) (Nat.le_of_ble_eq_true rfl) dL_of_186
                · replace h := wq_iff hn1 h
                  simp at h
          · replace h := wq_ift hc h
            refine wq_aload_n F dL_of_72 rfl rfl rfl ?_
            refine wq_iload_n F dL_of_73 rfl rfl rfl ?_
            rcases wq_bh_some h with ⟨r33, S34, h1r33, h⟩ | ⟨n36, r33, S34, h1r33, h⟩
            · refine wq_callVn (As := [.int (wq_I x2)]) (b9 := 0) (mc := 1) (ms := 6) (n := 13) F K lk_L_78 (ct_X8_foretold hlt h1r33) ⟨(Nat.le_of_ble_eq_true rfl), (Nat.le_of_ble_eq_true rfl)⟩ ⟨Nat.le_of_ble_eq_true rfl, Nat.le_of_ble_eq_true rfl⟩ (Nat.le_of_ble_eq_true rfl) rfl rfl rfl rfl (Nat.le_of_ble_eq_true rfl) dL_of_74 rfl ?_
              refine wq_goto (tgt := 182) F dL_of_77 (by decide) ?_
              cases h
              exact wq_iretx F rfl rfl rfl (Nat.le_of_ble_eq_true rfl) (Nat.le_of_ble_eq_true rfl) dL_of_182
            · by_cases hn1 : n36 + 1 = 1
              · replace h := wq_ift hn1 h
                obtain rfl : n36 = 0 := by omega
                refine wq_callVc (As := [.int (wq_I x2)]) (b9 := 0) (mc := 1) (ms := 6) (n := 13) (k := 0) F K lk_L_78 (ct_X8_foretold hlt h1r33) ⟨(Nat.le_of_ble_eq_true rfl), (Nat.le_of_ble_eq_true rfl)⟩ ⟨Nat.le_of_ble_eq_true rfl, Nat.le_of_ble_eq_true rfl⟩ (Nat.le_of_ble_eq_true rfl) rfl rfl rfl rfl (Nat.le_of_ble_eq_true rfl) dL_of_74 (name := "java/lang/IndexOutOfBoundsException") rfl [] ⟨0, 182, 183, 14⟩ [] (htab.trans rfl) (fun _ h => absurd h List.not_mem_nil) (by decide) (by decide) aw_383 (List.mem_of_getElem? (i := 2) rfl) (fun q9 => ?_)
                refine wq_astore_n (L' := [some (.ref (b + 0)), some (.int (wq_I x1)), some (.int (wq_I x2)), some (.ref q9)]) F dL_of_183 rfl (by decide) rfl rfl rfl ?_
                refine wq_bipush (n := -8) F dL_of_184 (by decide) rfl ?_
                cases h
                exact wq_iretx F rfl rfl rfl (Nat.le_of_ble_eq_true rfl) (Nat.le_of_ble_eq_true rfl) dL_of_186
              · replace h := wq_iff hn1 h
                simp at h
        · replace h := wq_ift hc h
          refine wq_aload_n F dL_of_51 rfl rfl rfl ?_
          refine wq_iload_n F dL_of_52 rfl rfl rfl ?_
          rcases wq_bh_some h with ⟨r37, S38, h1r37, h⟩ | ⟨n40, r37, S38, h1r37, h⟩
          · refine wq_callVn (As := [.int (wq_I x2)]) (b9 := 0) (mc := 1) (ms := 6) (n := 8) F K lk_L_75 (ct_X8_isDue hlt h1r37) ⟨(Nat.le_of_ble_eq_true rfl), (Nat.le_of_ble_eq_true rfl)⟩ ⟨Nat.le_of_ble_eq_true rfl, Nat.le_of_ble_eq_true rfl⟩ (Nat.le_of_ble_eq_true rfl) rfl rfl rfl rfl (Nat.le_of_ble_eq_true rfl) dL_of_53 rfl ?_
            refine wq_if_eq (tgt := 63) F dL_of_56 (by decide) rfl (fun hc => ?_) (fun hc => ?_)
            · replace h := wq_ift hc h
              refine wq_iconst (n := 0) F dL_of_63 rfl ?_
              refine wq_goto (tgt := 182) F dL_of_64 (by decide) ?_
              cases h
              exact wq_iretx F rfl rfl rfl (Nat.le_of_ble_eq_true rfl) (Nat.le_of_ble_eq_true rfl) dL_of_182
            · replace h := wq_iff hc h
              refine wq_iconst (n := 1) F dL_of_59 rfl ?_
              refine wq_goto (tgt := 182) F dL_of_60 (by decide) ?_
              cases h
              exact wq_iretx F rfl rfl rfl (Nat.le_of_ble_eq_true rfl) (Nat.le_of_ble_eq_true rfl) dL_of_182
          · by_cases hn1 : n40 + 1 = 1
            · replace h := wq_ift hn1 h
              obtain rfl : n40 = 0 := by omega
              refine wq_callVc (As := [.int (wq_I x2)]) (b9 := 0) (mc := 1) (ms := 6) (n := 8) (k := 0) F K lk_L_75 (ct_X8_isDue hlt h1r37) ⟨(Nat.le_of_ble_eq_true rfl), (Nat.le_of_ble_eq_true rfl)⟩ ⟨Nat.le_of_ble_eq_true rfl, Nat.le_of_ble_eq_true rfl⟩ (Nat.le_of_ble_eq_true rfl) rfl rfl rfl rfl (Nat.le_of_ble_eq_true rfl) dL_of_53 (name := "java/lang/IndexOutOfBoundsException") rfl [] ⟨0, 182, 183, 14⟩ [] (htab.trans rfl) (fun _ h => absurd h List.not_mem_nil) (by decide) (by decide) aw_383 (List.mem_of_getElem? (i := 2) rfl) (fun q9 => ?_)
              refine wq_astore_n (L' := [some (.ref (b + 0)), some (.int (wq_I x1)), some (.int (wq_I x2)), some (.ref q9)]) F dL_of_183 rfl (by decide) rfl rfl rfl ?_
              refine wq_bipush (n := -8) F dL_of_184 (by decide) rfl ?_
              cases h
              exact wq_iretx F rfl rfl rfl (Nat.le_of_ble_eq_true rfl) (Nat.le_of_ble_eq_true rfl) dL_of_186
            · replace h := wq_iff hn1 h
              simp at h
      · replace h := wq_ift hc h
        refine wq_aload_n F dL_of_30 rfl rfl rfl ?_
        refine wq_iload_n F dL_of_31 rfl rfl rfl ?_
        rcases wq_bh_some h with ⟨r41, S42, h1r41, h⟩ | ⟨n44, r41, S42, h1r41, h⟩
        · refine wq_callVn (As := [.int (wq_I x2)]) (b9 := 0) (mc := 1) (ms := 6) (n := 8) F K lk_L_71 (ct_X8_isMarked hlt h1r41) ⟨(Nat.le_of_ble_eq_true rfl), (Nat.le_of_ble_eq_true rfl)⟩ ⟨Nat.le_of_ble_eq_true rfl, Nat.le_of_ble_eq_true rfl⟩ (Nat.le_of_ble_eq_true rfl) rfl rfl rfl rfl (Nat.le_of_ble_eq_true rfl) dL_of_32 rfl ?_
          refine wq_if_eq (tgt := 42) F dL_of_35 (by decide) rfl (fun hc => ?_) (fun hc => ?_)
          · replace h := wq_ift hc h
            refine wq_iconst (n := 0) F dL_of_42 rfl ?_
            refine wq_goto (tgt := 182) F dL_of_43 (by decide) ?_
            cases h
            exact wq_iretx F rfl rfl rfl (Nat.le_of_ble_eq_true rfl) (Nat.le_of_ble_eq_true rfl) dL_of_182
          · replace h := wq_iff hc h
            refine wq_iconst (n := 1) F dL_of_38 rfl ?_
            refine wq_goto (tgt := 182) F dL_of_39 (by decide) ?_
            cases h
            exact wq_iretx F rfl rfl rfl (Nat.le_of_ble_eq_true rfl) (Nat.le_of_ble_eq_true rfl) dL_of_182
        · by_cases hn1 : n44 + 1 = 1
          · replace h := wq_ift hn1 h
            obtain rfl : n44 = 0 := by omega
            refine wq_callVc (As := [.int (wq_I x2)]) (b9 := 0) (mc := 1) (ms := 6) (n := 8) (k := 0) F K lk_L_71 (ct_X8_isMarked hlt h1r41) ⟨(Nat.le_of_ble_eq_true rfl), (Nat.le_of_ble_eq_true rfl)⟩ ⟨Nat.le_of_ble_eq_true rfl, Nat.le_of_ble_eq_true rfl⟩ (Nat.le_of_ble_eq_true rfl) rfl rfl rfl rfl (Nat.le_of_ble_eq_true rfl) dL_of_32 (name := "java/lang/IndexOutOfBoundsException") rfl [] ⟨0, 182, 183, 14⟩ [] (htab.trans rfl) (fun _ h => absurd h List.not_mem_nil) (by decide) (by decide) aw_383 (List.mem_of_getElem? (i := 2) rfl) (fun q9 => ?_)
            refine wq_astore_n (L' := [some (.ref (b + 0)), some (.int (wq_I x1)), some (.int (wq_I x2)), some (.ref q9)]) F dL_of_183 rfl (by decide) rfl rfl rfl ?_
            refine wq_bipush (n := -8) F dL_of_184 (by decide) rfl ?_
            cases h
            exact wq_iretx F rfl rfl rfl (Nat.le_of_ble_eq_true rfl) (Nat.le_of_ble_eq_true rfl) dL_of_186
          · replace h := wq_iff hn1 h
            simp at h
    · replace h := wq_ift hc h
      refine wq_aload_n F dL_of_17 rfl rfl rfl ?_
      refine wq_iload_n F dL_of_18 rfl rfl rfl ?_
      rcases wq_bh_some h with ⟨r45, S46, h1r45, h⟩ | ⟨n48, r45, S46, h1r45, h⟩
      · refine wq_callVn (As := [.int (wq_I x2)]) (b9 := 0) (mc := 1) (ms := 6) (n := 8) F K lk_L_68 (ct_X8_toldRows hlt h1r45) ⟨(Nat.le_of_ble_eq_true rfl), (Nat.le_of_ble_eq_true rfl)⟩ ⟨Nat.le_of_ble_eq_true rfl, Nat.le_of_ble_eq_true rfl⟩ (Nat.le_of_ble_eq_true rfl) rfl rfl rfl rfl (Nat.le_of_ble_eq_true rfl) dL_of_19 rfl ?_
        refine wq_goto (tgt := 182) F dL_of_22 (by decide) ?_
        cases h
        exact wq_iretx F rfl rfl rfl (Nat.le_of_ble_eq_true rfl) (Nat.le_of_ble_eq_true rfl) dL_of_182
      · by_cases hn1 : n48 + 1 = 1
        · replace h := wq_ift hn1 h
          obtain rfl : n48 = 0 := by omega
          refine wq_callVc (As := [.int (wq_I x2)]) (b9 := 0) (mc := 1) (ms := 6) (n := 8) (k := 0) F K lk_L_68 (ct_X8_toldRows hlt h1r45) ⟨(Nat.le_of_ble_eq_true rfl), (Nat.le_of_ble_eq_true rfl)⟩ ⟨Nat.le_of_ble_eq_true rfl, Nat.le_of_ble_eq_true rfl⟩ (Nat.le_of_ble_eq_true rfl) rfl rfl rfl rfl (Nat.le_of_ble_eq_true rfl) dL_of_19 (name := "java/lang/IndexOutOfBoundsException") rfl [] ⟨0, 182, 183, 14⟩ [] (htab.trans rfl) (fun _ h => absurd h List.not_mem_nil) (by decide) (by decide) aw_383 (List.mem_of_getElem? (i := 2) rfl) (fun q9 => ?_)
          refine wq_astore_n (L' := [some (.ref (b + 0)), some (.int (wq_I x1)), some (.int (wq_I x2)), some (.ref q9)]) F dL_of_183 rfl (by decide) rfl rfl rfl ?_
          refine wq_bipush (n := -8) F dL_of_184 (by decide) rfl ?_
          cases h
          exact wq_iretx F rfl rfl rfl (Nat.le_of_ble_eq_true rfl) (Nat.le_of_ble_eq_true rfl) dL_of_186
        · replace h := wq_iff hn1 h
          simp at h
  · replace h := wq_ift hc h
    refine wq_aload_n F dL_of_4 rfl rfl rfl ?_
    refine wq_iload_n F dL_of_5 rfl rfl rfl ?_
    rcases wq_bh_some h with ⟨r49, S50, h1r49, h⟩ | ⟨n52, r49, S50, h1r49, h⟩
    · refine wq_callVn (As := [.int (wq_I x2)]) (b9 := 0) (mc := 1) (ms := 6) (n := 8) F K lk_L_65 (ct_X8_rows hlt h1r49) ⟨(Nat.le_of_ble_eq_true rfl), (Nat.le_of_ble_eq_true rfl)⟩ ⟨Nat.le_of_ble_eq_true rfl, Nat.le_of_ble_eq_true rfl⟩ (Nat.le_of_ble_eq_true rfl) rfl rfl rfl rfl (Nat.le_of_ble_eq_true rfl) dL_of_6 rfl ?_
      refine wq_goto (tgt := 182) F dL_of_9 (by decide) ?_
      cases h
      exact wq_iretx F rfl rfl rfl (Nat.le_of_ble_eq_true rfl) (Nat.le_of_ble_eq_true rfl) dL_of_182
    · by_cases hn1 : n52 + 1 = 1
      · replace h := wq_ift hn1 h
        obtain rfl : n52 = 0 := by omega
        refine wq_callVc (As := [.int (wq_I x2)]) (b9 := 0) (mc := 1) (ms := 6) (n := 8) (k := 0) F K lk_L_65 (ct_X8_rows hlt h1r49) ⟨(Nat.le_of_ble_eq_true rfl), (Nat.le_of_ble_eq_true rfl)⟩ ⟨Nat.le_of_ble_eq_true rfl, Nat.le_of_ble_eq_true rfl⟩ (Nat.le_of_ble_eq_true rfl) rfl rfl rfl rfl (Nat.le_of_ble_eq_true rfl) dL_of_6 (name := "java/lang/IndexOutOfBoundsException") rfl [] ⟨0, 182, 183, 14⟩ [] (htab.trans rfl) (fun _ h => absurd h List.not_mem_nil) (by decide) (by decide) aw_383 (List.mem_of_getElem? (i := 2) rfl) (fun q9 => ?_)
        refine wq_astore_n (L' := [some (.ref (b + 0)), some (.int (wq_I x1)), some (.int (wq_I x2)), some (.ref q9)]) F dL_of_183 rfl (by decide) rfl rfl rfl ?_
        refine wq_bipush (n := -8) F dL_of_184 (by decide) rfl ?_
        cases h
        exact wq_iretx F rfl rfl rfl (Nat.le_of_ble_eq_true rfl) (Nat.le_of_ble_eq_true rfl) dL_of_186
      · replace h := wq_iff hn1 h
        simp at h
set_option maxHeartbeats 4000000 in
set_option maxRecDepth 100000 in
theorem ct_L_at {l : Launch} (hlt : l.stackTraces = false) {D : va_G} {Ar : Nat → ClassId} {b : Nat} {x1 : Int} {x2 : Int} {x3 : Int} {S S0 : wq_St} {r0 : Int} (h : f_L_at x1 x2 x3 S = some (r0, S0)) : wq_Cw l yL_at (.codeWith yL_at cL_at 5 ((Option.some Jvm.ClassFile.FieldType.int)) [(0, 61, 62, 14)]) 14 2 12 D Ar (wq_EC Ar b) b 284 [.ref (b + 0), .int (wq_I x1), .int (wq_I x2), .int (wq_I x3)] S (some (.int (wq_I r0))) S0 := by
  refine wq_startw "WharfQueryLaw" [some (.ref (b + 0)), some (.int (wq_I x1)), some (.int (wq_I x2)), some (.int (wq_I x3)), none] (by decide +kernel) rfl (Nat.le_of_ble_eq_true rfl) rfl ?_
  intro p e s m args below meth c F K Kn htab
  unfold f_L_at at h
  refine wq_iload_n F dL_at_0 rfl rfl rfl ?_
  refine wq_if_ne (tgt := 13) F dL_at_1 (by decide) rfl (fun hc => ?_) (fun hc => ?_)
  · replace h := wq_iff hc h
    refine wq_iload_n F dL_at_13 rfl rfl rfl ?_
    refine wq_iconst (n := 1) F dL_at_14 rfl ?_
    refine wq_icmp_ne (tgt := 27) F dL_at_15 (by decide) rfl (fun hc => ?_) (fun hc => ?_)
    · replace h := wq_iff hc h
      refine wq_iload_n F dL_at_27 rfl rfl rfl ?_
      refine wq_iconst (n := 2) F dL_at_28 rfl ?_
      refine wq_icmp_ne (tgt := 41) F dL_at_29 (by decide) rfl (fun hc => ?_) (fun hc => ?_)
      · replace h := wq_iff hc h
        refine wq_iload_n F dL_at_41 rfl rfl rfl ?_
        refine wq_iconst (n := 3) F dL_at_42 rfl ?_
        refine wq_icmp_ne (tgt := 55) F dL_at_43 (by decide) rfl (fun hc => ?_) (fun hc => ?_)
        · replace h := wq_iff hc h
          refine wq_aload_n F dL_at_55 rfl rfl rfl ?_
          refine wq_iload_n F dL_at_56 rfl rfl rfl ?_
          refine wq_iload_n F dL_at_57 rfl rfl rfl ?_
          rcases wq_bh_some h with ⟨r1, S2, h1r1, h⟩ | ⟨n4, r1, S2, h1r1, h⟩
          · refine wq_callVn (As := [.int (wq_I x2), .int (wq_I x3)]) (b9 := 0) (mc := 2) (ms := 12) (n := 13) F K lk_L_117 (ct_X8_planWay hlt h1r1) ⟨(Nat.le_of_ble_eq_true rfl), (Nat.le_of_ble_eq_true rfl)⟩ ⟨Nat.le_of_ble_eq_true rfl, Nat.le_of_ble_eq_true rfl⟩ (Nat.le_of_ble_eq_true rfl) rfl rfl rfl rfl (Nat.le_of_ble_eq_true rfl) dL_at_58 rfl ?_
            cases h
            exact wq_iretx F rfl rfl rfl (Nat.le_of_ble_eq_true rfl) (Nat.le_of_ble_eq_true rfl) dL_at_61
          · by_cases hn1 : n4 + 1 = 1
            · replace h := wq_ift hn1 h
              obtain rfl : n4 = 0 := by omega
              refine wq_callVc (As := [.int (wq_I x2), .int (wq_I x3)]) (b9 := 0) (mc := 2) (ms := 12) (n := 13) (k := 0) F K lk_L_117 (ct_X8_planWay hlt h1r1) ⟨(Nat.le_of_ble_eq_true rfl), (Nat.le_of_ble_eq_true rfl)⟩ ⟨Nat.le_of_ble_eq_true rfl, Nat.le_of_ble_eq_true rfl⟩ (Nat.le_of_ble_eq_true rfl) rfl rfl rfl rfl (Nat.le_of_ble_eq_true rfl) dL_at_58 (name := "java/lang/IndexOutOfBoundsException") rfl [] ⟨0, 61, 62, 14⟩ [] (htab.trans rfl) (fun _ h => absurd h List.not_mem_nil) (by decide) (by decide) aw_383 (List.mem_of_getElem? (i := 2) rfl) (fun q9 => ?_)
              refine wq_astore (L' := [some (.ref (b + 0)), some (.int (wq_I x1)), some (.int (wq_I x2)), some (.int (wq_I x3)), some (.ref q9)]) F dL_at_62 (by decide) rfl rfl rfl ?_
              refine wq_bipush (n := -8) F dL_at_64 (by decide) rfl ?_
              cases h
              exact wq_iretx F rfl rfl rfl (Nat.le_of_ble_eq_true rfl) (Nat.le_of_ble_eq_true rfl) dL_at_66
            · replace h := wq_iff hn1 h
              simp at h
        · replace h := wq_ift hc h
          refine wq_aload_n F dL_at_46 rfl rfl rfl ?_
          refine wq_iload_n F dL_at_47 rfl rfl rfl ?_
          refine wq_iload_n F dL_at_48 rfl rfl rfl ?_
          rcases wq_bh_some h with ⟨r5, S6, h1r5, h⟩ | ⟨n8, r5, S6, h1r5, h⟩
          · refine wq_callVn (As := [.int (wq_I x2), .int (wq_I x3)]) (b9 := 0) (mc := 2) (ms := 12) (n := 13) F K lk_L_114 (ct_X8_planSource hlt h1r5) ⟨(Nat.le_of_ble_eq_true rfl), (Nat.le_of_ble_eq_true rfl)⟩ ⟨Nat.le_of_ble_eq_true rfl, Nat.le_of_ble_eq_true rfl⟩ (Nat.le_of_ble_eq_true rfl) rfl rfl rfl rfl (Nat.le_of_ble_eq_true rfl) dL_at_49 rfl ?_
            refine wq_goto (tgt := 61) F dL_at_52 (by decide) ?_
            cases h
            exact wq_iretx F rfl rfl rfl (Nat.le_of_ble_eq_true rfl) (Nat.le_of_ble_eq_true rfl) dL_at_61
          · by_cases hn1 : n8 + 1 = 1
            · replace h := wq_ift hn1 h
              obtain rfl : n8 = 0 := by omega
              refine wq_callVc (As := [.int (wq_I x2), .int (wq_I x3)]) (b9 := 0) (mc := 2) (ms := 12) (n := 13) (k := 0) F K lk_L_114 (ct_X8_planSource hlt h1r5) ⟨(Nat.le_of_ble_eq_true rfl), (Nat.le_of_ble_eq_true rfl)⟩ ⟨Nat.le_of_ble_eq_true rfl, Nat.le_of_ble_eq_true rfl⟩ (Nat.le_of_ble_eq_true rfl) rfl rfl rfl rfl (Nat.le_of_ble_eq_true rfl) dL_at_49 (name := "java/lang/IndexOutOfBoundsException") rfl [] ⟨0, 61, 62, 14⟩ [] (htab.trans rfl) (fun _ h => absurd h List.not_mem_nil) (by decide) (by decide) aw_383 (List.mem_of_getElem? (i := 2) rfl) (fun q9 => ?_)
              refine wq_astore (L' := [some (.ref (b + 0)), some (.int (wq_I x1)), some (.int (wq_I x2)), some (.int (wq_I x3)), some (.ref q9)]) F dL_at_62 (by decide) rfl rfl rfl ?_
              refine wq_bipush (n := -8) F dL_at_64 (by decide) rfl ?_
              cases h
              exact wq_iretx F rfl rfl rfl (Nat.le_of_ble_eq_true rfl) (Nat.le_of_ble_eq_true rfl) dL_at_66
            · replace h := wq_iff hn1 h
              simp at h
      · replace h := wq_ift hc h
        refine wq_aload_n F dL_at_32 rfl rfl rfl ?_
        refine wq_iload_n F dL_at_33 rfl rfl rfl ?_
        refine wq_iload_n F dL_at_34 rfl rfl rfl ?_
        rcases wq_bh_some h with ⟨r9, S10, h1r9, h⟩ | ⟨n12, r9, S10, h1r9, h⟩
        · refine wq_callVn (As := [.int (wq_I x2), .int (wq_I x3)]) (b9 := 0) (mc := 2) (ms := 12) (n := 9) F K lk_L_111 (ct_X8_greatest hlt h1r9) ⟨(Nat.le_of_ble_eq_true rfl), (Nat.le_of_ble_eq_true rfl)⟩ ⟨Nat.le_of_ble_eq_true rfl, Nat.le_of_ble_eq_true rfl⟩ (Nat.le_of_ble_eq_true rfl) rfl rfl rfl rfl (Nat.le_of_ble_eq_true rfl) dL_at_35 rfl ?_
          refine wq_goto (tgt := 61) F dL_at_38 (by decide) ?_
          cases h
          exact wq_iretx F rfl rfl rfl (Nat.le_of_ble_eq_true rfl) (Nat.le_of_ble_eq_true rfl) dL_at_61
        · by_cases hn1 : n12 + 1 = 1
          · replace h := wq_ift hn1 h
            obtain rfl : n12 = 0 := by omega
            refine wq_callVc (As := [.int (wq_I x2), .int (wq_I x3)]) (b9 := 0) (mc := 2) (ms := 12) (n := 9) (k := 0) F K lk_L_111 (ct_X8_greatest hlt h1r9) ⟨(Nat.le_of_ble_eq_true rfl), (Nat.le_of_ble_eq_true rfl)⟩ ⟨Nat.le_of_ble_eq_true rfl, Nat.le_of_ble_eq_true rfl⟩ (Nat.le_of_ble_eq_true rfl) rfl rfl rfl rfl (Nat.le_of_ble_eq_true rfl) dL_at_35 (name := "java/lang/IndexOutOfBoundsException") rfl [] ⟨0, 61, 62, 14⟩ [] (htab.trans rfl) (fun _ h => absurd h List.not_mem_nil) (by decide) (by decide) aw_383 (List.mem_of_getElem? (i := 2) rfl) (fun q9 => ?_)
            refine wq_astore (L' := [some (.ref (b + 0)), some (.int (wq_I x1)), some (.int (wq_I x2)), some (.int (wq_I x3)), some (.ref q9)]) F dL_at_62 (by decide) rfl rfl rfl ?_
            refine wq_bipush (n := -8) F dL_at_64 (by decide) rfl ?_
            cases h
            exact wq_iretx F rfl rfl rfl (Nat.le_of_ble_eq_true rfl) (Nat.le_of_ble_eq_true rfl) dL_at_66
          · replace h := wq_iff hn1 h
            simp at h
    · replace h := wq_ift hc h
      refine wq_aload_n F dL_at_18 rfl rfl rfl ?_
      refine wq_iload_n F dL_at_19 rfl rfl rfl ?_
      refine wq_iload_n F dL_at_20 rfl rfl rfl ?_
      rcases wq_bh_some h with ⟨r13, S14, h1r13, h⟩ | ⟨n16, r13, S14, h1r13, h⟩
      · refine wq_callVn (As := [.int (wq_I x2), .int (wq_I x3)]) (b9 := 0) (mc := 2) (ms := 12) (n := 9) F K lk_L_108 (ct_X8_least hlt h1r13) ⟨(Nat.le_of_ble_eq_true rfl), (Nat.le_of_ble_eq_true rfl)⟩ ⟨Nat.le_of_ble_eq_true rfl, Nat.le_of_ble_eq_true rfl⟩ (Nat.le_of_ble_eq_true rfl) rfl rfl rfl rfl (Nat.le_of_ble_eq_true rfl) dL_at_21 rfl ?_
        refine wq_goto (tgt := 61) F dL_at_24 (by decide) ?_
        cases h
        exact wq_iretx F rfl rfl rfl (Nat.le_of_ble_eq_true rfl) (Nat.le_of_ble_eq_true rfl) dL_at_61
      · by_cases hn1 : n16 + 1 = 1
        · replace h := wq_ift hn1 h
          obtain rfl : n16 = 0 := by omega
          refine wq_callVc (As := [.int (wq_I x2), .int (wq_I x3)]) (b9 := 0) (mc := 2) (ms := 12) (n := 9) (k := 0) F K lk_L_108 (ct_X8_least hlt h1r13) ⟨(Nat.le_of_ble_eq_true rfl), (Nat.le_of_ble_eq_true rfl)⟩ ⟨Nat.le_of_ble_eq_true rfl, Nat.le_of_ble_eq_true rfl⟩ (Nat.le_of_ble_eq_true rfl) rfl rfl rfl rfl (Nat.le_of_ble_eq_true rfl) dL_at_21 (name := "java/lang/IndexOutOfBoundsException") rfl [] ⟨0, 61, 62, 14⟩ [] (htab.trans rfl) (fun _ h => absurd h List.not_mem_nil) (by decide) (by decide) aw_383 (List.mem_of_getElem? (i := 2) rfl) (fun q9 => ?_)
          refine wq_astore (L' := [some (.ref (b + 0)), some (.int (wq_I x1)), some (.int (wq_I x2)), some (.int (wq_I x3)), some (.ref q9)]) F dL_at_62 (by decide) rfl rfl rfl ?_
          refine wq_bipush (n := -8) F dL_at_64 (by decide) rfl ?_
          cases h
          exact wq_iretx F rfl rfl rfl (Nat.le_of_ble_eq_true rfl) (Nat.le_of_ble_eq_true rfl) dL_at_66
        · replace h := wq_iff hn1 h
          simp at h
  · replace h := wq_ift hc h
    refine wq_aload_n F dL_at_4 rfl rfl rfl ?_
    refine wq_iload_n F dL_at_5 rfl rfl rfl ?_
    refine wq_iload_n F dL_at_6 rfl rfl rfl ?_
    rcases wq_bh_some h with ⟨r17, S18, h1r17, h⟩ | ⟨n20, r17, S18, h1r17, h⟩
    · refine wq_callVn (As := [.int (wq_I x2), .int (wq_I x3)]) (b9 := 0) (mc := 2) (ms := 12) (n := 9) F K lk_L_105 (ct_X8_unlike hlt h1r17) ⟨(Nat.le_of_ble_eq_true rfl), (Nat.le_of_ble_eq_true rfl)⟩ ⟨Nat.le_of_ble_eq_true rfl, Nat.le_of_ble_eq_true rfl⟩ (Nat.le_of_ble_eq_true rfl) rfl rfl rfl rfl (Nat.le_of_ble_eq_true rfl) dL_at_7 rfl ?_
      refine wq_goto (tgt := 61) F dL_at_10 (by decide) ?_
      cases h
      exact wq_iretx F rfl rfl rfl (Nat.le_of_ble_eq_true rfl) (Nat.le_of_ble_eq_true rfl) dL_at_61
    · by_cases hn1 : n20 + 1 = 1
      · replace h := wq_ift hn1 h
        obtain rfl : n20 = 0 := by omega
        refine wq_callVc (As := [.int (wq_I x2), .int (wq_I x3)]) (b9 := 0) (mc := 2) (ms := 12) (n := 9) (k := 0) F K lk_L_105 (ct_X8_unlike hlt h1r17) ⟨(Nat.le_of_ble_eq_true rfl), (Nat.le_of_ble_eq_true rfl)⟩ ⟨Nat.le_of_ble_eq_true rfl, Nat.le_of_ble_eq_true rfl⟩ (Nat.le_of_ble_eq_true rfl) rfl rfl rfl rfl (Nat.le_of_ble_eq_true rfl) dL_at_7 (name := "java/lang/IndexOutOfBoundsException") rfl [] ⟨0, 61, 62, 14⟩ [] (htab.trans rfl) (fun _ h => absurd h List.not_mem_nil) (by decide) (by decide) aw_383 (List.mem_of_getElem? (i := 2) rfl) (fun q9 => ?_)
        refine wq_astore (L' := [some (.ref (b + 0)), some (.int (wq_I x1)), some (.int (wq_I x2)), some (.int (wq_I x3)), some (.ref q9)]) F dL_at_62 (by decide) rfl rfl rfl ?_
        refine wq_bipush (n := -8) F dL_at_64 (by decide) rfl ?_
        cases h
        exact wq_iretx F rfl rfl rfl (Nat.le_of_ble_eq_true rfl) (Nat.le_of_ble_eq_true rfl) dL_at_66
      · replace h := wq_iff hn1 h
        simp at h
set_option maxHeartbeats 4000000 in
set_option maxRecDepth 100000 in
theorem ct_L_value {l : Launch} (hlt : l.stackTraces = false) {D : va_G} {Ar : Nat → ClassId} {b : Nat} {x1 : Int} {x2 : Int} {x3 : Int} {S S0 : wq_St} {r0 : Int} (h : f_L_value x1 x2 x3 S = some (r0, S0)) : wq_Cw l yL_value (.codeWith yL_value cL_value 5 ((Option.some Jvm.ClassFile.FieldType.int)) [(0, 7, 8, 14)]) 9 3 18 D Ar (wq_EC Ar b) b 284 [.ref (b + 0), .int (wq_I x1), .int (wq_I x2), .int (wq_I x3)] S (some (.int (wq_I r0))) S0 := by
  refine wq_startw "WharfQueryLaw" [some (.ref (b + 0)), some (.int (wq_I x1)), some (.int (wq_I x2)), some (.int (wq_I x3)), none] (by decide +kernel) rfl (Nat.le_of_ble_eq_true rfl) rfl ?_
  intro p e s m args below meth c F K Kn htab
  unfold f_L_value at h
  refine wq_aload_n F dL_value_0 rfl rfl rfl ?_
  refine wq_iload_n F dL_value_1 rfl rfl rfl ?_
  refine wq_iload_n F dL_value_2 rfl rfl rfl ?_
  refine wq_iload_n F dL_value_3 rfl rfl rfl ?_
  rcases wq_bh_some h with ⟨r1, S2, h1r1, h⟩ | ⟨n4, r1, S2, h1r1, h⟩
  · refine wq_callVn (As := [.int (wq_I x1), .int (wq_I x2), .int (wq_I x3)]) (b9 := 0) (mc := 3) (ms := 18) (n := 8) F K lk_L_120 (ct_X8_value hlt h1r1) ⟨(Nat.le_of_ble_eq_true rfl), (Nat.le_of_ble_eq_true rfl)⟩ ⟨Nat.le_of_ble_eq_true rfl, Nat.le_of_ble_eq_true rfl⟩ (Nat.le_of_ble_eq_true rfl) rfl rfl rfl rfl (Nat.le_of_ble_eq_true rfl) dL_value_4 rfl ?_
    cases h
    exact wq_iretx F rfl rfl rfl (Nat.le_of_ble_eq_true rfl) (Nat.le_of_ble_eq_true rfl) dL_value_7
  · by_cases hn1 : n4 + 1 = 1
    · replace h := wq_ift hn1 h
      obtain rfl : n4 = 0 := by omega
      refine wq_callVc (As := [.int (wq_I x1), .int (wq_I x2), .int (wq_I x3)]) (b9 := 0) (mc := 3) (ms := 18) (n := 8) (k := 0) F K lk_L_120 (ct_X8_value hlt h1r1) ⟨(Nat.le_of_ble_eq_true rfl), (Nat.le_of_ble_eq_true rfl)⟩ ⟨Nat.le_of_ble_eq_true rfl, Nat.le_of_ble_eq_true rfl⟩ (Nat.le_of_ble_eq_true rfl) rfl rfl rfl rfl (Nat.le_of_ble_eq_true rfl) dL_value_4 (name := "java/lang/IndexOutOfBoundsException") rfl [] ⟨0, 7, 8, 14⟩ [] (htab.trans rfl) (fun _ h => absurd h List.not_mem_nil) (by decide) (by decide) aw_383 (List.mem_of_getElem? (i := 2) rfl) (fun q9 => ?_)
      refine wq_astore (L' := [some (.ref (b + 0)), some (.int (wq_I x1)), some (.int (wq_I x2)), some (.int (wq_I x3)), some (.ref q9)]) F dL_value_8 (by decide) rfl rfl rfl ?_
      refine wq_bipush (n := -8) F dL_value_10 (by decide) rfl ?_
      cases h
      exact wq_iretx F rfl rfl rfl (Nat.le_of_ble_eq_true rfl) (Nat.le_of_ble_eq_true rfl) dL_value_12
    · replace h := wq_iff hn1 h
      simp at h
