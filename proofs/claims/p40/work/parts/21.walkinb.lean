set_option maxHeartbeats 4000000 in
set_option maxRecDepth 100000 in
theorem ct_X6_valueLookedFor {l : Launch} {D : va_G} {Ar : Nat → ClassId} {b : Nat} {k1 : Nat} {k2 : Nat} {x3 : Int} {S S0 : wq_St} {r0 : Int} (hk1 : wq_rep k1) (hk2 : wq_pln k2) (h : f_X6_valueLookedFor k1 k2 x3 S = some (r0, S0)) : wq_Ct l yX6_valueLookedFor (.code yX6_valueLookedFor cX6_valueLookedFor 6 ((Option.some Jvm.ClassFile.FieldType.int))) 3 D Ar (wq_EC Ar b) b 284 [.ref (b + 280), .ref (b + k1), .ref (b + k2), .int (wq_I x3)] S (some (.int (wq_I r0))) S0 := by
  refine wq_start "WharfQuery$Run" [some (.ref (b + 280)), some (.ref (b + k1)), some (.ref (b + k2)), some (.int (wq_I x3)), none, none] (by decide +kernel) rfl (Nat.le_of_ble_eq_true rfl) rfl ?_
  intro p e s m args below meth c F
  unfold f_X6_valueLookedFor at h
  refine wq_aload_n F dX6_valueLookedFor_0 rfl rfl rfl ?_
  refine wq_aload_n F dX6_valueLookedFor_1 rfl rfl rfl ?_
  refine wq_iload_n F dX6_valueLookedFor_2 rfl rfl rfl ?_
  refine wq_aload_n F dX6_valueLookedFor_3 rfl rfl rfl ?_
  refine wq_g_X6_50 F hk2 dX6_valueLookedFor_4 rfl ?_
  refine wq_iload_n F dX6_valueLookedFor_7 rfl rfl rfl ?_
  obtain ⟨t1, ht1, wt1, h⟩ := wq_ix_some h
  refine wq_iald F (wq_pln_lt2 hk2) (wq_E_pln2 hk2) ht1 wt1 dX6_valueLookedFor_8 rfl ?_
  obtain ⟨r2, S3, h1r2, h⟩ := wq_bd_some h
  refine wq_callV (As := [.ref (b + k2), .int (wq_I x3), .int (wq_I (S (k2 + 2) t1))]) F lk_X6_84 (ct_X5_conditionForIndex hk1 hk2 h1r2) ⟨Nat.le_of_ble_eq_true rfl, Nat.le_of_ble_eq_true rfl⟩ ⟨Nat.le_of_ble_eq_true rfl, Nat.le_of_ble_eq_true rfl⟩ (wq_rep_lt hk1) (wq_E_rep hk1) rfl (fun _ h9 => h9) rfl rfl (Nat.le_of_ble_eq_true rfl) dX6_valueLookedFor_9 rfl ?_
  refine wq_istore (L' := [some (.ref (b + 280)), some (.ref (b + k1)), some (.ref (b + k2)), some (.int (wq_I x3)), some (.int (wq_I r2)), none]) F dX6_valueLookedFor_12 (by decide) rfl rfl rfl ?_
  refine wq_iload F dX6_valueLookedFor_14 rfl rfl ?_
  refine wq_iconst (n := -1) F dX6_valueLookedFor_16 rfl ?_
  refine wq_icmp_ne (tgt := 22) F dX6_valueLookedFor_17 (by decide) rfl (fun hc => ?_) (fun hc => ?_)
  · replace h := wq_iff hc h
    refine wq_aload_n F dX6_valueLookedFor_22 rfl rfl rfl ?_
    refine wq_g_X6_88 F hk1 dX6_valueLookedFor_23 rfl ?_
    refine wq_iload F dX6_valueLookedFor_26 rfl rfl ?_
    obtain ⟨t4, ht4, wt4, h⟩ := wq_ix_some h
    refine wq_aald F (wq_rep_lt2 hk1) (wq_E_cnds hk1) rfl rfl ht4 wt4 dX6_valueLookedFor_28 rfl ?_
    refine wq_astore (L' := [some (.ref (b + 280)), some (.ref (b + k1)), some (.ref (b + k2)), some (.int (wq_I x3)), some (.int (wq_I r2)), some (.ref (b + (k1 + 3 + t4)))]) F dX6_valueLookedFor_29 (by decide) rfl rfl rfl ?_
    refine wq_aload F dX6_valueLookedFor_31 rfl rfl ?_
    refine wq_g_X6_92 F (wq_cnd_i hk1 ht4) dX6_valueLookedFor_33 rfl ?_
    refine wq_iconst (n := 3) F dX6_valueLookedFor_36 rfl ?_
    refine wq_icmp_eq (tgt := 46) F dX6_valueLookedFor_37 (by decide) rfl (fun hc => ?_) (fun hc => ?_)
    · replace h := wq_ift hc h
      refine wq_aload F dX6_valueLookedFor_46 rfl rfl ?_
      refine wq_g_X6_100 F (wq_cnd_i hk1 ht4) dX6_valueLookedFor_48 rfl ?_
      refine wq_aload_n F dX6_valueLookedFor_51 rfl rfl rfl ?_
      refine wq_g_X6_42 F hk2 dX6_valueLookedFor_52 rfl ?_
      refine wq_iload_n F dX6_valueLookedFor_55 rfl rfl rfl ?_
      obtain ⟨t5, ht5, wt5, h⟩ := wq_ix_some h
      refine wq_iald F (wq_pln_lt1 hk2) (wq_E_pln1 hk2) ht5 wt5 dX6_valueLookedFor_56 rfl ?_
      refine wq_icmp_ne (tgt := 76) F dX6_valueLookedFor_57 (by decide) rfl (fun hc => ?_) (fun hc => ?_)
      · replace h := wq_iff hc h
        refine wq_aload_n F dX6_valueLookedFor_76 rfl rfl rfl ?_
        refine wq_aload_n F dX6_valueLookedFor_77 rfl rfl rfl ?_
        refine wq_aload F dX6_valueLookedFor_78 rfl rfl ?_
        refine wq_g_X6_100 F (wq_cnd_i hk1 ht4) dX6_valueLookedFor_80 rfl ?_
        refine wq_aload F dX6_valueLookedFor_83 rfl rfl ?_
        refine wq_g_X6_109 F (wq_cnd_i hk1 ht4) dX6_valueLookedFor_85 rfl ?_
        obtain ⟨r6, S7, h1r6, h⟩ := wq_bd_some h
        refine wq_callV (As := [.ref (b + k1), .int (wq_I (S3 (k1 + 3 + t4) 1)), .int (wq_I (S3 (k1 + 3 + t4) 2))]) F lk_X6_80 (ct_X6_chosenValue hk1 h1r6) ⟨Nat.le_of_ble_eq_true rfl, Nat.le_of_ble_eq_true rfl⟩ ⟨Nat.le_of_ble_eq_true rfl, Nat.le_of_ble_eq_true rfl⟩ (Nat.le_of_ble_eq_true rfl) rfl rfl (fun _ h9 => h9) rfl rfl (Nat.le_of_ble_eq_true rfl) dX6_valueLookedFor_88 rfl ?_
        cases h
        exact wq_iret F rfl rfl dX6_valueLookedFor_91
      · replace h := wq_ift hc h
        refine wq_aload_n F dX6_valueLookedFor_60 rfl rfl rfl ?_
        refine wq_aload_n F dX6_valueLookedFor_61 rfl rfl rfl ?_
        refine wq_aload F dX6_valueLookedFor_62 rfl rfl ?_
        refine wq_g_X6_103 F (wq_cnd_i hk1 ht4) dX6_valueLookedFor_64 rfl ?_
        refine wq_aload F dX6_valueLookedFor_67 rfl rfl ?_
        refine wq_g_X6_106 F (wq_cnd_i hk1 ht4) dX6_valueLookedFor_69 rfl ?_
        obtain ⟨r8, S9, h1r8, h⟩ := wq_bd_some h
        refine wq_callV (As := [.ref (b + k1), .int (wq_I (S3 (k1 + 3 + t4) 4)), .int (wq_I (S3 (k1 + 3 + t4) 5))]) F lk_X6_80 (ct_X6_chosenValue hk1 h1r8) ⟨Nat.le_of_ble_eq_true rfl, Nat.le_of_ble_eq_true rfl⟩ ⟨Nat.le_of_ble_eq_true rfl, Nat.le_of_ble_eq_true rfl⟩ (Nat.le_of_ble_eq_true rfl) rfl rfl (fun _ h9 => h9) rfl rfl (Nat.le_of_ble_eq_true rfl) dX6_valueLookedFor_72 rfl ?_
        cases h
        exact wq_iret F rfl rfl dX6_valueLookedFor_75
    · replace h := wq_iff hc h
      refine wq_aload F dX6_valueLookedFor_40 rfl rfl ?_
      refine wq_g_X6_97 F (wq_cnd_i hk1 ht4) dX6_valueLookedFor_42 rfl ?_
      cases h
      exact wq_iret F rfl rfl dX6_valueLookedFor_45
  · replace h := wq_ift hc h
    refine wq_iconst (n := -1) F dX6_valueLookedFor_20 rfl ?_
    cases h
    exact wq_iret F rfl rfl dX6_valueLookedFor_21
set_option maxHeartbeats 4000000 in
set_option maxRecDepth 100000 in
theorem ct_X6_holds {l : Launch} {D : va_G} {Ar : Nat → ClassId} {b : Nat} {k1 : Nat} {k2 : Nat} {S S0 : wq_St} {r0 : Int} (hk1 : wq_rep k1) (hk2 : wq_cnd k2) (h : f_X6_holds k1 k2 S = some (r0, S0)) : wq_Ct l yX6_holds (.code yX6_holds cX6_holds 4 ((Option.some Jvm.ClassFile.FieldType.boolean))) 2 D Ar (wq_EC Ar b) b 284 [.ref (b + 280), .ref (b + k1), .ref (b + k2)] S (some (.int (wq_I r0))) S0 := by
  refine wq_start "WharfQuery$Run" [some (.ref (b + 280)), some (.ref (b + k1)), some (.ref (b + k2)), none] (by decide +kernel) rfl (Nat.le_of_ble_eq_true rfl) rfl ?_
  intro p e s m args below meth c F
  unfold f_X6_holds at h
  refine wq_aload_n F dX6_holds_0 rfl rfl rfl ?_
  refine wq_aload_n F dX6_holds_1 rfl rfl rfl ?_
  refine wq_aload_n F dX6_holds_2 rfl rfl rfl ?_
  refine wq_g_X6_100 F hk2 dX6_holds_3 rfl ?_
  refine wq_aload_n F dX6_holds_6 rfl rfl rfl ?_
  refine wq_g_X6_109 F hk2 dX6_holds_7 rfl ?_
  obtain ⟨r1, S2, h1r1, h⟩ := wq_bd_some h
  refine wq_callV (As := [.ref (b + k1), .int (wq_I (S k2 1)), .int (wq_I (S k2 2))]) F lk_X6_80 (ct_X6_chosenValue hk1 h1r1) ⟨Nat.le_of_ble_eq_true rfl, Nat.le_of_ble_eq_true rfl⟩ ⟨Nat.le_of_ble_eq_true rfl, Nat.le_of_ble_eq_true rfl⟩ (Nat.le_of_ble_eq_true rfl) rfl rfl (fun _ h9 => h9) rfl rfl (Nat.le_of_ble_eq_true rfl) dX6_holds_10 rfl ?_
  refine wq_istore_n (L' := [some (.ref (b + 280)), some (.ref (b + k1)), some (.ref (b + k2)), some (.int (wq_I r1))]) F dX6_holds_13 rfl (by decide) rfl rfl rfl ?_
  refine wq_aload_n F dX6_holds_14 rfl rfl rfl ?_
  refine wq_g_X6_92 F hk2 dX6_holds_15 rfl ?_
  by_cases hc0 : wq_w (S2 k2 0) = 0
  · replace h := wq_ift hc0 h
    refine wq_tableIn (tgt := 44) (off := 26) F dX6_holds_18 (by omega) (by omega) (by rw [hc0]; rfl) (by decide) ?_
    refine wq_iload_n F dX6_holds_44 rfl rfl rfl ?_
    refine wq_aload_n F dX6_holds_45 rfl rfl rfl ?_
    refine wq_g_X6_97 F hk2 dX6_holds_46 rfl ?_
    refine wq_icmp_ne (tgt := 56) F dX6_holds_49 (by decide) rfl (fun hc => ?_) (fun hc => ?_)
    · replace h := wq_iff hc h
      refine wq_iconst (n := 0) F dX6_holds_56 rfl ?_
      cases h
      exact wq_zret F (by decide) rfl rfl dX6_holds_57
    · replace h := wq_ift hc h
      refine wq_iconst (n := 1) F dX6_holds_52 rfl ?_
      refine wq_goto (tgt := 57) F dX6_holds_53 (by decide) ?_
      cases h
      exact wq_zret F (by decide) rfl rfl dX6_holds_57
  · replace h := wq_iff hc0 h
    by_cases hc1 : wq_w (S2 k2 0) = 1
    · replace h := wq_ift hc1 h
      refine wq_tableIn (tgt := 58) (off := 40) F dX6_holds_18 (by omega) (by omega) (by rw [hc1]; rfl) (by decide) ?_
      refine wq_iload_n F dX6_holds_58 rfl rfl rfl ?_
      refine wq_aload_n F dX6_holds_59 rfl rfl rfl ?_
      refine wq_g_X6_97 F hk2 dX6_holds_60 rfl ?_
      refine wq_icmp_ge (tgt := 70) F dX6_holds_63 (by decide) rfl (fun hc => ?_) (fun hc => ?_)
      · replace h := wq_ift hc h
        refine wq_iconst (n := 0) F dX6_holds_70 rfl ?_
        cases h
        exact wq_zret F (by decide) rfl rfl dX6_holds_71
      · replace h := wq_iff hc h
        refine wq_iconst (n := 1) F dX6_holds_66 rfl ?_
        refine wq_goto (tgt := 71) F dX6_holds_67 (by decide) ?_
        cases h
        exact wq_zret F (by decide) rfl rfl dX6_holds_71
    · replace h := wq_iff hc1 h
      by_cases hc2 : wq_w (S2 k2 0) = 2
      · replace h := wq_ift hc2 h
        refine wq_tableIn (tgt := 72) (off := 54) F dX6_holds_18 (by omega) (by omega) (by rw [hc2]; rfl) (by decide) ?_
        refine wq_iload_n F dX6_holds_72 rfl rfl rfl ?_
        refine wq_aload_n F dX6_holds_73 rfl rfl rfl ?_
        refine wq_g_X6_97 F hk2 dX6_holds_74 rfl ?_
        refine wq_icmp_le (tgt := 84) F dX6_holds_77 (by decide) rfl (fun hc => ?_) (fun hc => ?_)
        · replace h := wq_ift hc h
          refine wq_iconst (n := 0) F dX6_holds_84 rfl ?_
          cases h
          exact wq_zret F (by decide) rfl rfl dX6_holds_85
        · replace h := wq_iff hc h
          refine wq_iconst (n := 1) F dX6_holds_80 rfl ?_
          refine wq_goto (tgt := 85) F dX6_holds_81 (by decide) ?_
          cases h
          exact wq_zret F (by decide) rfl rfl dX6_holds_85
      · replace h := wq_iff hc2 h
        refine wq_tableOut (tgt := 86) F dX6_holds_18 (by omega) (by decide) ?_
        refine wq_iload_n F dX6_holds_86 rfl rfl rfl ?_
        refine wq_aload_n F dX6_holds_87 rfl rfl rfl ?_
        refine wq_aload_n F dX6_holds_88 rfl rfl rfl ?_
        refine wq_aload_n F dX6_holds_89 rfl rfl rfl ?_
        refine wq_g_X6_103 F hk2 dX6_holds_90 rfl ?_
        refine wq_aload_n F dX6_holds_93 rfl rfl rfl ?_
        refine wq_g_X6_106 F hk2 dX6_holds_94 rfl ?_
        obtain ⟨r3, S4, h1r3, h⟩ := wq_bd_some h
        refine wq_callV (As := [.ref (b + k1), .int (wq_I (S2 k2 4)), .int (wq_I (S2 k2 5))]) F lk_X6_80 (ct_X6_chosenValue hk1 h1r3) ⟨Nat.le_of_ble_eq_true rfl, Nat.le_of_ble_eq_true rfl⟩ ⟨Nat.le_of_ble_eq_true rfl, Nat.le_of_ble_eq_true rfl⟩ (Nat.le_of_ble_eq_true rfl) rfl rfl (fun _ h9 => h9) rfl rfl (Nat.le_of_ble_eq_true rfl) dX6_holds_97 rfl ?_
        refine wq_icmp_ne (tgt := 107) F dX6_holds_100 (by decide) rfl (fun hc => ?_) (fun hc => ?_)
        · replace h := wq_iff hc h
          refine wq_iconst (n := 0) F dX6_holds_107 rfl ?_
          cases h
          exact wq_zret F (by decide) rfl rfl dX6_holds_108
        · replace h := wq_ift hc h
          refine wq_iconst (n := 1) F dX6_holds_103 rfl ?_
          refine wq_goto (tgt := 108) F dX6_holds_104 (by decide) ?_
          cases h
          exact wq_zret F (by decide) rfl rfl dX6_holds_108
set_option maxHeartbeats 4000000 in
set_option maxRecDepth 100000 in
theorem tb_X6_conditionsHold_3 {p : Program} {l : Launch} {e : Env} {s : State} {m : MethodId} {args : Array Value} {below : List Frame} {meth : Method} {c : Code} {D : va_G} {Ar : Nat → ClassId} {b : Nat} (F : wq_Fr p s m args meth c cX6_conditionsHold 6 ((Option.some Jvm.ClassFile.FieldType.boolean)) "WharfQuery$Run" D Ar) {r0 : Int} {S0 : wq_St} {q1 : Nat} {q2 : Nat} {c3 : Int} (hq1 : wq_rep q1) (hq2 : wq_pln q2) {kx : wq_St → Option (Int × wq_St)} (hkx : ∀ (S : wq_St), kx S = some (r0, S0) → wq_Z p l e (wq_rm 3 0 0) s m args below meth c D (wq_EC Ar b) b 284 6 (wq_Ab b 284) (MQ below (wq_Qc D (wq_EC Ar b) b 284 (some (.int (wq_I r0))) S0) args s 0 0 (wq_Ab b 284)) 0 0 49 [none, none, none, none, none, none] [] S) {rec : Int → wq_St → Option (Int × wq_St)} (hrec : ∀ (y4 : Int) (S : wq_St), rec y4 S = some (r0, S0) → wq_Z p l e (wq_rm 3 0 0) s m args below meth c D (wq_EC Ar b) b 284 6 (wq_Ab b 284) (MQ below (wq_Qc D (wq_EC Ar b) b 284 (some (.int (wq_I r0))) S0) args s 0 0 (wq_Ab b 284)) 0 0 3 [some (.ref (b + 280)), some (.ref (b + q1)), some (.ref (b + q2)), some (.int (wq_I c3)), some (.int (wq_I y4)), none] [] S) (y4 : Int) (S : wq_St) (h : b_X6_conditionsHold_3 q1 q2 c3 kx rec y4 S = some (r0, S0)) : wq_Z p l e (wq_rm 3 0 0) s m args below meth c D (wq_EC Ar b) b 284 6 (wq_Ab b 284) (MQ below (wq_Qc D (wq_EC Ar b) b 284 (some (.int (wq_I r0))) S0) args s 0 0 (wq_Ab b 284)) 0 0 3 [some (.ref (b + 280)), some (.ref (b + q1)), some (.ref (b + q2)), some (.int (wq_I c3)), some (.int (wq_I y4)), none] [] S := by
  unfold b_X6_conditionsHold_3 at h
  refine wq_iload F dX6_conditionsHold_3 rfl rfl ?_
  refine wq_aload_n F dX6_conditionsHold_5 rfl rfl rfl ?_
  refine wq_g_X6_112 F hq1 dX6_conditionsHold_6 rfl ?_
  refine wq_icmp_ge (tgt := 49) F dX6_conditionsHold_9 (by decide) rfl (fun hc => ?_) (fun hc => ?_)
  · replace h := wq_ift hc h
    exact wq_lsub [none, none, none, none, none, none] (by simp [wq_sub]) (hkx S h)
  · replace h := wq_iff hc h
    refine wq_aload_n F dX6_conditionsHold_12 rfl rfl rfl ?_
    refine wq_g_X6_88 F hq1 dX6_conditionsHold_13 rfl ?_
    refine wq_iload F dX6_conditionsHold_16 rfl rfl ?_
    obtain ⟨t1, ht1, wt1, h⟩ := wq_ix_some h
    refine wq_aald F (wq_rep_lt2 hq1) (wq_E_cnds hq1) rfl rfl ht1 wt1 dX6_conditionsHold_18 rfl ?_
    refine wq_astore (L' := [some (.ref (b + 280)), some (.ref (b + q1)), some (.ref (b + q2)), some (.int (wq_I c3)), some (.int (wq_I y4)), some (.ref (b + (q1 + 3 + t1)))]) F dX6_conditionsHold_19 (by decide) rfl rfl rfl ?_
    refine wq_aload F dX6_conditionsHold_21 rfl rfl ?_
    refine wq_aload_n F dX6_conditionsHold_23 rfl rfl rfl ?_
    obtain ⟨r2, S3, h1r2, h⟩ := wq_bd_some h
    refine wq_callV (As := [.ref (b + q2)]) F lk_X6_115 (ct_X1_stepIn (wq_cnd_i hq1 ht1) hq2 h1r2) ⟨Nat.le_of_ble_eq_true rfl, Nat.le_of_ble_eq_true rfl⟩ ⟨Nat.le_of_ble_eq_true rfl, Nat.le_of_ble_eq_true rfl⟩ (wq_cnd_lt (wq_cnd_i hq1 ht1)) (wq_E_cnd (wq_cnd_i hq1 ht1)) rfl (fun _ h9 => h9) rfl rfl (Nat.le_of_ble_eq_true rfl) dX6_conditionsHold_24 rfl ?_
    refine wq_iload_n F dX6_conditionsHold_27 rfl rfl rfl ?_
    refine wq_icmp_ne (tgt := 43) F dX6_conditionsHold_28 (by decide) rfl (fun hc => ?_) (fun hc => ?_)
    · replace h := wq_iff hc h
      refine wq_iinc (L' := [some (.ref (b + 280)), some (.ref (b + q1)), some (.ref (b + q2)), some (.int (wq_I c3)), some (.int (wq_I (y4 + 1))), some (.ref (b + (q1 + 3 + t1)))]) F dX6_conditionsHold_43 rfl (by decide) rfl rfl rfl ?_
      refine wq_goto (tgt := 3) F dX6_conditionsHold_46 (by decide) ?_
      exact wq_lsub [some (.ref (b + 280)), some (.ref (b + q1)), some (.ref (b + q2)), some (.int (wq_I c3)), some (.int (wq_I (y4 + 1))), none] (by simp [wq_sub]) (hrec (y4 + 1) S3 h)
    · replace h := wq_ift hc h
      refine wq_aload_n F dX6_conditionsHold_31 rfl rfl rfl ?_
      refine wq_aload_n F dX6_conditionsHold_32 rfl rfl rfl ?_
      refine wq_aload F dX6_conditionsHold_33 rfl rfl ?_
      obtain ⟨r4, S5, h1r4, h⟩ := wq_bd_some h
      refine wq_callV (As := [.ref (b + q1), .ref (b + (q1 + 3 + t1))]) F lk_X6_119 (ct_X6_holds hq1 (wq_cnd_i hq1 ht1) h1r4) ⟨Nat.le_of_ble_eq_true rfl, Nat.le_of_ble_eq_true rfl⟩ ⟨Nat.le_of_ble_eq_true rfl, Nat.le_of_ble_eq_true rfl⟩ (Nat.le_of_ble_eq_true rfl) rfl rfl (fun _ h9 => h9) rfl rfl (Nat.le_of_ble_eq_true rfl) dX6_conditionsHold_35 rfl ?_
      refine wq_if_ne (tgt := 43) F dX6_conditionsHold_38 (by decide) rfl (fun hc => ?_) (fun hc => ?_)
      · replace h := wq_iff hc h
        refine wq_iinc (L' := [some (.ref (b + 280)), some (.ref (b + q1)), some (.ref (b + q2)), some (.int (wq_I c3)), some (.int (wq_I (y4 + 1))), some (.ref (b + (q1 + 3 + t1)))]) F dX6_conditionsHold_43 rfl (by decide) rfl rfl rfl ?_
        refine wq_goto (tgt := 3) F dX6_conditionsHold_46 (by decide) ?_
        exact wq_lsub [some (.ref (b + 280)), some (.ref (b + q1)), some (.ref (b + q2)), some (.int (wq_I c3)), some (.int (wq_I (y4 + 1))), none] (by simp [wq_sub]) (hrec (y4 + 1) S5 h)
      · replace h := wq_ift hc h
        refine wq_iconst (n := 0) F dX6_conditionsHold_41 rfl ?_
        cases h
        exact wq_zret F (by decide) rfl rfl dX6_conditionsHold_42
set_option maxHeartbeats 4000000 in
set_option maxRecDepth 100000 in
theorem tl_X6_conditionsHold_3 {p : Program} {l : Launch} {e : Env} {s : State} {m : MethodId} {args : Array Value} {below : List Frame} {meth : Method} {c : Code} {D : va_G} {Ar : Nat → ClassId} {b : Nat} (F : wq_Fr p s m args meth c cX6_conditionsHold 6 ((Option.some Jvm.ClassFile.FieldType.boolean)) "WharfQuery$Run" D Ar) {r0 : Int} {S0 : wq_St} {q1 : Nat} {q2 : Nat} {c3 : Int} (hq1 : wq_rep q1) (hq2 : wq_pln q2) {kx : wq_St → Option (Int × wq_St)} (hkx : ∀ (S : wq_St), kx S = some (r0, S0) → wq_Z p l e (wq_rm 3 0 0) s m args below meth c D (wq_EC Ar b) b 284 6 (wq_Ab b 284) (MQ below (wq_Qc D (wq_EC Ar b) b 284 (some (.int (wq_I r0))) S0) args s 0 0 (wq_Ab b 284)) 0 0 49 [none, none, none, none, none, none] [] S) (n : Nat) (y4 : Int) (S : wq_St) (h : l_X6_conditionsHold_3 q1 q2 c3 kx n y4 S = some (r0, S0)) : wq_Z p l e (wq_rm 3 0 0) s m args below meth c D (wq_EC Ar b) b 284 6 (wq_Ab b 284) (MQ below (wq_Qc D (wq_EC Ar b) b 284 (some (.int (wq_I r0))) S0) args s 0 0 (wq_Ab b 284)) 0 0 3 [some (.ref (b + 280)), some (.ref (b + q1)), some (.ref (b + q2)), some (.int (wq_I c3)), some (.int (wq_I y4)), none] [] S :=
  wq_loop_ind (f := fun (g : Int × wq_St → Option (Int × wq_St)) (x : Int × wq_St) => b_X6_conditionsHold_3 q1 q2 c3 kx (fun y4 S => g (y4, S)) x.1 x.2) (P := (fun x : Int × wq_St => wq_Z p l e (wq_rm 3 0 0) s m args below meth c D (wq_EC Ar b) b 284 6 (wq_Ab b 284) (MQ below (wq_Qc D (wq_EC Ar b) b 284 (some (.int (wq_I r0))) S0) args s 0 0 (wq_Ab b 284)) 0 0 3 [some (.ref (b + 280)), some (.ref (b + q1)), some (.ref (b + q2)), some (.int (wq_I c3)), some (.int (wq_I (x.1))), none] [] x.2)) (fun g hg x hx => tb_X6_conditionsHold_3 F hq1 hq2 hkx (fun y4 S h => hg (y4, S) h) x.1 x.2 hx) n (y4, S) h
set_option maxHeartbeats 4000000 in
set_option maxRecDepth 100000 in
theorem ct_X6_conditionsHold {l : Launch} {D : va_G} {Ar : Nat → ClassId} {b : Nat} {k1 : Nat} {k2 : Nat} {x3 : Int} {S S0 : wq_St} {r0 : Int} (hk1 : wq_rep k1) (hk2 : wq_pln k2) (h : f_X6_conditionsHold k1 k2 x3 S = some (r0, S0)) : wq_Ct l yX6_conditionsHold (.code yX6_conditionsHold cX6_conditionsHold 6 ((Option.some Jvm.ClassFile.FieldType.boolean))) 3 D Ar (wq_EC Ar b) b 284 [.ref (b + 280), .ref (b + k1), .ref (b + k2), .int (wq_I x3)] S (some (.int (wq_I r0))) S0 := by
  refine wq_start "WharfQuery$Run" [some (.ref (b + 280)), some (.ref (b + k1)), some (.ref (b + k2)), some (.int (wq_I x3)), none, none] (by decide +kernel) rfl (Nat.le_of_ble_eq_true rfl) rfl ?_
  intro p e s m args below meth c F
  unfold f_X6_conditionsHold at h
  refine wq_iconst (n := 0) F dX6_conditionsHold_0 rfl ?_
  refine wq_istore (L' := [some (.ref (b + 280)), some (.ref (b + k1)), some (.ref (b + k2)), some (.int (wq_I x3)), some (.int (wq_I 0)), none]) F dX6_conditionsHold_1 (by decide) rfl rfl rfl ?_
  refine wq_lsub [some (.ref (b + 280)), some (.ref (b + k1)), some (.ref (b + k2)), some (.int (wq_I x3)), some (.int (wq_I 0)), none] (by simp [wq_sub]) (tl_X6_conditionsHold_3 F hk1 hk2 (fun S6 h => ?_) wq_fu 0 S h)
  refine wq_iconst (n := 1) F dX6_conditionsHold_49 rfl ?_
  cases h
  exact wq_zret F (by decide) rfl rfl dX6_conditionsHold_50
set_option maxHeartbeats 4000000 in
set_option maxRecDepth 100000 in
theorem tj_X6_takeStep_121 {p : Program} {l : Launch} {e : Env} {s : State} {m : MethodId} {args : Array Value} {below : List Frame} {meth : Method} {c : Code} {D : va_G} {Ar : Nat → ClassId} {b : Nat} {nn : Nat} (F : wq_Fr p s m args meth c cX6_takeStep 9 ((Option.none : Option Jvm.ClassFile.FieldType)) "WharfQuery$Run" D Ar) {r0 : Int} {S0 : wq_St} (self : Nat → Nat → Int → wq_St → Option (Int × wq_St)) (hself : ∀ (k1 : Nat) (k2 : Nat) (x3 : Int) (S : wq_St) (r0 : Int) (S0 : wq_St), wq_rep k1 → wq_pln k2 → self k1 k2 x3 S = some (r0, S0) → wq_Ct l yX6_takeStep (.code yX6_takeStep cX6_takeStep 9 ((Option.none : Option Jvm.ClassFile.FieldType))) (4 + nn) D Ar (wq_EC Ar b) b 284 [.ref (b + 280), .ref (b + k1), .ref (b + k2), .int (wq_I x3)] S none S0) {kx : wq_St → Option (Int × wq_St)} {rec : Int → wq_St → Option (Int × wq_St)} {q1 : Nat} {q2 : Nat} {j3 : Int} {j4 : Int} {q5 : Nat} {j6 : Int} {j7 : Int} {j8 : Int} (hq1 : wq_rep q1) (hq2 : wq_pln q2) (hq5 : wq_tab q5) (hkx : ∀ (S : wq_St), kx S = some (r0, S0) → wq_Z p l e (wq_rm (4 + (nn + 1)) 0 0) s m args below meth c D (wq_EC Ar b) b 284 9 (wq_Ab b 284) (MQ below (wq_Qc D (wq_EC Ar b) b 284 none S0) args s 0 0 (wq_Ab b 284)) 0 0 165 [none, none, none, none, none, none, none, none, none] [] S) (hrec : ∀ (y8 : Int) (S : wq_St), rec y8 S = some (r0, S0) → wq_Z p l e (wq_rm (4 + (nn + 1)) 0 0) s m args below meth c D (wq_EC Ar b) b 284 9 (wq_Ab b 284) (MQ below (wq_Qc D (wq_EC Ar b) b 284 none S0) args s 0 0 (wq_Ab b 284)) 0 0 75 [some (.ref (b + 280)), some (.ref (b + q1)), some (.ref (b + q2)), some (.int (wq_I j3)), some (.int (wq_I j4)), some (.ref (b + q5)), some (.int (wq_I j6)), some (.int (wq_I j7)), some (.int (wq_I y8))] [] S) (S : wq_St) (h : j_X6_takeStep_121 self kx rec q1 q2 j3 j4 q5 j6 j7 j8 S = some (r0, S0)) : wq_Z p l e (wq_rm (4 + (nn + 1)) 0 0) s m args below meth c D (wq_EC Ar b) b 284 9 (wq_Ab b 284) (MQ below (wq_Qc D (wq_EC Ar b) b 284 none S0) args s 0 0 (wq_Ab b 284)) 0 0 121 [some (.ref (b + 280)), some (.ref (b + q1)), some (.ref (b + q2)), some (.int (wq_I j3)), some (.int (wq_I j4)), some (.ref (b + q5)), some (.int (wq_I j6)), some (.int (wq_I j7)), some (.int (wq_I j8))] [] S := by
  unfold j_X6_takeStep_121 at h
  refine wq_aload_n F dX6_takeStep_121 rfl rfl rfl ?_
  refine wq_dup1 F rfl dX6_takeStep_122 rfl ?_
  refine wq_g_X6_19 F dX6_takeStep_123 rfl ?_
  refine wq_iconst (n := 1) F dX6_takeStep_126 rfl ?_
  refine wq_iadd F dX6_takeStep_127 rfl ?_
  refine wq_p_X6_19 F (fun _ h9 => h9) dX6_takeStep_128 rfl ?_
  obtain ⟨S6, eS6, h⟩ := wq_lt_some h
  refine wq_namS eS6 ?_
  refine wq_aload_n F dX6_takeStep_131 rfl rfl rfl ?_
  refine wq_g_X6_9 F dX6_takeStep_132 rfl ?_
  refine wq_iload F dX6_takeStep_135 rfl rfl ?_
  refine wq_iload F dX6_takeStep_137 rfl rfl ?_
  obtain ⟨t7, ht7, wt7, h⟩ := wq_ix_some h
  refine wq_iast F (Nat.le_of_ble_eq_true rfl) wq_E_chosen wq_E_chosen ht7 wt7 ⟨Nat.le_add_right _ _, Nat.add_lt_add_left (Nat.le_of_ble_eq_true rfl) b⟩ dX6_takeStep_139 rfl ?_
  obtain ⟨S8, eS8, h⟩ := wq_lt_some h
  refine wq_namS eS8 ?_
  refine wq_aload_n F dX6_takeStep_140 rfl rfl rfl ?_
  refine wq_aload_n F dX6_takeStep_141 rfl rfl rfl ?_
  refine wq_aload_n F dX6_takeStep_142 rfl rfl rfl ?_
  refine wq_iload_n F dX6_takeStep_143 rfl rfl rfl ?_
  obtain ⟨r9, S10, h1r9, h⟩ := wq_bd_some h
  refine wq_callV (As := [.ref (b + q1), .ref (b + q2), .int (wq_I j3)]) F lk_X6_70 (ct_X6_conditionsHold hq1 hq2 h1r9) ⟨by show 3 + 1 ≤ (4 + (nn + 1)); omega, by show 8 + (6 + 11) + 40 * 3 ≤ 40 * (4 + (nn + 1)); omega⟩ ⟨Nat.le_of_ble_eq_true rfl, Nat.le_of_ble_eq_true rfl⟩ (Nat.le_of_ble_eq_true rfl) rfl rfl (fun _ h9 => h9) rfl rfl (Nat.le_of_ble_eq_true rfl) dX6_takeStep_144 rfl ?_
  refine wq_if_eq (tgt := 159) F dX6_takeStep_147 (by decide) rfl (fun hc => ?_) (fun hc => ?_)
  · replace h := wq_ift hc h
    refine wq_iinc (L' := [some (.ref (b + 280)), some (.ref (b + q1)), some (.ref (b + q2)), some (.int (wq_I j3)), some (.int (wq_I j4)), some (.ref (b + q5)), some (.int (wq_I j6)), some (.int (wq_I j7)), some (.int (wq_I (j8 + 1)))]) F dX6_takeStep_159 rfl (by decide) rfl rfl rfl ?_
    refine wq_goto (tgt := 75) F dX6_takeStep_162 (by decide) ?_
    exact wq_lsub [some (.ref (b + 280)), some (.ref (b + q1)), some (.ref (b + q2)), some (.int (wq_I j3)), some (.int (wq_I j4)), some (.ref (b + q5)), some (.int (wq_I j6)), some (.int (wq_I j7)), some (.int (wq_I (j8 + 1)))] (by simp [wq_sub]) (hrec (j8 + 1) S10 h)
  · replace h := wq_iff hc h
    refine wq_aload_n F dX6_takeStep_150 rfl rfl rfl ?_
    refine wq_aload_n F dX6_takeStep_151 rfl rfl rfl ?_
    refine wq_aload_n F dX6_takeStep_152 rfl rfl rfl ?_
    refine wq_iload_n F dX6_takeStep_153 rfl rfl rfl ?_
    refine wq_iconst (n := 1) F dX6_takeStep_154 rfl ?_
    refine wq_iadd F dX6_takeStep_155 rfl ?_
    obtain ⟨r11, S12, h1r11, h⟩ := wq_bd_some h
    refine wq_callS (As := [.ref (b + 280), .ref (b + q1), .ref (b + q2), .int (wq_I (j3 + 1))]) F lk_X6_34 (hself _ _ _ _ _ _ hq1 hq2 h1r11) ⟨by show (4 + nn) + 1 ≤ (4 + (nn + 1)); omega, by show 8 + (9 + 11) + 40 * (4 + nn) ≤ 40 * (4 + (nn + 1)); omega⟩ ⟨Nat.le_of_ble_eq_true rfl, Nat.le_of_ble_eq_true rfl⟩ (fun _ h9 => h9) rfl rfl (Nat.le_of_ble_eq_true rfl) dX6_takeStep_156 rfl ?_
    refine wq_iinc (L' := [some (.ref (b + 280)), some (.ref (b + q1)), some (.ref (b + q2)), some (.int (wq_I j3)), some (.int (wq_I j4)), some (.ref (b + q5)), some (.int (wq_I j6)), some (.int (wq_I j7)), some (.int (wq_I (j8 + 1)))]) F dX6_takeStep_159 rfl (by decide) rfl rfl rfl ?_
    refine wq_goto (tgt := 75) F dX6_takeStep_162 (by decide) ?_
    exact wq_lsub [some (.ref (b + 280)), some (.ref (b + q1)), some (.ref (b + q2)), some (.int (wq_I j3)), some (.int (wq_I j4)), some (.ref (b + q5)), some (.int (wq_I j6)), some (.int (wq_I j7)), some (.int (wq_I (j8 + 1)))] (by simp [wq_sub]) (hrec (j8 + 1) S12 h)
set_option maxHeartbeats 4000000 in
set_option maxRecDepth 100000 in
theorem tb_X6_takeStep_75 {p : Program} {l : Launch} {e : Env} {s : State} {m : MethodId} {args : Array Value} {below : List Frame} {meth : Method} {c : Code} {D : va_G} {Ar : Nat → ClassId} {b : Nat} {nn : Nat} (F : wq_Fr p s m args meth c cX6_takeStep 9 ((Option.none : Option Jvm.ClassFile.FieldType)) "WharfQuery$Run" D Ar) {r0 : Int} {S0 : wq_St} (self : Nat → Nat → Int → wq_St → Option (Int × wq_St)) (hself : ∀ (k1 : Nat) (k2 : Nat) (x3 : Int) (S : wq_St) (r0 : Int) (S0 : wq_St), wq_rep k1 → wq_pln k2 → self k1 k2 x3 S = some (r0, S0) → wq_Ct l yX6_takeStep (.code yX6_takeStep cX6_takeStep 9 ((Option.none : Option Jvm.ClassFile.FieldType))) (4 + nn) D Ar (wq_EC Ar b) b 284 [.ref (b + 280), .ref (b + k1), .ref (b + k2), .int (wq_I x3)] S none S0) {q1 : Nat} {q2 : Nat} {c3 : Int} {c4 : Int} {q5 : Nat} {c6 : Int} {c7 : Int} (hq1 : wq_rep q1) (hq2 : wq_pln q2) (hq5 : wq_tab q5) {kx : wq_St → Option (Int × wq_St)} (hkx : ∀ (S : wq_St), kx S = some (r0, S0) → wq_Z p l e (wq_rm (4 + (nn + 1)) 0 0) s m args below meth c D (wq_EC Ar b) b 284 9 (wq_Ab b 284) (MQ below (wq_Qc D (wq_EC Ar b) b 284 none S0) args s 0 0 (wq_Ab b 284)) 0 0 165 [none, none, none, none, none, none, none, none, none] [] S) {rec : Int → wq_St → Option (Int × wq_St)} (hrec : ∀ (y8 : Int) (S : wq_St), rec y8 S = some (r0, S0) → wq_Z p l e (wq_rm (4 + (nn + 1)) 0 0) s m args below meth c D (wq_EC Ar b) b 284 9 (wq_Ab b 284) (MQ below (wq_Qc D (wq_EC Ar b) b 284 none S0) args s 0 0 (wq_Ab b 284)) 0 0 75 [some (.ref (b + 280)), some (.ref (b + q1)), some (.ref (b + q2)), some (.int (wq_I c3)), some (.int (wq_I c4)), some (.ref (b + q5)), some (.int (wq_I c6)), some (.int (wq_I c7)), some (.int (wq_I y8))] [] S) (y8 : Int) (S : wq_St) (h : b_X6_takeStep_75 self q1 q2 c3 c4 q5 c6 c7 kx rec y8 S = some (r0, S0)) : wq_Z p l e (wq_rm (4 + (nn + 1)) 0 0) s m args below meth c D (wq_EC Ar b) b 284 9 (wq_Ab b 284) (MQ below (wq_Qc D (wq_EC Ar b) b 284 none S0) args s 0 0 (wq_Ab b 284)) 0 0 75 [some (.ref (b + 280)), some (.ref (b + q1)), some (.ref (b + q2)), some (.int (wq_I c3)), some (.int (wq_I c4)), some (.ref (b + q5)), some (.int (wq_I c6)), some (.int (wq_I c7)), some (.int (wq_I y8))] [] S := by
  unfold b_X6_takeStep_75 at h
  refine wq_iload F dX6_takeStep_75 rfl rfl ?_
  refine wq_aload F dX6_takeStep_77 rfl rfl ?_
  refine wq_g_X6_57 F hq5 dX6_takeStep_79 rfl ?_
  refine wq_icmp_ge (tgt := 165) F dX6_takeStep_82 (by decide) rfl (fun hc => ?_) (fun hc => ?_)
  · replace h := wq_ift hc h
    exact wq_lsub [none, none, none, none, none, none, none, none, none] (by simp [wq_sub]) (hkx S h)
  · replace h := wq_iff hc h
    refine wq_aload F dX6_takeStep_85 rfl rfl ?_
    refine wq_g_X6_62 F hq5 dX6_takeStep_87 rfl ?_
    refine wq_iload F dX6_takeStep_90 rfl rfl ?_
    obtain ⟨t5, ht5, wt5, h⟩ := wq_ix_some h
    refine wq_zald F (wq_tab_lt43 hq5) (wq_E_there hq5) ht5 wt5 dX6_takeStep_92 rfl ?_
    refine wq_if_eq (tgt := 159) F dX6_takeStep_93 (by decide) rfl (fun hc => ?_) (fun hc => ?_)
    · replace h := wq_ift hc h
      refine wq_iinc (L' := [some (.ref (b + 280)), some (.ref (b + q1)), some (.ref (b + q2)), some (.int (wq_I c3)), some (.int (wq_I c4)), some (.ref (b + q5)), some (.int (wq_I c6)), some (.int (wq_I c7)), some (.int (wq_I (y8 + 1)))]) F dX6_takeStep_159 rfl (by decide) rfl rfl rfl ?_
      refine wq_goto (tgt := 75) F dX6_takeStep_162 (by decide) ?_
      exact wq_lsub [some (.ref (b + 280)), some (.ref (b + q1)), some (.ref (b + q2)), some (.int (wq_I c3)), some (.int (wq_I c4)), some (.ref (b + q5)), some (.int (wq_I c6)), some (.int (wq_I c7)), some (.int (wq_I (y8 + 1)))] (by simp [wq_sub]) (hrec (y8 + 1) S h)
    · replace h := wq_iff hc h
      refine wq_iload F dX6_takeStep_96 rfl rfl ?_
      refine wq_iconst (n := -1) F dX6_takeStep_98 rfl ?_
      refine wq_icmp_eq (tgt := 121) F dX6_takeStep_99 (by decide) rfl (fun hc => ?_) (fun hc => ?_)
      · replace h := wq_ift hc h
        exact wq_lsub [some (.ref (b + 280)), some (.ref (b + q1)), some (.ref (b + q2)), some (.int (wq_I c3)), some (.int (wq_I c4)), some (.ref (b + q5)), some (.int (wq_I c6)), some (.int (wq_I c7)), some (.int (wq_I y8))] (by simp [wq_sub]) (tj_X6_takeStep_121 F self hself hq1 hq2 hq5 hkx hrec S h)
      · replace h := wq_iff hc h
        refine wq_aload F dX6_takeStep_102 rfl rfl ?_
        refine wq_g_X6_66 F hq5 dX6_takeStep_104 rfl ?_
        refine wq_iload F dX6_takeStep_107 rfl rfl ?_
        obtain ⟨t13, ht13, wt13, h⟩ := wq_ix_some h
        refine wq_aald F (wq_tab_lt2 hq5) (wq_E_vals hq5) rfl rfl ht13 wt13 dX6_takeStep_109 rfl ?_
        refine wq_iload F dX6_takeStep_110 rfl rfl ?_
        obtain ⟨t14, ht14, wt14, h⟩ := wq_ix_some h
        refine wq_iald F (wq_row_lt hq5 ht13) (wq_E_row hq5 ht13) ht14 wt14 dX6_takeStep_112 rfl ?_
        refine wq_iload F dX6_takeStep_113 rfl rfl ?_
        refine wq_icmp_eq (tgt := 121) F dX6_takeStep_115 (by decide) rfl (fun hc => ?_) (fun hc => ?_)
        · replace h := wq_ift hc h
          exact wq_lsub [some (.ref (b + 280)), some (.ref (b + q1)), some (.ref (b + q2)), some (.int (wq_I c3)), some (.int (wq_I c4)), some (.ref (b + q5)), some (.int (wq_I c6)), some (.int (wq_I c7)), some (.int (wq_I y8))] (by simp [wq_sub]) (tj_X6_takeStep_121 F self hself hq1 hq2 hq5 hkx hrec S h)
        · replace h := wq_iff hc h
          refine wq_goto (tgt := 159) F dX6_takeStep_118 (by decide) ?_
          refine wq_iinc (L' := [some (.ref (b + 280)), some (.ref (b + q1)), some (.ref (b + q2)), some (.int (wq_I c3)), some (.int (wq_I c4)), some (.ref (b + q5)), some (.int (wq_I c6)), some (.int (wq_I c7)), some (.int (wq_I (y8 + 1)))]) F dX6_takeStep_159 rfl (by decide) rfl rfl rfl ?_
          refine wq_goto (tgt := 75) F dX6_takeStep_162 (by decide) ?_
          exact wq_lsub [some (.ref (b + 280)), some (.ref (b + q1)), some (.ref (b + q2)), some (.int (wq_I c3)), some (.int (wq_I c4)), some (.ref (b + q5)), some (.int (wq_I c6)), some (.int (wq_I c7)), some (.int (wq_I (y8 + 1)))] (by simp [wq_sub]) (hrec (y8 + 1) S h)
set_option maxHeartbeats 4000000 in
set_option maxRecDepth 100000 in
theorem tl_X6_takeStep_75 {p : Program} {l : Launch} {e : Env} {s : State} {m : MethodId} {args : Array Value} {below : List Frame} {meth : Method} {c : Code} {D : va_G} {Ar : Nat → ClassId} {b : Nat} {nn : Nat} (F : wq_Fr p s m args meth c cX6_takeStep 9 ((Option.none : Option Jvm.ClassFile.FieldType)) "WharfQuery$Run" D Ar) {r0 : Int} {S0 : wq_St} (self : Nat → Nat → Int → wq_St → Option (Int × wq_St)) (hself : ∀ (k1 : Nat) (k2 : Nat) (x3 : Int) (S : wq_St) (r0 : Int) (S0 : wq_St), wq_rep k1 → wq_pln k2 → self k1 k2 x3 S = some (r0, S0) → wq_Ct l yX6_takeStep (.code yX6_takeStep cX6_takeStep 9 ((Option.none : Option Jvm.ClassFile.FieldType))) (4 + nn) D Ar (wq_EC Ar b) b 284 [.ref (b + 280), .ref (b + k1), .ref (b + k2), .int (wq_I x3)] S none S0) {q1 : Nat} {q2 : Nat} {c3 : Int} {c4 : Int} {q5 : Nat} {c6 : Int} {c7 : Int} (hq1 : wq_rep q1) (hq2 : wq_pln q2) (hq5 : wq_tab q5) {kx : wq_St → Option (Int × wq_St)} (hkx : ∀ (S : wq_St), kx S = some (r0, S0) → wq_Z p l e (wq_rm (4 + (nn + 1)) 0 0) s m args below meth c D (wq_EC Ar b) b 284 9 (wq_Ab b 284) (MQ below (wq_Qc D (wq_EC Ar b) b 284 none S0) args s 0 0 (wq_Ab b 284)) 0 0 165 [none, none, none, none, none, none, none, none, none] [] S) (n : Nat) (y8 : Int) (S : wq_St) (h : l_X6_takeStep_75 self q1 q2 c3 c4 q5 c6 c7 kx n y8 S = some (r0, S0)) : wq_Z p l e (wq_rm (4 + (nn + 1)) 0 0) s m args below meth c D (wq_EC Ar b) b 284 9 (wq_Ab b 284) (MQ below (wq_Qc D (wq_EC Ar b) b 284 none S0) args s 0 0 (wq_Ab b 284)) 0 0 75 [some (.ref (b + 280)), some (.ref (b + q1)), some (.ref (b + q2)), some (.int (wq_I c3)), some (.int (wq_I c4)), some (.ref (b + q5)), some (.int (wq_I c6)), some (.int (wq_I c7)), some (.int (wq_I y8))] [] S :=
  wq_loop_ind (f := fun (g : Int × wq_St → Option (Int × wq_St)) (x : Int × wq_St) => b_X6_takeStep_75 self q1 q2 c3 c4 q5 c6 c7 kx (fun y8 S => g (y8, S)) x.1 x.2) (P := (fun x : Int × wq_St => wq_Z p l e (wq_rm (4 + (nn + 1)) 0 0) s m args below meth c D (wq_EC Ar b) b 284 9 (wq_Ab b 284) (MQ below (wq_Qc D (wq_EC Ar b) b 284 none S0) args s 0 0 (wq_Ab b 284)) 0 0 75 [some (.ref (b + 280)), some (.ref (b + q1)), some (.ref (b + q2)), some (.int (wq_I c3)), some (.int (wq_I c4)), some (.ref (b + q5)), some (.int (wq_I c6)), some (.int (wq_I c7)), some (.int (wq_I (x.1)))] [] x.2)) (fun g hg x hx => tb_X6_takeStep_75 F self hself hq1 hq2 hq5 hkx (fun y8 S h => hg (y8, S) h) x.1 x.2 hx) n (y8, S) h
set_option maxHeartbeats 4000000 in
set_option maxRecDepth 100000 in
theorem tj_X6_takeStep_72 {p : Program} {l : Launch} {e : Env} {s : State} {m : MethodId} {args : Array Value} {below : List Frame} {meth : Method} {c : Code} {D : va_G} {Ar : Nat → ClassId} {b : Nat} {nn : Nat} (F : wq_Fr p s m args meth c cX6_takeStep 9 ((Option.none : Option Jvm.ClassFile.FieldType)) "WharfQuery$Run" D Ar) {r0 : Int} {S0 : wq_St} (self : Nat → Nat → Int → wq_St → Option (Int × wq_St)) (hself : ∀ (k1 : Nat) (k2 : Nat) (x3 : Int) (S : wq_St) (r0 : Int) (S0 : wq_St), wq_rep k1 → wq_pln k2 → self k1 k2 x3 S = some (r0, S0) → wq_Ct l yX6_takeStep (.code yX6_takeStep cX6_takeStep 9 ((Option.none : Option Jvm.ClassFile.FieldType))) (4 + nn) D Ar (wq_EC Ar b) b 284 [.ref (b + 280), .ref (b + k1), .ref (b + k2), .int (wq_I x3)] S none S0) {q1 : Nat} {q2 : Nat} {j3 : Int} {j4 : Int} {q5 : Nat} {j6 : Int} {j7 : Int} (hq1 : wq_rep q1) (hq2 : wq_pln q2) (hq5 : wq_tab q5) (S : wq_St) (h : j_X6_takeStep_72 self q1 q2 j3 j4 q5 j6 j7 S = some (r0, S0)) : wq_Z p l e (wq_rm (4 + (nn + 1)) 0 0) s m args below meth c D (wq_EC Ar b) b 284 9 (wq_Ab b 284) (MQ below (wq_Qc D (wq_EC Ar b) b 284 none S0) args s 0 0 (wq_Ab b 284)) 0 0 72 [some (.ref (b + 280)), some (.ref (b + q1)), some (.ref (b + q2)), some (.int (wq_I j3)), some (.int (wq_I j4)), some (.ref (b + q5)), some (.int (wq_I j6)), some (.int (wq_I j7)), none] [] S := by
  unfold j_X6_takeStep_72 at h
  refine wq_iconst (n := 0) F dX6_takeStep_72 rfl ?_
  refine wq_istore (L' := [some (.ref (b + 280)), some (.ref (b + q1)), some (.ref (b + q2)), some (.int (wq_I j3)), some (.int (wq_I j4)), some (.ref (b + q5)), some (.int (wq_I j6)), some (.int (wq_I j7)), some (.int (wq_I 0))]) F dX6_takeStep_73 (by decide) rfl rfl rfl ?_
  refine wq_lsub [some (.ref (b + 280)), some (.ref (b + q1)), some (.ref (b + q2)), some (.int (wq_I j3)), some (.int (wq_I j4)), some (.ref (b + q5)), some (.int (wq_I j6)), some (.int (wq_I j7)), some (.int (wq_I 0))] (by simp [wq_sub]) (tl_X6_takeStep_75 F self hself hq1 hq2 hq5 (fun S15 h => ?_) wq_fu 0 S h)
  cases h
  exact wq_vret F rfl rfl dX6_takeStep_165
set_option maxHeartbeats 4000000 in
set_option maxRecDepth 100000 in
theorem tf_X6_takeStep {l : Launch} {D : va_G} {Ar : Nat → ClassId} {b : Nat} {nn : Nat} (self : Nat → Nat → Int → wq_St → Option (Int × wq_St)) (hself : ∀ (k1 : Nat) (k2 : Nat) (x3 : Int) (S : wq_St) (r0 : Int) (S0 : wq_St), wq_rep k1 → wq_pln k2 → self k1 k2 x3 S = some (r0, S0) → wq_Ct l yX6_takeStep (.code yX6_takeStep cX6_takeStep 9 ((Option.none : Option Jvm.ClassFile.FieldType))) (4 + nn) D Ar (wq_EC Ar b) b 284 [.ref (b + 280), .ref (b + k1), .ref (b + k2), .int (wq_I x3)] S none S0) {k1 : Nat} {k2 : Nat} {x3 : Int} {S S0 : wq_St} {r0 : Int} (hk1 : wq_rep k1) (hk2 : wq_pln k2) (h : fb_X6_takeStep self k1 k2 x3 S = some (r0, S0)) : wq_Ct l yX6_takeStep (.code yX6_takeStep cX6_takeStep 9 ((Option.none : Option Jvm.ClassFile.FieldType))) (4 + (nn + 1)) D Ar (wq_EC Ar b) b 284 [.ref (b + 280), .ref (b + k1), .ref (b + k2), .int (wq_I x3)] S none S0 := by
  refine wq_start "WharfQuery$Run" [some (.ref (b + 280)), some (.ref (b + k1)), some (.ref (b + k2)), some (.int (wq_I x3)), none, none, none, none, none] (by decide +kernel) rfl (Nat.le_of_ble_eq_true rfl) rfl ?_
  intro p e s m args below meth c F
  unfold fb_X6_takeStep at h
  refine wq_iload_n F dX6_takeStep_0 rfl rfl rfl ?_
  refine wq_aload_n F dX6_takeStep_1 rfl rfl rfl ?_
  refine wq_g_X6_29 F hk1 dX6_takeStep_2 rfl ?_
  refine wq_icmp_lt (tgt := 14) F dX6_takeStep_5 (by decide) rfl (fun hc => ?_) (fun hc => ?_)
  · replace h := wq_ift hc h
    refine wq_aload_n F dX6_takeStep_14 rfl rfl rfl ?_
    refine wq_g_X6_42 F hk2 dX6_takeStep_15 rfl ?_
    refine wq_iload_n F dX6_takeStep_18 rfl rfl rfl ?_
    obtain ⟨t1, ht1, wt1, h⟩ := wq_ix_some h
    refine wq_iald F (wq_pln_lt1 hk2) (wq_E_pln1 hk2) ht1 wt1 dX6_takeStep_19 rfl ?_
    refine wq_istore (L' := [some (.ref (b + 280)), some (.ref (b + k1)), some (.ref (b + k2)), some (.int (wq_I x3)), some (.int (wq_I (S (k2 + 1) t1))), none, none, none, none]) F dX6_takeStep_20 (by decide) rfl rfl rfl ?_
    refine wq_aload_n F dX6_takeStep_22 rfl rfl rfl ?_
    refine wq_g_X6_15 F dX6_takeStep_23 rfl ?_
    refine wq_aload_n F dX6_takeStep_26 rfl rfl rfl ?_
    refine wq_g_X6_47 F hk1 dX6_takeStep_27 rfl ?_
    refine wq_iload F dX6_takeStep_30 rfl rfl ?_
    obtain ⟨t2, ht2, wt2, h⟩ := wq_ix_some h
    refine wq_iald F (wq_rep_lt1 hk1) (wq_E_srcs hk1) ht2 wt2 dX6_takeStep_32 rfl ?_
    obtain ⟨t3, ht3, wt3, h⟩ := wq_ix_some h
    refine wq_aald F (Nat.le_of_ble_eq_true rfl) wq_E_tabs rfl rfl ht3 wt3 dX6_takeStep_33 rfl ?_
    refine wq_astore (L' := [some (.ref (b + 280)), some (.ref (b + k1)), some (.ref (b + k2)), some (.int (wq_I x3)), some (.int (wq_I (S (k2 + 1) t1))), some (.ref (b + (6 + 48 * t3))), none, none, none]) F dX6_takeStep_34 (by decide) rfl rfl rfl ?_
    refine wq_aload_n F dX6_takeStep_36 rfl rfl rfl ?_
    refine wq_g_X6_50 F hk2 dX6_takeStep_37 rfl ?_
    refine wq_iload_n F dX6_takeStep_40 rfl rfl rfl ?_
    obtain ⟨t4, ht4, wt4, h⟩ := wq_ix_some h
    refine wq_iald F (wq_pln_lt2 hk2) (wq_E_pln2 hk2) ht4 wt4 dX6_takeStep_41 rfl ?_
    refine wq_istore (L' := [some (.ref (b + 280)), some (.ref (b + k1)), some (.ref (b + k2)), some (.int (wq_I x3)), some (.int (wq_I (S (k2 + 1) t1))), some (.ref (b + (6 + 48 * t3))), some (.int (wq_I (S (k2 + 2) t4))), none, none]) F dX6_takeStep_42 (by decide) rfl rfl rfl ?_
    refine wq_iconst (n := -1) F dX6_takeStep_44 rfl ?_
    refine wq_istore (L' := [some (.ref (b + 280)), some (.ref (b + k1)), some (.ref (b + k2)), some (.int (wq_I x3)), some (.int (wq_I (S (k2 + 1) t1))), some (.ref (b + (6 + 48 * t3))), some (.int (wq_I (S (k2 + 2) t4))), some (.int (wq_I (-1))), none]) F dX6_takeStep_45 (by decide) rfl rfl rfl ?_
    refine wq_iload F dX6_takeStep_47 rfl rfl ?_
    refine wq_iconst (n := -1) F dX6_takeStep_49 rfl ?_
    refine wq_icmp_eq (tgt := 72) F dX6_takeStep_50 (by decide) rfl (fun hc => ?_) (fun hc => ?_)
    · replace h := wq_ift hc h
      exact wq_lsub [some (.ref (b + 280)), some (.ref (b + k1)), some (.ref (b + k2)), some (.int (wq_I x3)), some (.int (wq_I (S (k2 + 1) t1))), some (.ref (b + (6 + 48 * t3))), some (.int (wq_I (S (k2 + 2) t4))), some (.int (wq_I (-1))), none] (by simp [wq_sub]) (tj_X6_takeStep_72 F self hself hk1 hk2 (wq_tab_i ht3) S h)
    · replace h := wq_iff hc h
      refine wq_aload_n F dX6_takeStep_53 rfl rfl rfl ?_
      refine wq_aload_n F dX6_takeStep_54 rfl rfl rfl ?_
      refine wq_aload_n F dX6_takeStep_55 rfl rfl rfl ?_
      refine wq_iload_n F dX6_takeStep_56 rfl rfl rfl ?_
      obtain ⟨r16, S17, h1r16, h⟩ := wq_bd_some h
      refine wq_callV (As := [.ref (b + k1), .ref (b + k2), .int (wq_I x3)]) F lk_X6_53 (ct_X6_valueLookedFor hk1 hk2 h1r16) ⟨by show 3 + 1 ≤ (4 + (nn + 1)); omega, by show 8 + (6 + 11) + 40 * 3 ≤ 40 * (4 + (nn + 1)); omega⟩ ⟨Nat.le_of_ble_eq_true rfl, Nat.le_of_ble_eq_true rfl⟩ (Nat.le_of_ble_eq_true rfl) rfl rfl (fun _ h9 => h9) rfl rfl (Nat.le_of_ble_eq_true rfl) dX6_takeStep_57 rfl ?_
      refine wq_istore (L' := [some (.ref (b + 280)), some (.ref (b + k1)), some (.ref (b + k2)), some (.int (wq_I x3)), some (.int (wq_I (S (k2 + 1) t1))), some (.ref (b + (6 + 48 * t3))), some (.int (wq_I (S (k2 + 2) t4))), some (.int (wq_I r16)), none]) F dX6_takeStep_60 (by decide) rfl rfl rfl ?_
      refine wq_aload_n F dX6_takeStep_62 rfl rfl rfl ?_
      refine wq_dup1 F rfl dX6_takeStep_63 rfl ?_
      refine wq_g_X6_19 F dX6_takeStep_64 rfl ?_
      refine wq_iconst (n := 1) F dX6_takeStep_67 rfl ?_
      refine wq_iadd F dX6_takeStep_68 rfl ?_
      refine wq_p_X6_19 F (fun _ h9 => h9) dX6_takeStep_69 rfl ?_
      obtain ⟨S18, eS18, h⟩ := wq_lt_some h
      refine wq_namS eS18 ?_
      exact wq_lsub [some (.ref (b + 280)), some (.ref (b + k1)), some (.ref (b + k2)), some (.int (wq_I x3)), some (.int (wq_I (S (k2 + 1) t1))), some (.ref (b + (6 + 48 * t3))), some (.int (wq_I (S (k2 + 2) t4))), some (.int (wq_I r16)), none] (by simp [wq_sub]) (tj_X6_takeStep_72 F self hself hk1 hk2 (wq_tab_i ht3) S18 h)
  · replace h := wq_iff hc h
    refine wq_aload_n F dX6_takeStep_8 rfl rfl rfl ?_
    refine wq_aload_n F dX6_takeStep_9 rfl rfl rfl ?_
    obtain ⟨r19, S20, h1r19, h⟩ := wq_bd_some h
    refine wq_callV (As := [.ref (b + k1)]) F lk_X6_38 (ct_X6_countChoice hk1 h1r19) ⟨by show 2 + 1 ≤ (4 + (nn + 1)); omega, by show 8 + (2 + 11) + 40 * 2 ≤ 40 * (4 + (nn + 1)); omega⟩ ⟨Nat.le_of_ble_eq_true rfl, Nat.le_of_ble_eq_true rfl⟩ (Nat.le_of_ble_eq_true rfl) rfl rfl (fun _ h9 => h9) rfl rfl (Nat.le_of_ble_eq_true rfl) dX6_takeStep_10 rfl ?_
    cases h
    exact wq_vret F rfl rfl dX6_takeStep_13
set_option maxHeartbeats 4000000 in
set_option maxRecDepth 100000 in
theorem ct_X6_takeStep {l : Launch} {D : va_G} {Ar : Nat → ClassId} {b : Nat} : ∀ (nn : Nat) {k1 : Nat} {k2 : Nat} {x3 : Int} {S S0 : wq_St} {r0 : Int} (hk1 : wq_rep k1) (hk2 : wq_pln k2) (h : f_X6_takeStep nn k1 k2 x3 S = some (r0, S0)), wq_Ct l yX6_takeStep (.code yX6_takeStep cX6_takeStep 9 ((Option.none : Option Jvm.ClassFile.FieldType))) (4 + nn) D Ar (wq_EC Ar b) b 284 [.ref (b + 280), .ref (b + k1), .ref (b + k2), .int (wq_I x3)] S none S0
  | 0, _, _, _, _, _, _, _, _, h => by cases h
  | n + 1, _, _, _, _, _, _, hk1, hk2, h => tf_X6_takeStep (nn := n) (f_X6_takeStep n) (fun k1 k2 x3 S r0 S0 hk1 hk2 h => ct_X6_takeStep n hk1 hk2 h) hk1 hk2 h
set_option maxHeartbeats 4000000 in
set_option maxRecDepth 100000 in
theorem ct_X6_goThrough {l : Launch} {D : va_G} {Ar : Nat → ClassId} {b : Nat} {k1 : Nat} {k2 : Nat} {S S0 : wq_St} {r0 : Int} (hk1 : wq_rep k1) (hk2 : wq_pln k2) (h : f_X6_goThrough k1 k2 S = some (r0, S0)) : wq_Ct l yX6_goThrough (.code yX6_goThrough cX6_goThrough 3 ((Option.none : Option Jvm.ClassFile.FieldType))) 12 D Ar (wq_EC Ar b) b 284 [.ref (b + 280), .ref (b + k1), .ref (b + k2)] S none S0 := by
  refine wq_start "WharfQuery$Run" [some (.ref (b + 280)), some (.ref (b + k1)), some (.ref (b + k2))] (by decide +kernel) rfl (Nat.le_of_ble_eq_true rfl) rfl ?_
  intro p e s m args below meth c F
  unfold f_X6_goThrough at h
  refine wq_aload_n F dX6_goThrough_0 rfl rfl rfl ?_
  refine wq_iconst (n := 0) F dX6_goThrough_1 rfl ?_
  refine wq_p_X6_19 F (fun _ h9 => h9) dX6_goThrough_2 rfl ?_
  obtain ⟨S1, eS1, h⟩ := wq_lt_some h
  refine wq_namS eS1 ?_
  refine wq_aload_n F dX6_goThrough_5 rfl rfl rfl ?_
  refine wq_iconst (n := 0) F dX6_goThrough_6 rfl ?_
  refine wq_p_X6_23 F (fun _ h9 => h9) dX6_goThrough_7 rfl ?_
  obtain ⟨S2, eS2, h⟩ := wq_lt_some h
  refine wq_namS eS2 ?_
  refine wq_aload_n F dX6_goThrough_10 rfl rfl rfl ?_
  refine wq_iconst (n := 0) F dX6_goThrough_11 rfl ?_
  refine wq_p_X6_26 F (fun _ h9 => h9) dX6_goThrough_12 rfl ?_
  obtain ⟨S3, eS3, h⟩ := wq_lt_some h
  refine wq_namS eS3 ?_
  refine wq_aload_n F dX6_goThrough_15 rfl rfl rfl ?_
  refine wq_g_X6_29 F hk1 dX6_goThrough_16 rfl ?_
  refine wq_if_le (tgt := 29) F dX6_goThrough_19 (by decide) rfl (fun hc => ?_) (fun hc => ?_)
  · replace h := wq_ift hc h
    cases h
    exact wq_vret F rfl rfl dX6_goThrough_29
  · replace h := wq_iff hc h
    refine wq_aload_n F dX6_goThrough_22 rfl rfl rfl ?_
    refine wq_aload_n F dX6_goThrough_23 rfl rfl rfl ?_
    refine wq_aload_n F dX6_goThrough_24 rfl rfl rfl ?_
    refine wq_iconst (n := 0) F dX6_goThrough_25 rfl ?_
    obtain ⟨r4, S5, h1r4, h⟩ := wq_bd_some h
    refine wq_callS (As := [.ref (b + 280), .ref (b + k1), .ref (b + k2), .int (wq_I 0)]) F lk_X6_34 (ct_X6_takeStep wq_dp hk1 hk2 h1r4) ⟨Nat.le_of_ble_eq_true rfl, Nat.le_of_ble_eq_true rfl⟩ ⟨Nat.le_of_ble_eq_true rfl, Nat.le_of_ble_eq_true rfl⟩ (fun _ h9 => h9) rfl rfl (Nat.le_of_ble_eq_true rfl) dX6_goThrough_26 rfl ?_
    cases h
    exact wq_vret F rfl rfl dX6_goThrough_29
set_option maxHeartbeats 4000000 in
set_option maxRecDepth 100000 in
theorem tb_X3_becomePlain_2 {p : Program} {l : Launch} {e : Env} {s : State} {m : MethodId} {args : Array Value} {below : List Frame} {meth : Method} {c : Code} {D : va_G} {Ar : Nat → ClassId} {b : Nat} (F : wq_Fr p s m args meth c cX3_becomePlain 3 ((Option.none : Option Jvm.ClassFile.FieldType)) "WharfQuery$Plan" D Ar) {r0 : Int} {S0 : wq_St} {q0 : Nat} {c1 : Int} (hq0 : wq_pln q0) {kx : wq_St → Option (Int × wq_St)} (hkx : ∀ (S : wq_St), kx S = some (r0, S0) → wq_Z p l e (wq_rm 2 0 0) s m args below meth c D (wq_EC Ar b) b 284 3 (wq_Ab b 284) (MQ below (wq_Qc D (wq_EC Ar b) b 284 none S0) args s 0 0 (wq_Ab b 284)) 0 0 26 [none, none, none] [] S) {rec : Int → wq_St → Option (Int × wq_St)} (hrec : ∀ (y2 : Int) (S : wq_St), rec y2 S = some (r0, S0) → wq_Z p l e (wq_rm 2 0 0) s m args below meth c D (wq_EC Ar b) b 284 3 (wq_Ab b 284) (MQ below (wq_Qc D (wq_EC Ar b) b 284 none S0) args s 0 0 (wq_Ab b 284)) 0 0 2 [some (.ref (b + q0)), some (.int (wq_I c1)), some (.int (wq_I y2))] [] S) (y2 : Int) (S : wq_St) (h : b_X3_becomePlain_2 q0 c1 kx rec y2 S = some (r0, S0)) : wq_Z p l e (wq_rm 2 0 0) s m args below meth c D (wq_EC Ar b) b 284 3 (wq_Ab b 284) (MQ below (wq_Qc D (wq_EC Ar b) b 284 none S0) args s 0 0 (wq_Ab b 284)) 0 0 2 [some (.ref (b + q0)), some (.int (wq_I c1)), some (.int (wq_I y2))] [] S := by
  unfold b_X3_becomePlain_2 at h
  refine wq_iload_n F dX3_becomePlain_2 rfl rfl rfl ?_
  refine wq_iload_n F dX3_becomePlain_3 rfl rfl rfl ?_
  refine wq_icmp_ge (tgt := 26) F dX3_becomePlain_4 (by decide) rfl (fun hc => ?_) (fun hc => ?_)
  · replace h := wq_ift hc h
    exact wq_lsub [none, none, none] (by simp [wq_sub]) (hkx S h)
  · replace h := wq_iff hc h
    refine wq_aload_n F dX3_becomePlain_7 rfl rfl rfl ?_
    refine wq_iload_n F dX3_becomePlain_8 rfl rfl rfl ?_
    refine wq_iload_n F dX3_becomePlain_9 rfl rfl rfl ?_
    obtain ⟨r1, S2, h1r1, h⟩ := wq_bd_some h
    refine wq_callV (As := [.int (wq_I y2), .int (wq_I y2)]) F lk_X3_21 (ct_X3_place hq0 h1r1) ⟨Nat.le_of_ble_eq_true rfl, Nat.le_of_ble_eq_true rfl⟩ ⟨Nat.le_of_ble_eq_true rfl, Nat.le_of_ble_eq_true rfl⟩ (wq_pln_lt hq0) (wq_E_pln hq0) rfl (fun _ h9 => h9) rfl rfl (Nat.le_of_ble_eq_true rfl) dX3_becomePlain_10 rfl ?_
    refine wq_aload_n F dX3_becomePlain_13 rfl rfl rfl ?_
    refine wq_g_X3_15 F hq0 dX3_becomePlain_14 rfl ?_
    refine wq_iload_n F dX3_becomePlain_17 rfl rfl rfl ?_
    refine wq_iconst (n := -1) F dX3_becomePlain_18 rfl ?_
    obtain ⟨t3, ht3, wt3, h⟩ := wq_ix_some h
    refine wq_iast F (wq_pln_lt2 hq0) (wq_E_pln2 hq0) (wq_E_pln2 hq0) ht3 wt3 ⟨Nat.le_add_right _ _, Nat.add_lt_add_left (wq_pln_lt2 hq0) b⟩ dX3_becomePlain_19 rfl ?_
    obtain ⟨S4, eS4, h⟩ := wq_lt_some h
    refine wq_namS eS4 ?_
    refine wq_iinc (L' := [some (.ref (b + q0)), some (.int (wq_I c1)), some (.int (wq_I (y2 + 1)))]) F dX3_becomePlain_20 rfl (by decide) rfl rfl rfl ?_
    refine wq_goto (tgt := 2) F dX3_becomePlain_23 (by decide) ?_
    exact wq_lsub [some (.ref (b + q0)), some (.int (wq_I c1)), some (.int (wq_I (y2 + 1)))] (by simp [wq_sub]) (hrec (y2 + 1) S4 h)
set_option maxHeartbeats 4000000 in
set_option maxRecDepth 100000 in
theorem tl_X3_becomePlain_2 {p : Program} {l : Launch} {e : Env} {s : State} {m : MethodId} {args : Array Value} {below : List Frame} {meth : Method} {c : Code} {D : va_G} {Ar : Nat → ClassId} {b : Nat} (F : wq_Fr p s m args meth c cX3_becomePlain 3 ((Option.none : Option Jvm.ClassFile.FieldType)) "WharfQuery$Plan" D Ar) {r0 : Int} {S0 : wq_St} {q0 : Nat} {c1 : Int} (hq0 : wq_pln q0) {kx : wq_St → Option (Int × wq_St)} (hkx : ∀ (S : wq_St), kx S = some (r0, S0) → wq_Z p l e (wq_rm 2 0 0) s m args below meth c D (wq_EC Ar b) b 284 3 (wq_Ab b 284) (MQ below (wq_Qc D (wq_EC Ar b) b 284 none S0) args s 0 0 (wq_Ab b 284)) 0 0 26 [none, none, none] [] S) (n : Nat) (y2 : Int) (S : wq_St) (h : l_X3_becomePlain_2 q0 c1 kx n y2 S = some (r0, S0)) : wq_Z p l e (wq_rm 2 0 0) s m args below meth c D (wq_EC Ar b) b 284 3 (wq_Ab b 284) (MQ below (wq_Qc D (wq_EC Ar b) b 284 none S0) args s 0 0 (wq_Ab b 284)) 0 0 2 [some (.ref (b + q0)), some (.int (wq_I c1)), some (.int (wq_I y2))] [] S :=
  wq_loop_ind (f := fun (g : Int × wq_St → Option (Int × wq_St)) (x : Int × wq_St) => b_X3_becomePlain_2 q0 c1 kx (fun y2 S => g (y2, S)) x.1 x.2) (P := (fun x : Int × wq_St => wq_Z p l e (wq_rm 2 0 0) s m args below meth c D (wq_EC Ar b) b 284 3 (wq_Ab b 284) (MQ below (wq_Qc D (wq_EC Ar b) b 284 none S0) args s 0 0 (wq_Ab b 284)) 0 0 2 [some (.ref (b + q0)), some (.int (wq_I c1)), some (.int (wq_I (x.1)))] [] x.2)) (fun g hg x hx => tb_X3_becomePlain_2 F hq0 hkx (fun y2 S h => hg (y2, S) h) x.1 x.2 hx) n (y2, S) h
set_option maxHeartbeats 4000000 in
set_option maxRecDepth 100000 in
theorem ct_X3_becomePlain {l : Launch} {D : va_G} {Ar : Nat → ClassId} {b : Nat} {k0 : Nat} {x1 : Int} {S S0 : wq_St} {r0 : Int} (hk0 : wq_pln k0) (h : f_X3_becomePlain k0 x1 S = some (r0, S0)) : wq_Ct l yX3_becomePlain (.code yX3_becomePlain cX3_becomePlain 3 ((Option.none : Option Jvm.ClassFile.FieldType))) 2 D Ar (wq_EC Ar b) b 284 [.ref (b + k0), .int (wq_I x1)] S none S0 := by
  refine wq_start "WharfQuery$Plan" [some (.ref (b + k0)), some (.int (wq_I x1)), none] (by decide +kernel) rfl (Nat.le_of_ble_eq_true rfl) rfl ?_
  intro p e s m args below meth c F
  unfold f_X3_becomePlain at h
  refine wq_iconst (n := 0) F dX3_becomePlain_0 rfl ?_
  refine wq_istore_n (L' := [some (.ref (b + k0)), some (.int (wq_I x1)), some (.int (wq_I 0))]) F dX3_becomePlain_1 rfl (by decide) rfl rfl rfl ?_
  refine wq_lsub [some (.ref (b + k0)), some (.int (wq_I x1)), some (.int (wq_I 0))] (by simp [wq_sub]) (tl_X3_becomePlain_2 F hk0 (fun S5 h => ?_) wq_fu 0 S h)
  cases h
  exact wq_vret F rfl rfl dX3_becomePlain_26
set_option maxHeartbeats 4000000 in
set_option maxRecDepth 100000 in
theorem ct_X7_fits {l : Launch} {D : va_G} {Ar : Nat → ClassId} {b : Nat} {k0 : Nat} {x1 : Int} {x2 : Int} {S S0 : wq_St} {r0 : Int} (hk0 : wq_tab k0) (h : f_X7_fits k0 x1 x2 S = some (r0, S0)) : wq_Ct l yX7_fits (.code yX7_fits cX7_fits 3 ((Option.some Jvm.ClassFile.FieldType.boolean))) 1 D Ar (wq_EC Ar b) b 284 [.ref (b + k0), .int (wq_I x1), .int (wq_I x2)] S (some (.int (wq_I r0))) S0 := by
  refine wq_start "WharfQuery$Table" [some (.ref (b + k0)), some (.int (wq_I x1)), some (.int (wq_I x2))] (by decide +kernel) rfl (Nat.le_of_ble_eq_true rfl) rfl ?_
  intro p e s m args below meth c F
  unfold f_X7_fits at h
  refine wq_iload_n F dX7_fits_0 rfl rfl rfl ?_
  refine wq_if_lt (tgt := 27) F dX7_fits_1 (by decide) rfl (fun hc => ?_) (fun hc => ?_)
  · replace h := wq_ift hc h
    refine wq_iconst (n := 0) F dX7_fits_27 rfl ?_
    cases h
    exact wq_zret F (by decide) rfl rfl dX7_fits_28
  · replace h := wq_iff hc h
    refine wq_iload_n F dX7_fits_4 rfl rfl rfl ?_
    refine wq_iload_n F dX7_fits_5 rfl rfl rfl ?_
    refine wq_aload_n F dX7_fits_6 rfl rfl rfl ?_
    refine wq_g_X7_31 F hk0 dX7_fits_7 rfl ?_
    refine wq_icmp_ge (tgt := 19) F dX7_fits_10 (by decide) rfl (fun hc => ?_) (fun hc => ?_)
    · replace h := wq_ift hc h
      refine wq_iconst (n := 0) F dX7_fits_19 rfl ?_
      refine wq_icmp_gt (tgt := 27) F dX7_fits_20 (by decide) rfl (fun hc => ?_) (fun hc => ?_)
      · replace h := wq_ift hc h
        refine wq_iconst (n := 0) F dX7_fits_27 rfl ?_
        cases h
        exact wq_zret F (by decide) rfl rfl dX7_fits_28
      · replace h := wq_iff hc h
        refine wq_iconst (n := 1) F dX7_fits_23 rfl ?_
        refine wq_goto (tgt := 28) F dX7_fits_24 (by decide) ?_
        cases h
        exact wq_zret F (by decide) rfl rfl dX7_fits_28
    · replace h := wq_iff hc h
      refine wq_sipush (n := 999) F dX7_fits_13 (by decide) rfl ?_
      refine wq_goto (tgt := 20) F dX7_fits_16 (by decide) ?_
      refine wq_icmp_gt (tgt := 27) F dX7_fits_20 (by decide) rfl (fun hc => ?_) (fun hc => ?_)
      · replace h := wq_ift hc h
        refine wq_iconst (n := 0) F dX7_fits_27 rfl ?_
        cases h
        exact wq_zret F (by decide) rfl rfl dX7_fits_28
      · replace h := wq_iff hc h
        refine wq_iconst (n := 1) F dX7_fits_23 rfl ?_
        refine wq_goto (tgt := 28) F dX7_fits_24 (by decide) ?_
        cases h
        exact wq_zret F (by decide) rfl rfl dX7_fits_28
set_option maxHeartbeats 4000000 in
set_option maxRecDepth 100000 in
theorem ct_X7_put {l : Launch} {D : va_G} {Ar : Nat → ClassId} {b : Nat} {k0 : Nat} {x1 : Int} {x2 : Int} {x3 : Int} {S S0 : wq_St} {r0 : Int} (hk0 : wq_tab k0) (h : f_X7_put k0 x1 x2 x3 S = some (r0, S0)) : wq_Ct l yX7_put (.code yX7_put cX7_put 5 ((Option.some Jvm.ClassFile.FieldType.int))) 1 D Ar (wq_EC Ar b) b 284 [.ref (b + k0), .int (wq_I x1), .int (wq_I x2), .int (wq_I x3)] S (some (.int (wq_I r0))) S0 := by
  refine wq_start "WharfQuery$Table" [some (.ref (b + k0)), some (.int (wq_I x1)), some (.int (wq_I x2)), some (.int (wq_I x3)), none] (by decide +kernel) rfl (Nat.le_of_ble_eq_true rfl) rfl ?_
  intro p e s m args below meth c F
  unfold f_X7_put at h
  refine wq_aload_n F dX7_put_0 rfl rfl rfl ?_
  refine wq_g_X7_35 F hk0 dX7_put_1 rfl ?_
  refine wq_istore (L' := [some (.ref (b + k0)), some (.int (wq_I x1)), some (.int (wq_I x2)), some (.int (wq_I x3)), some (.int (wq_I (S k0 5)))]) F dX7_put_4 (by decide) rfl rfl rfl ?_
  refine wq_aload_n F dX7_put_6 rfl rfl rfl ?_
  refine wq_g_X7_19 F hk0 dX7_put_7 rfl ?_
  refine wq_iload F dX7_put_10 rfl rfl ?_
  obtain ⟨t1, ht1, wt1, h⟩ := wq_ix_some h
  refine wq_aald F (wq_tab_lt2 hk0) (wq_E_vals hk0) rfl rfl ht1 wt1 dX7_put_12 rfl ?_
  refine wq_iconst (n := 0) F dX7_put_13 rfl ?_
  refine wq_iload_n F dX7_put_14 rfl rfl rfl ?_
  obtain ⟨t2, ht2, wt2, h⟩ := wq_ix_some h
  refine wq_iast F (wq_row_lt hk0 ht1) (wq_E_row hk0 ht1) (wq_E_row hk0 ht1) ht2 wt2 ⟨Nat.le_add_right _ _, Nat.add_lt_add_left (wq_row_lt hk0 ht1) b⟩ dX7_put_15 rfl ?_
  obtain ⟨S3, eS3, h⟩ := wq_lt_some h
  refine wq_namS eS3 ?_
  refine wq_aload_n F dX7_put_16 rfl rfl rfl ?_
  refine wq_g_X7_19 F hk0 dX7_put_17 rfl ?_
  refine wq_iload F dX7_put_20 rfl rfl ?_
  obtain ⟨t4, ht4, wt4, h⟩ := wq_ix_some h
  refine wq_aald F (wq_tab_lt2 hk0) (wq_E_vals hk0) rfl rfl ht4 wt4 dX7_put_22 rfl ?_
  refine wq_iconst (n := 1) F dX7_put_23 rfl ?_
  refine wq_iload_n F dX7_put_24 rfl rfl rfl ?_
  obtain ⟨t5, ht5, wt5, h⟩ := wq_ix_some h
  refine wq_iast F (wq_row_lt hk0 ht4) (wq_E_row hk0 ht4) (wq_E_row hk0 ht4) ht5 wt5 ⟨Nat.le_add_right _ _, Nat.add_lt_add_left (wq_row_lt hk0 ht4) b⟩ dX7_put_25 rfl ?_
  obtain ⟨S6, eS6, h⟩ := wq_lt_some h
  refine wq_namS eS6 ?_
  refine wq_aload_n F dX7_put_26 rfl rfl rfl ?_
  refine wq_g_X7_19 F hk0 dX7_put_27 rfl ?_
  refine wq_iload F dX7_put_30 rfl rfl ?_
  obtain ⟨t7, ht7, wt7, h⟩ := wq_ix_some h
  refine wq_aald F (wq_tab_lt2 hk0) (wq_E_vals hk0) rfl rfl ht7 wt7 dX7_put_32 rfl ?_
  refine wq_iconst (n := 2) F dX7_put_33 rfl ?_
  refine wq_iload_n F dX7_put_34 rfl rfl rfl ?_
  obtain ⟨t8, ht8, wt8, h⟩ := wq_ix_some h
  refine wq_iast F (wq_row_lt hk0 ht7) (wq_E_row hk0 ht7) (wq_E_row hk0 ht7) ht8 wt8 ⟨Nat.le_add_right _ _, Nat.add_lt_add_left (wq_row_lt hk0 ht7) b⟩ dX7_put_35 rfl ?_
  obtain ⟨S9, eS9, h⟩ := wq_lt_some h
  refine wq_namS eS9 ?_
  refine wq_aload_n F dX7_put_36 rfl rfl rfl ?_
  refine wq_g_X7_22 F hk0 dX7_put_37 rfl ?_
  refine wq_iload F dX7_put_40 rfl rfl ?_
  refine wq_iconst (n := 1) F dX7_put_42 rfl ?_
  obtain ⟨t10, ht10, wt10, h⟩ := wq_ix_some h
  refine wq_zast F (by decide) (wq_tab_lt43 hk0) (wq_E_there hk0) (wq_E_there hk0) ht10 wt10 ⟨Nat.le_add_right _ _, Nat.add_lt_add_left (wq_tab_lt43 hk0) b⟩ dX7_put_43 rfl ?_
  obtain ⟨S11, eS11, h⟩ := wq_lt_some h
  refine wq_namS eS11 ?_
  refine wq_aload_n F dX7_put_44 rfl rfl rfl ?_
  refine wq_dup1 F rfl dX7_put_45 rfl ?_
  refine wq_g_X7_35 F hk0 dX7_put_46 rfl ?_
  refine wq_iconst (n := 1) F dX7_put_49 rfl ?_
  refine wq_iadd F dX7_put_50 rfl ?_
  refine wq_p_X7_35 F hk0 (fun _ h9 => h9) dX7_put_51 rfl ?_
  obtain ⟨S12, eS12, h⟩ := wq_lt_some h
  refine wq_namS eS12 ?_
  refine wq_aload_n F dX7_put_54 rfl rfl rfl ?_
  refine wq_dup1 F rfl dX7_put_55 rfl ?_
  refine wq_g_X7_38 F hk0 dX7_put_56 rfl ?_
  refine wq_iconst (n := 1) F dX7_put_59 rfl ?_
  refine wq_iadd F dX7_put_60 rfl ?_
  refine wq_p_X7_38 F hk0 (fun _ h9 => h9) dX7_put_61 rfl ?_
  obtain ⟨S13, eS13, h⟩ := wq_lt_some h
  refine wq_namS eS13 ?_
  refine wq_iload F dX7_put_64 rfl rfl ?_
  cases h
  exact wq_iret F rfl rfl dX7_put_66
