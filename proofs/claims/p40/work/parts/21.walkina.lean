set_option maxHeartbeats 4000000 in
set_option maxRecDepth 100000 in
theorem ct_X1_compare {l : Launch} {D : va_G} {Ar : Nat → ClassId} {b : Nat} {k0 : Nat} {x1 : Int} {x2 : Int} {x3 : Int} {x4 : Int} {S S0 : wq_St} {r0 : Int} (hk0 : wq_cnd k0) (h : f_X1_compare k0 x1 x2 x3 x4 S = some (r0, S0)) : wq_Ct l yX1_compare (.code yX1_compare cX1_compare 5 ((Option.none : Option Jvm.ClassFile.FieldType))) 1 D Ar (wq_EC Ar b) b 284 [.ref (b + k0), .int (wq_I x1), .int (wq_I x2), .int (wq_I x3), .int (wq_I x4)] S none S0 := by
  refine wq_start "WharfQuery$Condition" [some (.ref (b + k0)), some (.int (wq_I x1)), some (.int (wq_I x2)), some (.int (wq_I x3)), some (.int (wq_I x4))] (by decide +kernel) rfl (Nat.le_of_ble_eq_true rfl) rfl ?_
  intro p e s m args below meth c F
  unfold f_X1_compare at h
  refine wq_aload_n F dX1_compare_0 rfl rfl rfl ?_
  refine wq_iload_n F dX1_compare_1 rfl rfl rfl ?_
  refine wq_p_X1_9 F hk0 (fun _ h9 => h9) dX1_compare_2 rfl ?_
  obtain ⟨S1, eS1, h⟩ := wq_lt_some h
  refine wq_namS eS1 ?_
  refine wq_aload_n F dX1_compare_5 rfl rfl rfl ?_
  refine wq_iload_n F dX1_compare_6 rfl rfl rfl ?_
  refine wq_p_X1_15 F hk0 (fun _ h9 => h9) dX1_compare_7 rfl ?_
  obtain ⟨S2, eS2, h⟩ := wq_lt_some h
  refine wq_namS eS2 ?_
  refine wq_aload_n F dX1_compare_10 rfl rfl rfl ?_
  refine wq_iload_n F dX1_compare_11 rfl rfl rfl ?_
  refine wq_p_X1_18 F hk0 (fun _ h9 => h9) dX1_compare_12 rfl ?_
  obtain ⟨S3, eS3, h⟩ := wq_lt_some h
  refine wq_namS eS3 ?_
  refine wq_aload_n F dX1_compare_15 rfl rfl rfl ?_
  refine wq_iload F dX1_compare_16 rfl rfl ?_
  refine wq_p_X1_21 F hk0 (fun _ h9 => h9) dX1_compare_18 rfl ?_
  cases h
  exact wq_vret F rfl rfl dX1_compare_21
set_option maxHeartbeats 4000000 in
set_option maxRecDepth 100000 in
theorem ct_X1_join {l : Launch} {D : va_G} {Ar : Nat → ClassId} {b : Nat} {k0 : Nat} {x1 : Int} {x2 : Int} {x3 : Int} {x4 : Int} {S S0 : wq_St} {r0 : Int} (hk0 : wq_cnd k0) (h : f_X1_join k0 x1 x2 x3 x4 S = some (r0, S0)) : wq_Ct l yX1_join (.code yX1_join cX1_join 5 ((Option.none : Option Jvm.ClassFile.FieldType))) 1 D Ar (wq_EC Ar b) b 284 [.ref (b + k0), .int (wq_I x1), .int (wq_I x2), .int (wq_I x3), .int (wq_I x4)] S none S0 := by
  refine wq_start "WharfQuery$Condition" [some (.ref (b + k0)), some (.int (wq_I x1)), some (.int (wq_I x2)), some (.int (wq_I x3)), some (.int (wq_I x4))] (by decide +kernel) rfl (Nat.le_of_ble_eq_true rfl) rfl ?_
  intro p e s m args below meth c F
  unfold f_X1_join at h
  refine wq_aload_n F dX1_join_0 rfl rfl rfl ?_
  refine wq_iload_n F dX1_join_1 rfl rfl rfl ?_
  refine wq_p_X1_9 F hk0 (fun _ h9 => h9) dX1_join_2 rfl ?_
  obtain ⟨S1, eS1, h⟩ := wq_lt_some h
  refine wq_namS eS1 ?_
  refine wq_aload_n F dX1_join_5 rfl rfl rfl ?_
  refine wq_iload_n F dX1_join_6 rfl rfl rfl ?_
  refine wq_p_X1_15 F hk0 (fun _ h9 => h9) dX1_join_7 rfl ?_
  obtain ⟨S2, eS2, h⟩ := wq_lt_some h
  refine wq_namS eS2 ?_
  refine wq_aload_n F dX1_join_10 rfl rfl rfl ?_
  refine wq_iconst (n := 3) F dX1_join_11 rfl ?_
  refine wq_p_X1_18 F hk0 (fun _ h9 => h9) dX1_join_12 rfl ?_
  obtain ⟨S3, eS3, h⟩ := wq_lt_some h
  refine wq_namS eS3 ?_
  refine wq_aload_n F dX1_join_15 rfl rfl rfl ?_
  refine wq_iload_n F dX1_join_16 rfl rfl rfl ?_
  refine wq_p_X1_24 F hk0 (fun _ h9 => h9) dX1_join_17 rfl ?_
  obtain ⟨S4, eS4, h⟩ := wq_lt_some h
  refine wq_namS eS4 ?_
  refine wq_aload_n F dX1_join_20 rfl rfl rfl ?_
  refine wq_iload F dX1_join_21 rfl rfl ?_
  refine wq_p_X1_27 F hk0 (fun _ h9 => h9) dX1_join_23 rfl ?_
  cases h
  exact wq_vret F rfl rfl dX1_join_26
set_option maxHeartbeats 4000000 in
set_option maxRecDepth 100000 in
theorem ct_X1_stepIn {l : Launch} {D : va_G} {Ar : Nat → ClassId} {b : Nat} {k0 : Nat} {k1 : Nat} {S S0 : wq_St} {r0 : Int} (hk0 : wq_cnd k0) (hk1 : wq_pln k1) (h : f_X1_stepIn k0 k1 S = some (r0, S0)) : wq_Ct l yX1_stepIn (.code yX1_stepIn cX1_stepIn 3 ((Option.some Jvm.ClassFile.FieldType.int))) 1 D Ar (wq_EC Ar b) b 284 [.ref (b + k0), .ref (b + k1)] S (some (.int (wq_I r0))) S0 := by
  refine wq_start "WharfQuery$Condition" [some (.ref (b + k0)), some (.ref (b + k1)), none] (by decide +kernel) rfl (Nat.le_of_ble_eq_true rfl) rfl ?_
  intro p e s m args below meth c F
  unfold f_X1_stepIn at h
  refine wq_aload_n F dX1_stepIn_0 rfl rfl rfl ?_
  refine wq_g_X1_30 F hk1 dX1_stepIn_1 rfl ?_
  refine wq_aload_n F dX1_stepIn_4 rfl rfl rfl ?_
  refine wq_g_X1_9 F hk0 dX1_stepIn_5 rfl ?_
  obtain ⟨t1, ht1, wt1, h⟩ := wq_ix_some h
  refine wq_iald F (wq_pln_lt3 hk1) (wq_E_pln3 hk1) ht1 wt1 dX1_stepIn_8 rfl ?_
  refine wq_istore_n (L' := [some (.ref (b + k0)), some (.ref (b + k1)), some (.int (wq_I (S (k1 + 3) t1)))]) F dX1_stepIn_9 rfl (by decide) rfl rfl rfl ?_
  refine wq_aload_n F dX1_stepIn_10 rfl rfl rfl ?_
  refine wq_g_X1_18 F hk0 dX1_stepIn_11 rfl ?_
  refine wq_iconst (n := 3) F dX1_stepIn_14 rfl ?_
  refine wq_icmp_ne (tgt := 41) F dX1_stepIn_15 (by decide) rfl (fun hc => ?_) (fun hc => ?_)
  · replace h := wq_iff hc h
    refine wq_iload_n F dX1_stepIn_41 rfl rfl rfl ?_
    cases h
    exact wq_iret F rfl rfl dX1_stepIn_42
  · replace h := wq_ift hc h
    refine wq_aload_n F dX1_stepIn_18 rfl rfl rfl ?_
    refine wq_g_X1_30 F hk1 dX1_stepIn_19 rfl ?_
    refine wq_aload_n F dX1_stepIn_22 rfl rfl rfl ?_
    refine wq_g_X1_24 F hk0 dX1_stepIn_23 rfl ?_
    obtain ⟨t2, ht2, wt2, h⟩ := wq_ix_some h
    refine wq_iald F (wq_pln_lt3 hk1) (wq_E_pln3 hk1) ht2 wt2 dX1_stepIn_26 rfl ?_
    refine wq_iload_n F dX1_stepIn_27 rfl rfl rfl ?_
    refine wq_icmp_le (tgt := 41) F dX1_stepIn_28 (by decide) rfl (fun hc => ?_) (fun hc => ?_)
    · replace h := wq_ift hc h
      refine wq_iload_n F dX1_stepIn_41 rfl rfl rfl ?_
      cases h
      exact wq_iret F rfl rfl dX1_stepIn_42
    · replace h := wq_iff hc h
      refine wq_aload_n F dX1_stepIn_31 rfl rfl rfl ?_
      refine wq_g_X1_30 F hk1 dX1_stepIn_32 rfl ?_
      refine wq_aload_n F dX1_stepIn_35 rfl rfl rfl ?_
      refine wq_g_X1_24 F hk0 dX1_stepIn_36 rfl ?_
      obtain ⟨t3, ht3, wt3, h⟩ := wq_ix_some h
      refine wq_iald F (wq_pln_lt3 hk1) (wq_E_pln3 hk1) ht3 wt3 dX1_stepIn_39 rfl ?_
      cases h
      exact wq_iret F rfl rfl dX1_stepIn_40
set_option maxHeartbeats 4000000 in
set_option maxRecDepth 100000 in
theorem tj_X1_asksForOneValueOf_33 {p : Program} {l : Launch} {e : Env} {s : State} {m : MethodId} {args : Array Value} {below : List Frame} {meth : Method} {c : Code} {D : va_G} {Ar : Nat → ClassId} {b : Nat} (F : wq_Fr p s m args meth c cX1_asksForOneValueOf 3 ((Option.some Jvm.ClassFile.FieldType.boolean)) "WharfQuery$Condition" D Ar) {r0 : Int} {S0 : wq_St} {q0 : Nat} {j1 : Int} {j2 : Int} (hq0 : wq_cnd q0) (S : wq_St) (h : j_X1_asksForOneValueOf_33 q0 j1 j2 S = some (r0, S0)) : wq_Z p l e (wq_rm 1 0 0) s m args below meth c D (wq_EC Ar b) b 284 3 (wq_Ab b 284) (MQ below (wq_Qc D (wq_EC Ar b) b 284 (some (.int (wq_I r0))) S0) args s 0 0 (wq_Ab b 284)) 0 0 33 [some (.ref (b + q0)), some (.int (wq_I j1)), some (.int (wq_I j2))] [] S := by
  unfold j_X1_asksForOneValueOf_33 at h
  refine wq_aload_n F dX1_asksForOneValueOf_33 rfl rfl rfl ?_
  refine wq_g_X1_18 F hq0 dX1_asksForOneValueOf_34 rfl ?_
  refine wq_iconst (n := 3) F dX1_asksForOneValueOf_37 rfl ?_
  refine wq_icmp_ne (tgt := 61) F dX1_asksForOneValueOf_38 (by decide) rfl (fun hc => ?_) (fun hc => ?_)
  · replace h := wq_iff hc h
    refine wq_iconst (n := 0) F dX1_asksForOneValueOf_61 rfl ?_
    cases h
    exact wq_zret F (by decide) rfl rfl dX1_asksForOneValueOf_62
  · replace h := wq_ift hc h
    refine wq_aload_n F dX1_asksForOneValueOf_41 rfl rfl rfl ?_
    refine wq_g_X1_24 F hq0 dX1_asksForOneValueOf_42 rfl ?_
    refine wq_iload_n F dX1_asksForOneValueOf_45 rfl rfl rfl ?_
    refine wq_icmp_ne (tgt := 61) F dX1_asksForOneValueOf_46 (by decide) rfl (fun hc => ?_) (fun hc => ?_)
    · replace h := wq_iff hc h
      refine wq_iconst (n := 0) F dX1_asksForOneValueOf_61 rfl ?_
      cases h
      exact wq_zret F (by decide) rfl rfl dX1_asksForOneValueOf_62
    · replace h := wq_ift hc h
      refine wq_aload_n F dX1_asksForOneValueOf_49 rfl rfl rfl ?_
      refine wq_g_X1_27 F hq0 dX1_asksForOneValueOf_50 rfl ?_
      refine wq_iload_n F dX1_asksForOneValueOf_53 rfl rfl rfl ?_
      refine wq_icmp_ne (tgt := 61) F dX1_asksForOneValueOf_54 (by decide) rfl (fun hc => ?_) (fun hc => ?_)
      · replace h := wq_iff hc h
        refine wq_iconst (n := 0) F dX1_asksForOneValueOf_61 rfl ?_
        cases h
        exact wq_zret F (by decide) rfl rfl dX1_asksForOneValueOf_62
      · replace h := wq_ift hc h
        refine wq_iconst (n := 1) F dX1_asksForOneValueOf_57 rfl ?_
        refine wq_goto (tgt := 62) F dX1_asksForOneValueOf_58 (by decide) ?_
        cases h
        exact wq_zret F (by decide) rfl rfl dX1_asksForOneValueOf_62
set_option maxHeartbeats 4000000 in
set_option maxRecDepth 100000 in
theorem tj_X1_asksForOneValueOf_15 {p : Program} {l : Launch} {e : Env} {s : State} {m : MethodId} {args : Array Value} {below : List Frame} {meth : Method} {c : Code} {D : va_G} {Ar : Nat → ClassId} {b : Nat} (F : wq_Fr p s m args meth c cX1_asksForOneValueOf 3 ((Option.some Jvm.ClassFile.FieldType.boolean)) "WharfQuery$Condition" D Ar) {r0 : Int} {S0 : wq_St} {q0 : Nat} {j1 : Int} {j2 : Int} (hq0 : wq_cnd q0) (S : wq_St) (h : j_X1_asksForOneValueOf_15 q0 j1 j2 S = some (r0, S0)) : wq_Z p l e (wq_rm 1 0 0) s m args below meth c D (wq_EC Ar b) b 284 3 (wq_Ab b 284) (MQ below (wq_Qc D (wq_EC Ar b) b 284 (some (.int (wq_I r0))) S0) args s 0 0 (wq_Ab b 284)) 0 0 15 [some (.ref (b + q0)), some (.int (wq_I j1)), some (.int (wq_I j2))] [] S := by
  unfold j_X1_asksForOneValueOf_15 at h
  refine wq_aload_n F dX1_asksForOneValueOf_15 rfl rfl rfl ?_
  refine wq_g_X1_9 F hq0 dX1_asksForOneValueOf_16 rfl ?_
  refine wq_iload_n F dX1_asksForOneValueOf_19 rfl rfl rfl ?_
  refine wq_icmp_ne (tgt := 33) F dX1_asksForOneValueOf_20 (by decide) rfl (fun hc => ?_) (fun hc => ?_)
  · replace h := wq_iff hc h
    exact wq_lsub [some (.ref (b + q0)), some (.int (wq_I j1)), some (.int (wq_I j2))] (by simp [wq_sub]) (tj_X1_asksForOneValueOf_33 F hq0 S h)
  · replace h := wq_ift hc h
    refine wq_aload_n F dX1_asksForOneValueOf_23 rfl rfl rfl ?_
    refine wq_g_X1_15 F hq0 dX1_asksForOneValueOf_24 rfl ?_
    refine wq_iload_n F dX1_asksForOneValueOf_27 rfl rfl rfl ?_
    refine wq_icmp_ne (tgt := 33) F dX1_asksForOneValueOf_28 (by decide) rfl (fun hc => ?_) (fun hc => ?_)
    · replace h := wq_iff hc h
      exact wq_lsub [some (.ref (b + q0)), some (.int (wq_I j1)), some (.int (wq_I j2))] (by simp [wq_sub]) (tj_X1_asksForOneValueOf_33 F hq0 S h)
    · replace h := wq_ift hc h
      refine wq_iconst (n := 1) F dX1_asksForOneValueOf_31 rfl ?_
      cases h
      exact wq_zret F (by decide) rfl rfl dX1_asksForOneValueOf_32
set_option maxHeartbeats 4000000 in
set_option maxRecDepth 100000 in
theorem ct_X1_asksForOneValueOf {l : Launch} {D : va_G} {Ar : Nat → ClassId} {b : Nat} {k0 : Nat} {x1 : Int} {x2 : Int} {S S0 : wq_St} {r0 : Int} (hk0 : wq_cnd k0) (h : f_X1_asksForOneValueOf k0 x1 x2 S = some (r0, S0)) : wq_Ct l yX1_asksForOneValueOf (.code yX1_asksForOneValueOf cX1_asksForOneValueOf 3 ((Option.some Jvm.ClassFile.FieldType.boolean))) 1 D Ar (wq_EC Ar b) b 284 [.ref (b + k0), .int (wq_I x1), .int (wq_I x2)] S (some (.int (wq_I r0))) S0 := by
  refine wq_start "WharfQuery$Condition" [some (.ref (b + k0)), some (.int (wq_I x1)), some (.int (wq_I x2))] (by decide +kernel) rfl (Nat.le_of_ble_eq_true rfl) rfl ?_
  intro p e s m args below meth c F
  unfold f_X1_asksForOneValueOf at h
  refine wq_aload_n F dX1_asksForOneValueOf_0 rfl rfl rfl ?_
  refine wq_g_X1_18 F hk0 dX1_asksForOneValueOf_1 rfl ?_
  refine wq_if_eq (tgt := 15) F dX1_asksForOneValueOf_4 (by decide) rfl (fun hc => ?_) (fun hc => ?_)
  · replace h := wq_ift hc h
    exact wq_lsub [some (.ref (b + k0)), some (.int (wq_I x1)), some (.int (wq_I x2))] (by simp [wq_sub]) (tj_X1_asksForOneValueOf_15 F hk0 S h)
  · replace h := wq_iff hc h
    refine wq_aload_n F dX1_asksForOneValueOf_7 rfl rfl rfl ?_
    refine wq_g_X1_18 F hk0 dX1_asksForOneValueOf_8 rfl ?_
    refine wq_iconst (n := 3) F dX1_asksForOneValueOf_11 rfl ?_
    refine wq_icmp_ne (tgt := 33) F dX1_asksForOneValueOf_12 (by decide) rfl (fun hc => ?_) (fun hc => ?_)
    · replace h := wq_iff hc h
      exact wq_lsub [some (.ref (b + k0)), some (.int (wq_I x1)), some (.int (wq_I x2))] (by simp [wq_sub]) (tj_X1_asksForOneValueOf_33 F hk0 S h)
    · replace h := wq_ift hc h
      exact wq_lsub [some (.ref (b + k0)), some (.int (wq_I x1)), some (.int (wq_I x2))] (by simp [wq_sub]) (tj_X1_asksForOneValueOf_15 F hk0 S h)
set_option maxHeartbeats 4000000 in
set_option maxRecDepth 100000 in
theorem tb_X7_takeSample_10 {p : Program} {l : Launch} {e : Env} {s : State} {m : MethodId} {args : Array Value} {below : List Frame} {meth : Method} {c : Code} {D : va_G} {Ar : Nat → ClassId} {b : Nat} (F : wq_Fr p s m args meth c cX7_takeSample 6 ((Option.some Jvm.ClassFile.FieldType.int)) "WharfQuery$Table" D Ar) {r0 : Int} {S0 : wq_St} {q0 : Nat} {c1 : Int} (hq0 : wq_tab q0) {kx : Int → wq_St → Option (Int × wq_St)} (hkx : ∀ (u2 : Int) (S : wq_St), kx u2 S = some (r0, S0) → wq_Z p l e (wq_rm 1 0 0) s m args below meth c D (wq_EC Ar b) b 284 6 (wq_Ab b 284) (MQ below (wq_Qc D (wq_EC Ar b) b 284 (some (.int (wq_I r0))) S0) args s 0 0 (wq_Ab b 284)) 0 0 64 [none, none, some (.int (wq_I u2)), none, none, none] [] S) {rec : Int → Int → Int → Int → wq_St → Option (Int × wq_St)} (hrec : ∀ (y2 : Int) (y3 : Int) (y4 : Int) (y5 : Int) (S : wq_St), rec y2 y3 y4 y5 S = some (r0, S0) → wq_Z p l e (wq_rm 1 0 0) s m args below meth c D (wq_EC Ar b) b 284 6 (wq_Ab b 284) (MQ below (wq_Qc D (wq_EC Ar b) b 284 (some (.int (wq_I r0))) S0) args s 0 0 (wq_Ab b 284)) 0 0 10 [some (.ref (b + q0)), some (.int (wq_I c1)), some (.int (wq_I y2)), some (.int (wq_I y3)), some (.int (wq_I y4)), some (.int (wq_I y5))] [] S) (y2 : Int) (y3 : Int) (y4 : Int) (y5 : Int) (S : wq_St) (h : b_X7_takeSample_10 q0 c1 kx rec y2 y3 y4 y5 S = some (r0, S0)) : wq_Z p l e (wq_rm 1 0 0) s m args below meth c D (wq_EC Ar b) b 284 6 (wq_Ab b 284) (MQ below (wq_Qc D (wq_EC Ar b) b 284 (some (.int (wq_I r0))) S0) args s 0 0 (wq_Ab b 284)) 0 0 10 [some (.ref (b + q0)), some (.int (wq_I c1)), some (.int (wq_I y2)), some (.int (wq_I y3)), some (.int (wq_I y4)), some (.int (wq_I y5))] [] S := by
  unfold b_X7_takeSample_10 at h
  refine wq_iload F dX7_takeSample_10 rfl rfl ?_
  refine wq_aload_n F dX7_takeSample_12 rfl rfl rfl ?_
  refine wq_g_X7_35 F hq0 dX7_takeSample_13 rfl ?_
  refine wq_icmp_ge (tgt := 64) F dX7_takeSample_16 (by decide) rfl (fun hc => ?_) (fun hc => ?_)
  · replace h := wq_ift hc h
    exact wq_lsub [none, none, some (.int (wq_I y2)), none, none, none] (by simp [wq_sub]) (hkx y2 S h)
  · replace h := wq_iff hc h
    refine wq_aload_n F dX7_takeSample_19 rfl rfl rfl ?_
    refine wq_g_X7_22 F hq0 dX7_takeSample_20 rfl ?_
    refine wq_iload F dX7_takeSample_23 rfl rfl ?_
    obtain ⟨t1, ht1, wt1, h⟩ := wq_ix_some h
    refine wq_zald F (wq_tab_lt43 hq0) (wq_E_there hq0) ht1 wt1 dX7_takeSample_25 rfl ?_
    refine wq_if_ne (tgt := 32) F dX7_takeSample_26 (by decide) rfl (fun hc => ?_) (fun hc => ?_)
    · replace h := wq_iff hc h
      refine wq_iload_n F dX7_takeSample_32 rfl rfl rfl ?_
      refine wq_iload F dX7_takeSample_33 rfl rfl ?_
      refine wq_icmp_ne (tgt := 55) F dX7_takeSample_35 (by decide) rfl (fun hc => ?_) (fun hc => ?_)
      · replace h := wq_iff hc h
        refine wq_iinc (L' := [some (.ref (b + q0)), some (.int (wq_I c1)), some (.int (wq_I y2)), some (.int (wq_I (y3 + 1))), some (.int (wq_I y4)), some (.int (wq_I y5))]) F dX7_takeSample_55 rfl (by decide) rfl rfl rfl ?_
        refine wq_iinc (L' := [some (.ref (b + q0)), some (.int (wq_I c1)), some (.int (wq_I y2)), some (.int (wq_I (y3 + 1))), some (.int (wq_I y4)), some (.int (wq_I (y5 + 1)))]) F dX7_takeSample_58 rfl (by decide) rfl rfl rfl ?_
        refine wq_goto (tgt := 10) F dX7_takeSample_61 (by decide) ?_
        exact wq_lsub [some (.ref (b + q0)), some (.int (wq_I c1)), some (.int (wq_I y2)), some (.int (wq_I (y3 + 1))), some (.int (wq_I y4)), some (.int (wq_I (y5 + 1)))] (by simp [wq_sub]) (hrec y2 (y3 + 1) y4 (y5 + 1) S h)
      · replace h := wq_ift hc h
        refine wq_aload_n F dX7_takeSample_38 rfl rfl rfl ?_
        refine wq_g_X7_26 F hq0 dX7_takeSample_39 rfl ?_
        refine wq_iload_n F dX7_takeSample_42 rfl rfl rfl ?_
        refine wq_iload F dX7_takeSample_43 rfl rfl ?_
        obtain ⟨t2, ht2, wt2, h⟩ := wq_ix_some h
        refine wq_iast F (wq_tab_lt44 hq0) (wq_E_samp hq0) (wq_E_samp hq0) ht2 wt2 ⟨Nat.le_add_right _ _, Nat.add_lt_add_left (wq_tab_lt44 hq0) b⟩ dX7_takeSample_45 rfl ?_
        obtain ⟨S3, eS3, h⟩ := wq_lt_some h
        refine wq_namS eS3 ?_
        refine wq_iinc (L' := [some (.ref (b + q0)), some (.int (wq_I c1)), some (.int (wq_I (y2 + 1))), some (.int (wq_I y3)), some (.int (wq_I y4)), some (.int (wq_I y5))]) F dX7_takeSample_46 rfl (by decide) rfl rfl rfl ?_
        refine wq_iload F dX7_takeSample_49 rfl rfl ?_
        refine wq_iload_n F dX7_takeSample_51 rfl rfl rfl ?_
        refine wq_iadd F dX7_takeSample_52 rfl ?_
        refine wq_istore (L' := [some (.ref (b + q0)), some (.int (wq_I c1)), some (.int (wq_I (y2 + 1))), some (.int (wq_I y3)), some (.int (wq_I (y4 + c1))), some (.int (wq_I y5))]) F dX7_takeSample_53 (by decide) rfl rfl rfl ?_
        refine wq_iinc (L' := [some (.ref (b + q0)), some (.int (wq_I c1)), some (.int (wq_I (y2 + 1))), some (.int (wq_I (y3 + 1))), some (.int (wq_I (y4 + c1))), some (.int (wq_I y5))]) F dX7_takeSample_55 rfl (by decide) rfl rfl rfl ?_
        refine wq_iinc (L' := [some (.ref (b + q0)), some (.int (wq_I c1)), some (.int (wq_I (y2 + 1))), some (.int (wq_I (y3 + 1))), some (.int (wq_I (y4 + c1))), some (.int (wq_I (y5 + 1)))]) F dX7_takeSample_58 rfl (by decide) rfl rfl rfl ?_
        refine wq_goto (tgt := 10) F dX7_takeSample_61 (by decide) ?_
        exact wq_lsub [some (.ref (b + q0)), some (.int (wq_I c1)), some (.int (wq_I (y2 + 1))), some (.int (wq_I (y3 + 1))), some (.int (wq_I (y4 + c1))), some (.int (wq_I (y5 + 1)))] (by simp [wq_sub]) (hrec (y2 + 1) (y3 + 1) (y4 + c1) (y5 + 1) S3 h)
    · replace h := wq_ift hc h
      refine wq_goto (tgt := 58) F dX7_takeSample_29 (by decide) ?_
      refine wq_iinc (L' := [some (.ref (b + q0)), some (.int (wq_I c1)), some (.int (wq_I y2)), some (.int (wq_I y3)), some (.int (wq_I y4)), some (.int (wq_I (y5 + 1)))]) F dX7_takeSample_58 rfl (by decide) rfl rfl rfl ?_
      refine wq_goto (tgt := 10) F dX7_takeSample_61 (by decide) ?_
      exact wq_lsub [some (.ref (b + q0)), some (.int (wq_I c1)), some (.int (wq_I y2)), some (.int (wq_I y3)), some (.int (wq_I y4)), some (.int (wq_I (y5 + 1)))] (by simp [wq_sub]) (hrec y2 y3 y4 (y5 + 1) S h)
set_option maxHeartbeats 4000000 in
set_option maxRecDepth 100000 in
theorem tl_X7_takeSample_10 {p : Program} {l : Launch} {e : Env} {s : State} {m : MethodId} {args : Array Value} {below : List Frame} {meth : Method} {c : Code} {D : va_G} {Ar : Nat → ClassId} {b : Nat} (F : wq_Fr p s m args meth c cX7_takeSample 6 ((Option.some Jvm.ClassFile.FieldType.int)) "WharfQuery$Table" D Ar) {r0 : Int} {S0 : wq_St} {q0 : Nat} {c1 : Int} (hq0 : wq_tab q0) {kx : Int → wq_St → Option (Int × wq_St)} (hkx : ∀ (u2 : Int) (S : wq_St), kx u2 S = some (r0, S0) → wq_Z p l e (wq_rm 1 0 0) s m args below meth c D (wq_EC Ar b) b 284 6 (wq_Ab b 284) (MQ below (wq_Qc D (wq_EC Ar b) b 284 (some (.int (wq_I r0))) S0) args s 0 0 (wq_Ab b 284)) 0 0 64 [none, none, some (.int (wq_I u2)), none, none, none] [] S) (n : Nat) (y2 : Int) (y3 : Int) (y4 : Int) (y5 : Int) (S : wq_St) (h : l_X7_takeSample_10 q0 c1 kx n y2 y3 y4 y5 S = some (r0, S0)) : wq_Z p l e (wq_rm 1 0 0) s m args below meth c D (wq_EC Ar b) b 284 6 (wq_Ab b 284) (MQ below (wq_Qc D (wq_EC Ar b) b 284 (some (.int (wq_I r0))) S0) args s 0 0 (wq_Ab b 284)) 0 0 10 [some (.ref (b + q0)), some (.int (wq_I c1)), some (.int (wq_I y2)), some (.int (wq_I y3)), some (.int (wq_I y4)), some (.int (wq_I y5))] [] S :=
  wq_loop_ind (f := fun (g : Int × Int × Int × Int × wq_St → Option (Int × wq_St)) (x : Int × Int × Int × Int × wq_St) => b_X7_takeSample_10 q0 c1 kx (fun y2 y3 y4 y5 S => g (y2, y3, y4, y5, S)) x.1 x.2.1 x.2.2.1 x.2.2.2.1 x.2.2.2.2) (P := (fun x : Int × Int × Int × Int × wq_St => wq_Z p l e (wq_rm 1 0 0) s m args below meth c D (wq_EC Ar b) b 284 6 (wq_Ab b 284) (MQ below (wq_Qc D (wq_EC Ar b) b 284 (some (.int (wq_I r0))) S0) args s 0 0 (wq_Ab b 284)) 0 0 10 [some (.ref (b + q0)), some (.int (wq_I c1)), some (.int (wq_I (x.1))), some (.int (wq_I (x.2.1))), some (.int (wq_I (x.2.2.1))), some (.int (wq_I (x.2.2.2.1)))] [] x.2.2.2.2)) (fun g hg x hx => tb_X7_takeSample_10 F hq0 hkx (fun y2 y3 y4 y5 S h => hg (y2, y3, y4, y5, S) h) x.1 x.2.1 x.2.2.1 x.2.2.2.1 x.2.2.2.2 hx) n (y2, y3, y4, y5, S) h
set_option maxHeartbeats 4000000 in
set_option maxRecDepth 100000 in
theorem ct_X7_takeSample {l : Launch} {D : va_G} {Ar : Nat → ClassId} {b : Nat} {k0 : Nat} {x1 : Int} {S S0 : wq_St} {r0 : Int} (hk0 : wq_tab k0) (h : f_X7_takeSample k0 x1 S = some (r0, S0)) : wq_Ct l yX7_takeSample (.code yX7_takeSample cX7_takeSample 6 ((Option.some Jvm.ClassFile.FieldType.int))) 1 D Ar (wq_EC Ar b) b 284 [.ref (b + k0), .int (wq_I x1)] S (some (.int (wq_I r0))) S0 := by
  refine wq_start "WharfQuery$Table" [some (.ref (b + k0)), some (.int (wq_I x1)), none, none, none, none] (by decide +kernel) rfl (Nat.le_of_ble_eq_true rfl) rfl ?_
  intro p e s m args below meth c F
  unfold f_X7_takeSample at h
  refine wq_iconst (n := 0) F dX7_takeSample_0 rfl ?_
  refine wq_istore_n (L' := [some (.ref (b + k0)), some (.int (wq_I x1)), some (.int (wq_I 0)), none, none, none]) F dX7_takeSample_1 rfl (by decide) rfl rfl rfl ?_
  refine wq_iconst (n := 0) F dX7_takeSample_2 rfl ?_
  refine wq_istore_n (L' := [some (.ref (b + k0)), some (.int (wq_I x1)), some (.int (wq_I 0)), some (.int (wq_I 0)), none, none]) F dX7_takeSample_3 rfl (by decide) rfl rfl rfl ?_
  refine wq_iconst (n := 0) F dX7_takeSample_4 rfl ?_
  refine wq_istore (L' := [some (.ref (b + k0)), some (.int (wq_I x1)), some (.int (wq_I 0)), some (.int (wq_I 0)), some (.int (wq_I 0)), none]) F dX7_takeSample_5 (by decide) rfl rfl rfl ?_
  refine wq_iconst (n := 0) F dX7_takeSample_7 rfl ?_
  refine wq_istore (L' := [some (.ref (b + k0)), some (.int (wq_I x1)), some (.int (wq_I 0)), some (.int (wq_I 0)), some (.int (wq_I 0)), some (.int (wq_I 0))]) F dX7_takeSample_8 (by decide) rfl rfl rfl ?_
  refine wq_lsub [some (.ref (b + k0)), some (.int (wq_I x1)), some (.int (wq_I 0)), some (.int (wq_I 0)), some (.int (wq_I 0)), some (.int (wq_I 0))] (by simp [wq_sub]) (tl_X7_takeSample_10 F hk0 (fun u4 S5 h => ?_) wq_fu 0 0 0 0 S h)
  refine wq_iload_n F dX7_takeSample_64 rfl rfl rfl ?_
  cases h
  exact wq_iret F rfl rfl dX7_takeSample_65
set_option maxHeartbeats 4000000 in
set_option maxRecDepth 100000 in
theorem tb_X3_clear_2 {p : Program} {l : Launch} {e : Env} {s : State} {m : MethodId} {args : Array Value} {below : List Frame} {meth : Method} {c : Code} {D : va_G} {Ar : Nat → ClassId} {b : Nat} (F : wq_Fr p s m args meth c cX3_clear 2 ((Option.none : Option Jvm.ClassFile.FieldType)) "WharfQuery$Plan" D Ar) {r0 : Int} {S0 : wq_St} {q0 : Nat} (hq0 : wq_pln q0) {kx : wq_St → Option (Int × wq_St)} (hkx : ∀ (S : wq_St), kx S = some (r0, S0) → wq_Z p l e (wq_rm 1 0 0) s m args below meth c D (wq_EC Ar b) b 284 2 (wq_Ab b 284) (MQ below (wq_Qc D (wq_EC Ar b) b 284 none S0) args s 0 0 (wq_Ab b 284)) 0 0 20 [none, none] [] S) {rec : Int → wq_St → Option (Int × wq_St)} (hrec : ∀ (y1 : Int) (S : wq_St), rec y1 S = some (r0, S0) → wq_Z p l e (wq_rm 1 0 0) s m args below meth c D (wq_EC Ar b) b 284 2 (wq_Ab b 284) (MQ below (wq_Qc D (wq_EC Ar b) b 284 none S0) args s 0 0 (wq_Ab b 284)) 0 0 2 [some (.ref (b + q0)), some (.int (wq_I y1))] [] S) (y1 : Int) (S : wq_St) (h : b_X3_clear_2 q0 kx rec y1 S = some (r0, S0)) : wq_Z p l e (wq_rm 1 0 0) s m args below meth c D (wq_EC Ar b) b 284 2 (wq_Ab b 284) (MQ below (wq_Qc D (wq_EC Ar b) b 284 none S0) args s 0 0 (wq_Ab b 284)) 0 0 2 [some (.ref (b + q0)), some (.int (wq_I y1))] [] S := by
  unfold b_X3_clear_2 at h
  refine wq_iload_n F dX3_clear_2 rfl rfl rfl ?_
  refine wq_iconst (n := 3) F dX3_clear_3 rfl ?_
  refine wq_icmp_ge (tgt := 20) F dX3_clear_4 (by decide) rfl (fun hc => ?_) (fun hc => ?_)
  · replace h := wq_ift hc h
    exact wq_lsub [none, none] (by simp [wq_sub]) (hkx S h)
  · replace h := wq_iff hc h
    refine wq_aload_n F dX3_clear_7 rfl rfl rfl ?_
    refine wq_g_X3_18 F hq0 dX3_clear_8 rfl ?_
    refine wq_iload_n F dX3_clear_11 rfl rfl rfl ?_
    refine wq_iconst (n := 3) F dX3_clear_12 rfl ?_
    obtain ⟨t1, ht1, wt1, h⟩ := wq_ix_some h
    refine wq_iast F (wq_pln_lt3 hq0) (wq_E_pln3 hq0) (wq_E_pln3 hq0) ht1 wt1 ⟨Nat.le_add_right _ _, Nat.add_lt_add_left (wq_pln_lt3 hq0) b⟩ dX3_clear_13 rfl ?_
    obtain ⟨S2, eS2, h⟩ := wq_lt_some h
    refine wq_namS eS2 ?_
    refine wq_iinc (L' := [some (.ref (b + q0)), some (.int (wq_I (y1 + 1)))]) F dX3_clear_14 rfl (by decide) rfl rfl rfl ?_
    refine wq_goto (tgt := 2) F dX3_clear_17 (by decide) ?_
    exact wq_lsub [some (.ref (b + q0)), some (.int (wq_I (y1 + 1)))] (by simp [wq_sub]) (hrec (y1 + 1) S2 h)
set_option maxHeartbeats 4000000 in
set_option maxRecDepth 100000 in
theorem tl_X3_clear_2 {p : Program} {l : Launch} {e : Env} {s : State} {m : MethodId} {args : Array Value} {below : List Frame} {meth : Method} {c : Code} {D : va_G} {Ar : Nat → ClassId} {b : Nat} (F : wq_Fr p s m args meth c cX3_clear 2 ((Option.none : Option Jvm.ClassFile.FieldType)) "WharfQuery$Plan" D Ar) {r0 : Int} {S0 : wq_St} {q0 : Nat} (hq0 : wq_pln q0) {kx : wq_St → Option (Int × wq_St)} (hkx : ∀ (S : wq_St), kx S = some (r0, S0) → wq_Z p l e (wq_rm 1 0 0) s m args below meth c D (wq_EC Ar b) b 284 2 (wq_Ab b 284) (MQ below (wq_Qc D (wq_EC Ar b) b 284 none S0) args s 0 0 (wq_Ab b 284)) 0 0 20 [none, none] [] S) (n : Nat) (y1 : Int) (S : wq_St) (h : l_X3_clear_2 q0 kx n y1 S = some (r0, S0)) : wq_Z p l e (wq_rm 1 0 0) s m args below meth c D (wq_EC Ar b) b 284 2 (wq_Ab b 284) (MQ below (wq_Qc D (wq_EC Ar b) b 284 none S0) args s 0 0 (wq_Ab b 284)) 0 0 2 [some (.ref (b + q0)), some (.int (wq_I y1))] [] S :=
  wq_loop_ind (f := fun (g : Int × wq_St → Option (Int × wq_St)) (x : Int × wq_St) => b_X3_clear_2 q0 kx (fun y1 S => g (y1, S)) x.1 x.2) (P := (fun x : Int × wq_St => wq_Z p l e (wq_rm 1 0 0) s m args below meth c D (wq_EC Ar b) b 284 2 (wq_Ab b 284) (MQ below (wq_Qc D (wq_EC Ar b) b 284 none S0) args s 0 0 (wq_Ab b 284)) 0 0 2 [some (.ref (b + q0)), some (.int (wq_I (x.1)))] [] x.2)) (fun g hg x hx => tb_X3_clear_2 F hq0 hkx (fun y1 S h => hg (y1, S) h) x.1 x.2 hx) n (y1, S) h
set_option maxHeartbeats 4000000 in
set_option maxRecDepth 100000 in
theorem ct_X3_clear {l : Launch} {D : va_G} {Ar : Nat → ClassId} {b : Nat} {k0 : Nat} {S S0 : wq_St} {r0 : Int} (hk0 : wq_pln k0) (h : f_X3_clear k0 S = some (r0, S0)) : wq_Ct l yX3_clear (.code yX3_clear cX3_clear 2 ((Option.none : Option Jvm.ClassFile.FieldType))) 1 D Ar (wq_EC Ar b) b 284 [.ref (b + k0)] S none S0 := by
  refine wq_start "WharfQuery$Plan" [some (.ref (b + k0)), none] (by decide +kernel) rfl (Nat.le_of_ble_eq_true rfl) rfl ?_
  intro p e s m args below meth c F
  unfold f_X3_clear at h
  refine wq_iconst (n := 0) F dX3_clear_0 rfl ?_
  refine wq_istore_n (L' := [some (.ref (b + k0)), some (.int (wq_I 0))]) F dX3_clear_1 rfl (by decide) rfl rfl rfl ?_
  refine wq_lsub [some (.ref (b + k0)), some (.int (wq_I 0))] (by simp [wq_sub]) (tl_X3_clear_2 F hk0 (fun S3 h => ?_) wq_fu 0 S h)
  cases h
  exact wq_vret F rfl rfl dX3_clear_20
set_option maxHeartbeats 4000000 in
set_option maxRecDepth 100000 in
theorem tb_X3_copyFrom_3 {p : Program} {l : Launch} {e : Env} {s : State} {m : MethodId} {args : Array Value} {below : List Frame} {meth : Method} {c : Code} {D : va_G} {Ar : Nat → ClassId} {b : Nat} (F : wq_Fr p s m args meth c cX3_copyFrom 5 ((Option.none : Option Jvm.ClassFile.FieldType)) "WharfQuery$Plan" D Ar) {r0 : Int} {S0 : wq_St} {q0 : Nat} {q1 : Nat} {c2 : Int} (hq0 : wq_pln q0) (hq1 : wq_pln q1) {kx : wq_St → Option (Int × wq_St)} (hkx : ∀ (S : wq_St), kx S = some (r0, S0) → wq_Z p l e (wq_rm 1 0 0) s m args below meth c D (wq_EC Ar b) b 284 5 (wq_Ab b 284) (MQ below (wq_Qc D (wq_EC Ar b) b 284 none S0) args s 0 0 (wq_Ab b 284)) 0 0 57 [some (.ref (b + q0)), none, some (.long (wq_J c2)), none, none] [] S) {rec : Int → wq_St → Option (Int × wq_St)} (hrec : ∀ (y4 : Int) (S : wq_St), rec y4 S = some (r0, S0) → wq_Z p l e (wq_rm 1 0 0) s m args below meth c D (wq_EC Ar b) b 284 5 (wq_Ab b 284) (MQ below (wq_Qc D (wq_EC Ar b) b 284 none S0) args s 0 0 (wq_Ab b 284)) 0 0 3 [some (.ref (b + q0)), some (.ref (b + q1)), some (.long (wq_J c2)), none, some (.int (wq_I y4))] [] S) (y4 : Int) (S : wq_St) (h : b_X3_copyFrom_3 q0 q1 c2 kx rec y4 S = some (r0, S0)) : wq_Z p l e (wq_rm 1 0 0) s m args below meth c D (wq_EC Ar b) b 284 5 (wq_Ab b 284) (MQ below (wq_Qc D (wq_EC Ar b) b 284 none S0) args s 0 0 (wq_Ab b 284)) 0 0 3 [some (.ref (b + q0)), some (.ref (b + q1)), some (.long (wq_J c2)), none, some (.int (wq_I y4))] [] S := by
  unfold b_X3_copyFrom_3 at h
  refine wq_iload F dX3_copyFrom_3 rfl rfl ?_
  refine wq_iconst (n := 3) F dX3_copyFrom_5 rfl ?_
  refine wq_icmp_ge (tgt := 57) F dX3_copyFrom_6 (by decide) rfl (fun hc => ?_) (fun hc => ?_)
  · replace h := wq_ift hc h
    exact wq_lsub [some (.ref (b + q0)), none, some (.long (wq_J c2)), none, none] (by simp [wq_sub]) (hkx S h)
  · replace h := wq_iff hc h
    refine wq_aload_n F dX3_copyFrom_9 rfl rfl rfl ?_
    refine wq_g_X3_9 F hq0 dX3_copyFrom_10 rfl ?_
    refine wq_iload F dX3_copyFrom_13 rfl rfl ?_
    refine wq_aload_n F dX3_copyFrom_15 rfl rfl rfl ?_
    refine wq_g_X3_9 F hq1 dX3_copyFrom_16 rfl ?_
    refine wq_iload F dX3_copyFrom_19 rfl rfl ?_
    obtain ⟨t1, ht1, wt1, h⟩ := wq_ix_some h
    refine wq_iald F (wq_pln_lt1 hq1) (wq_E_pln1 hq1) ht1 wt1 dX3_copyFrom_21 rfl ?_
    obtain ⟨t2, ht2, wt2, h⟩ := wq_ix_some h
    refine wq_iast F (wq_pln_lt1 hq0) (wq_E_pln1 hq0) (wq_E_pln1 hq0) ht2 wt2 ⟨Nat.le_add_right _ _, Nat.add_lt_add_left (wq_pln_lt1 hq0) b⟩ dX3_copyFrom_22 rfl ?_
    obtain ⟨S3, eS3, h⟩ := wq_lt_some h
    refine wq_namS eS3 ?_
    refine wq_aload_n F dX3_copyFrom_23 rfl rfl rfl ?_
    refine wq_g_X3_15 F hq0 dX3_copyFrom_24 rfl ?_
    refine wq_iload F dX3_copyFrom_27 rfl rfl ?_
    refine wq_aload_n F dX3_copyFrom_29 rfl rfl rfl ?_
    refine wq_g_X3_15 F hq1 dX3_copyFrom_30 rfl ?_
    refine wq_iload F dX3_copyFrom_33 rfl rfl ?_
    obtain ⟨t4, ht4, wt4, h⟩ := wq_ix_some h
    refine wq_iald F (wq_pln_lt2 hq1) (wq_E_pln2 hq1) ht4 wt4 dX3_copyFrom_35 rfl ?_
    obtain ⟨t5, ht5, wt5, h⟩ := wq_ix_some h
    refine wq_iast F (wq_pln_lt2 hq0) (wq_E_pln2 hq0) (wq_E_pln2 hq0) ht5 wt5 ⟨Nat.le_add_right _ _, Nat.add_lt_add_left (wq_pln_lt2 hq0) b⟩ dX3_copyFrom_36 rfl ?_
    obtain ⟨S6, eS6, h⟩ := wq_lt_some h
    refine wq_namS eS6 ?_
    refine wq_aload_n F dX3_copyFrom_37 rfl rfl rfl ?_
    refine wq_g_X3_18 F hq0 dX3_copyFrom_38 rfl ?_
    refine wq_iload F dX3_copyFrom_41 rfl rfl ?_
    refine wq_aload_n F dX3_copyFrom_43 rfl rfl rfl ?_
    refine wq_g_X3_18 F hq1 dX3_copyFrom_44 rfl ?_
    refine wq_iload F dX3_copyFrom_47 rfl rfl ?_
    obtain ⟨t7, ht7, wt7, h⟩ := wq_ix_some h
    refine wq_iald F (wq_pln_lt3 hq1) (wq_E_pln3 hq1) ht7 wt7 dX3_copyFrom_49 rfl ?_
    obtain ⟨t8, ht8, wt8, h⟩ := wq_ix_some h
    refine wq_iast F (wq_pln_lt3 hq0) (wq_E_pln3 hq0) (wq_E_pln3 hq0) ht8 wt8 ⟨Nat.le_add_right _ _, Nat.add_lt_add_left (wq_pln_lt3 hq0) b⟩ dX3_copyFrom_50 rfl ?_
    obtain ⟨S9, eS9, h⟩ := wq_lt_some h
    refine wq_namS eS9 ?_
    refine wq_iinc (L' := [some (.ref (b + q0)), some (.ref (b + q1)), some (.long (wq_J c2)), none, some (.int (wq_I (y4 + 1)))]) F dX3_copyFrom_51 rfl (by decide) rfl rfl rfl ?_
    refine wq_goto (tgt := 3) F dX3_copyFrom_54 (by decide) ?_
    exact wq_lsub [some (.ref (b + q0)), some (.ref (b + q1)), some (.long (wq_J c2)), none, some (.int (wq_I (y4 + 1)))] (by simp [wq_sub]) (hrec (y4 + 1) S9 h)
set_option maxHeartbeats 4000000 in
set_option maxRecDepth 100000 in
theorem tl_X3_copyFrom_3 {p : Program} {l : Launch} {e : Env} {s : State} {m : MethodId} {args : Array Value} {below : List Frame} {meth : Method} {c : Code} {D : va_G} {Ar : Nat → ClassId} {b : Nat} (F : wq_Fr p s m args meth c cX3_copyFrom 5 ((Option.none : Option Jvm.ClassFile.FieldType)) "WharfQuery$Plan" D Ar) {r0 : Int} {S0 : wq_St} {q0 : Nat} {q1 : Nat} {c2 : Int} (hq0 : wq_pln q0) (hq1 : wq_pln q1) {kx : wq_St → Option (Int × wq_St)} (hkx : ∀ (S : wq_St), kx S = some (r0, S0) → wq_Z p l e (wq_rm 1 0 0) s m args below meth c D (wq_EC Ar b) b 284 5 (wq_Ab b 284) (MQ below (wq_Qc D (wq_EC Ar b) b 284 none S0) args s 0 0 (wq_Ab b 284)) 0 0 57 [some (.ref (b + q0)), none, some (.long (wq_J c2)), none, none] [] S) (n : Nat) (y4 : Int) (S : wq_St) (h : l_X3_copyFrom_3 q0 q1 c2 kx n y4 S = some (r0, S0)) : wq_Z p l e (wq_rm 1 0 0) s m args below meth c D (wq_EC Ar b) b 284 5 (wq_Ab b 284) (MQ below (wq_Qc D (wq_EC Ar b) b 284 none S0) args s 0 0 (wq_Ab b 284)) 0 0 3 [some (.ref (b + q0)), some (.ref (b + q1)), some (.long (wq_J c2)), none, some (.int (wq_I y4))] [] S :=
  wq_loop_ind (f := fun (g : Int × wq_St → Option (Int × wq_St)) (x : Int × wq_St) => b_X3_copyFrom_3 q0 q1 c2 kx (fun y4 S => g (y4, S)) x.1 x.2) (P := (fun x : Int × wq_St => wq_Z p l e (wq_rm 1 0 0) s m args below meth c D (wq_EC Ar b) b 284 5 (wq_Ab b 284) (MQ below (wq_Qc D (wq_EC Ar b) b 284 none S0) args s 0 0 (wq_Ab b 284)) 0 0 3 [some (.ref (b + q0)), some (.ref (b + q1)), some (.long (wq_J c2)), none, some (.int (wq_I (x.1)))] [] x.2)) (fun g hg x hx => tb_X3_copyFrom_3 F hq0 hq1 hkx (fun y4 S h => hg (y4, S) h) x.1 x.2 hx) n (y4, S) h
set_option maxHeartbeats 4000000 in
set_option maxRecDepth 100000 in
theorem ct_X3_copyFrom {l : Launch} {D : va_G} {Ar : Nat → ClassId} {b : Nat} {k0 : Nat} {k1 : Nat} {x2 : Int} {S S0 : wq_St} {r0 : Int} (hk0 : wq_pln k0) (hk1 : wq_pln k1) (h : f_X3_copyFrom k0 k1 x2 S = some (r0, S0)) : wq_Ct l yX3_copyFrom (.code yX3_copyFrom cX3_copyFrom 5 ((Option.none : Option Jvm.ClassFile.FieldType))) 1 D Ar (wq_EC Ar b) b 284 [.ref (b + k0), .ref (b + k1), .long (wq_J x2)] S none S0 := by
  refine wq_start "WharfQuery$Plan" [some (.ref (b + k0)), some (.ref (b + k1)), some (.long (wq_J x2)), none, none] (by decide +kernel) rfl (Nat.le_of_ble_eq_true rfl) rfl ?_
  intro p e s m args below meth c F
  unfold f_X3_copyFrom at h
  refine wq_iconst (n := 0) F dX3_copyFrom_0 rfl ?_
  refine wq_istore (L' := [some (.ref (b + k0)), some (.ref (b + k1)), some (.long (wq_J x2)), none, some (.int (wq_I 0))]) F dX3_copyFrom_1 (by decide) rfl rfl rfl ?_
  refine wq_lsub [some (.ref (b + k0)), some (.ref (b + k1)), some (.long (wq_J x2)), none, some (.int (wq_I 0))] (by simp [wq_sub]) (tl_X3_copyFrom_3 F hk0 hk1 (fun S10 h => ?_) wq_fu 0 S h)
  refine wq_aload_n F dX3_copyFrom_57 rfl rfl rfl ?_
  refine wq_lload_n F dX3_copyFrom_58 rfl rfl rfl ?_
  refine wq_p_X3_25 F hk0 (fun _ h9 => h9) dX3_copyFrom_59 rfl ?_
  cases h
  exact wq_vret F rfl rfl dX3_copyFrom_62
set_option maxHeartbeats 4000000 in
set_option maxRecDepth 100000 in
theorem ct_X3_place {l : Launch} {D : va_G} {Ar : Nat → ClassId} {b : Nat} {k0 : Nat} {x1 : Int} {x2 : Int} {S S0 : wq_St} {r0 : Int} (hk0 : wq_pln k0) (h : f_X3_place k0 x1 x2 S = some (r0, S0)) : wq_Ct l yX3_place (.code yX3_place cX3_place 3 ((Option.none : Option Jvm.ClassFile.FieldType))) 1 D Ar (wq_EC Ar b) b 284 [.ref (b + k0), .int (wq_I x1), .int (wq_I x2)] S none S0 := by
  refine wq_start "WharfQuery$Plan" [some (.ref (b + k0)), some (.int (wq_I x1)), some (.int (wq_I x2))] (by decide +kernel) rfl (Nat.le_of_ble_eq_true rfl) rfl ?_
  intro p e s m args below meth c F
  unfold f_X3_place at h
  refine wq_aload_n F dX3_place_0 rfl rfl rfl ?_
  refine wq_g_X3_9 F hk0 dX3_place_1 rfl ?_
  refine wq_iload_n F dX3_place_4 rfl rfl rfl ?_
  refine wq_iload_n F dX3_place_5 rfl rfl rfl ?_
  obtain ⟨t1, ht1, wt1, h⟩ := wq_ix_some h
  refine wq_iast F (wq_pln_lt1 hk0) (wq_E_pln1 hk0) (wq_E_pln1 hk0) ht1 wt1 ⟨Nat.le_add_right _ _, Nat.add_lt_add_left (wq_pln_lt1 hk0) b⟩ dX3_place_6 rfl ?_
  obtain ⟨S2, eS2, h⟩ := wq_lt_some h
  refine wq_namS eS2 ?_
  refine wq_aload_n F dX3_place_7 rfl rfl rfl ?_
  refine wq_g_X3_18 F hk0 dX3_place_8 rfl ?_
  refine wq_iload_n F dX3_place_11 rfl rfl rfl ?_
  refine wq_iload_n F dX3_place_12 rfl rfl rfl ?_
  obtain ⟨t3, ht3, wt3, h⟩ := wq_ix_some h
  refine wq_iast F (wq_pln_lt3 hk0) (wq_E_pln3 hk0) (wq_E_pln3 hk0) ht3 wt3 ⟨Nat.le_add_right _ _, Nat.add_lt_add_left (wq_pln_lt3 hk0) b⟩ dX3_place_13 rfl ?_
  cases h
  exact wq_vret F rfl rfl dX3_place_14
set_option maxHeartbeats 4000000 in
set_option maxRecDepth 100000 in
theorem tb_X5_conditionForIndex_11 {p : Program} {l : Launch} {e : Env} {s : State} {m : MethodId} {args : Array Value} {below : List Frame} {meth : Method} {c : Code} {D : va_G} {Ar : Nat → ClassId} {b : Nat} (F : wq_Fr p s m args meth c cX5_conditionForIndex 7 ((Option.some Jvm.ClassFile.FieldType.int)) "WharfQuery$Report" D Ar) {r0 : Int} {S0 : wq_St} {q0 : Nat} {q1 : Nat} {c2 : Int} {c3 : Int} {c4 : Int} (hq0 : wq_rep q0) (hq1 : wq_pln q1) {kx : wq_St → Option (Int × wq_St)} (hkx : ∀ (S : wq_St), kx S = some (r0, S0) → wq_Z p l e (wq_rm 2 0 0) s m args below meth c D (wq_EC Ar b) b 284 7 (wq_Ab b 284) (MQ below (wq_Qc D (wq_EC Ar b) b 284 (some (.int (wq_I r0))) S0) args s 0 0 (wq_Ab b 284)) 0 0 59 [none, none, none, none, none, none, none] [] S) {rec : Int → wq_St → Option (Int × wq_St)} (hrec : ∀ (y5 : Int) (S : wq_St), rec y5 S = some (r0, S0) → wq_Z p l e (wq_rm 2 0 0) s m args below meth c D (wq_EC Ar b) b 284 7 (wq_Ab b 284) (MQ below (wq_Qc D (wq_EC Ar b) b 284 (some (.int (wq_I r0))) S0) args s 0 0 (wq_Ab b 284)) 0 0 11 [some (.ref (b + q0)), some (.ref (b + q1)), some (.int (wq_I c2)), some (.int (wq_I c3)), some (.int (wq_I c4)), some (.int (wq_I y5)), none] [] S) (y5 : Int) (S : wq_St) (h : b_X5_conditionForIndex_11 q0 q1 c2 c3 c4 kx rec y5 S = some (r0, S0)) : wq_Z p l e (wq_rm 2 0 0) s m args below meth c D (wq_EC Ar b) b 284 7 (wq_Ab b 284) (MQ below (wq_Qc D (wq_EC Ar b) b 284 (some (.int (wq_I r0))) S0) args s 0 0 (wq_Ab b 284)) 0 0 11 [some (.ref (b + q0)), some (.ref (b + q1)), some (.int (wq_I c2)), some (.int (wq_I c3)), some (.int (wq_I c4)), some (.int (wq_I y5)), none] [] S := by
  unfold b_X5_conditionForIndex_11 at h
  refine wq_iload F dX5_conditionForIndex_11 rfl rfl ?_
  refine wq_aload_n F dX5_conditionForIndex_13 rfl rfl rfl ?_
  refine wq_g_X5_40 F hq0 dX5_conditionForIndex_14 rfl ?_
  refine wq_icmp_ge (tgt := 59) F dX5_conditionForIndex_17 (by decide) rfl (fun hc => ?_) (fun hc => ?_)
  · replace h := wq_ift hc h
    exact wq_lsub [none, none, none, none, none, none, none] (by simp [wq_sub]) (hkx S h)
  · replace h := wq_iff hc h
    refine wq_aload_n F dX5_conditionForIndex_20 rfl rfl rfl ?_
    refine wq_g_X5_17 F hq0 dX5_conditionForIndex_21 rfl ?_
    refine wq_iload F dX5_conditionForIndex_24 rfl rfl ?_
    obtain ⟨t2, ht2, wt2, h⟩ := wq_ix_some h
    refine wq_aald F (wq_rep_lt2 hq0) (wq_E_cnds hq0) rfl rfl ht2 wt2 dX5_conditionForIndex_26 rfl ?_
    refine wq_astore (L' := [some (.ref (b + q0)), some (.ref (b + q1)), some (.int (wq_I c2)), some (.int (wq_I c3)), some (.int (wq_I c4)), some (.int (wq_I y5)), some (.ref (b + (q0 + 3 + t2)))]) F dX5_conditionForIndex_27 (by decide) rfl rfl rfl ?_
    refine wq_aload F dX5_conditionForIndex_29 rfl rfl ?_
    refine wq_aload_n F dX5_conditionForIndex_31 rfl rfl rfl ?_
    obtain ⟨r3, S4, h1r3, h⟩ := wq_bd_some h
    refine wq_callV (As := [.ref (b + q1)]) F lk_X5_43 (ct_X1_stepIn (wq_cnd_i hq0 ht2) hq1 h1r3) ⟨Nat.le_of_ble_eq_true rfl, Nat.le_of_ble_eq_true rfl⟩ ⟨Nat.le_of_ble_eq_true rfl, Nat.le_of_ble_eq_true rfl⟩ (wq_cnd_lt (wq_cnd_i hq0 ht2)) (wq_E_cnd (wq_cnd_i hq0 ht2)) rfl (fun _ h9 => h9) rfl rfl (Nat.le_of_ble_eq_true rfl) dX5_conditionForIndex_32 rfl ?_
    refine wq_iload_n F dX5_conditionForIndex_35 rfl rfl rfl ?_
    refine wq_icmp_ne (tgt := 53) F dX5_conditionForIndex_36 (by decide) rfl (fun hc => ?_) (fun hc => ?_)
    · replace h := wq_iff hc h
      refine wq_iinc (L' := [some (.ref (b + q0)), some (.ref (b + q1)), some (.int (wq_I c2)), some (.int (wq_I c3)), some (.int (wq_I c4)), some (.int (wq_I (y5 + 1))), some (.ref (b + (q0 + 3 + t2)))]) F dX5_conditionForIndex_53 rfl (by decide) rfl rfl rfl ?_
      refine wq_goto (tgt := 11) F dX5_conditionForIndex_56 (by decide) ?_
      exact wq_lsub [some (.ref (b + q0)), some (.ref (b + q1)), some (.int (wq_I c2)), some (.int (wq_I c3)), some (.int (wq_I c4)), some (.int (wq_I (y5 + 1))), none] (by simp [wq_sub]) (hrec (y5 + 1) S4 h)
    · replace h := wq_ift hc h
      refine wq_aload F dX5_conditionForIndex_39 rfl rfl ?_
      refine wq_iload F dX5_conditionForIndex_41 rfl rfl ?_
      refine wq_iload_n F dX5_conditionForIndex_43 rfl rfl rfl ?_
      obtain ⟨r5, S6, h1r5, h⟩ := wq_bd_some h
      refine wq_callV (As := [.int (wq_I c4), .int (wq_I c3)]) F lk_X5_47 (ct_X1_asksForOneValueOf (wq_cnd_i hq0 ht2) h1r5) ⟨Nat.le_of_ble_eq_true rfl, Nat.le_of_ble_eq_true rfl⟩ ⟨Nat.le_of_ble_eq_true rfl, Nat.le_of_ble_eq_true rfl⟩ (wq_cnd_lt (wq_cnd_i hq0 ht2)) (wq_E_cnd (wq_cnd_i hq0 ht2)) rfl (fun _ h9 => h9) rfl rfl (Nat.le_of_ble_eq_true rfl) dX5_conditionForIndex_44 rfl ?_
      refine wq_if_eq (tgt := 53) F dX5_conditionForIndex_47 (by decide) rfl (fun hc => ?_) (fun hc => ?_)
      · replace h := wq_ift hc h
        refine wq_iinc (L' := [some (.ref (b + q0)), some (.ref (b + q1)), some (.int (wq_I c2)), some (.int (wq_I c3)), some (.int (wq_I c4)), some (.int (wq_I (y5 + 1))), some (.ref (b + (q0 + 3 + t2)))]) F dX5_conditionForIndex_53 rfl (by decide) rfl rfl rfl ?_
        refine wq_goto (tgt := 11) F dX5_conditionForIndex_56 (by decide) ?_
        exact wq_lsub [some (.ref (b + q0)), some (.ref (b + q1)), some (.int (wq_I c2)), some (.int (wq_I c3)), some (.int (wq_I c4)), some (.int (wq_I (y5 + 1))), none] (by simp [wq_sub]) (hrec (y5 + 1) S6 h)
      · replace h := wq_iff hc h
        refine wq_iload F dX5_conditionForIndex_50 rfl rfl ?_
        cases h
        exact wq_iret F rfl rfl dX5_conditionForIndex_52
set_option maxHeartbeats 4000000 in
set_option maxRecDepth 100000 in
theorem tl_X5_conditionForIndex_11 {p : Program} {l : Launch} {e : Env} {s : State} {m : MethodId} {args : Array Value} {below : List Frame} {meth : Method} {c : Code} {D : va_G} {Ar : Nat → ClassId} {b : Nat} (F : wq_Fr p s m args meth c cX5_conditionForIndex 7 ((Option.some Jvm.ClassFile.FieldType.int)) "WharfQuery$Report" D Ar) {r0 : Int} {S0 : wq_St} {q0 : Nat} {q1 : Nat} {c2 : Int} {c3 : Int} {c4 : Int} (hq0 : wq_rep q0) (hq1 : wq_pln q1) {kx : wq_St → Option (Int × wq_St)} (hkx : ∀ (S : wq_St), kx S = some (r0, S0) → wq_Z p l e (wq_rm 2 0 0) s m args below meth c D (wq_EC Ar b) b 284 7 (wq_Ab b 284) (MQ below (wq_Qc D (wq_EC Ar b) b 284 (some (.int (wq_I r0))) S0) args s 0 0 (wq_Ab b 284)) 0 0 59 [none, none, none, none, none, none, none] [] S) (n : Nat) (y5 : Int) (S : wq_St) (h : l_X5_conditionForIndex_11 q0 q1 c2 c3 c4 kx n y5 S = some (r0, S0)) : wq_Z p l e (wq_rm 2 0 0) s m args below meth c D (wq_EC Ar b) b 284 7 (wq_Ab b 284) (MQ below (wq_Qc D (wq_EC Ar b) b 284 (some (.int (wq_I r0))) S0) args s 0 0 (wq_Ab b 284)) 0 0 11 [some (.ref (b + q0)), some (.ref (b + q1)), some (.int (wq_I c2)), some (.int (wq_I c3)), some (.int (wq_I c4)), some (.int (wq_I y5)), none] [] S :=
  wq_loop_ind (f := fun (g : Int × wq_St → Option (Int × wq_St)) (x : Int × wq_St) => b_X5_conditionForIndex_11 q0 q1 c2 c3 c4 kx (fun y5 S => g (y5, S)) x.1 x.2) (P := (fun x : Int × wq_St => wq_Z p l e (wq_rm 2 0 0) s m args below meth c D (wq_EC Ar b) b 284 7 (wq_Ab b 284) (MQ below (wq_Qc D (wq_EC Ar b) b 284 (some (.int (wq_I r0))) S0) args s 0 0 (wq_Ab b 284)) 0 0 11 [some (.ref (b + q0)), some (.ref (b + q1)), some (.int (wq_I c2)), some (.int (wq_I c3)), some (.int (wq_I c4)), some (.int (wq_I (x.1))), none] [] x.2)) (fun g hg x hx => tb_X5_conditionForIndex_11 F hq0 hq1 hkx (fun y5 S h => hg (y5, S) h) x.1 x.2 hx) n (y5, S) h
set_option maxHeartbeats 4000000 in
set_option maxRecDepth 100000 in
theorem ct_X5_conditionForIndex {l : Launch} {D : va_G} {Ar : Nat → ClassId} {b : Nat} {k0 : Nat} {k1 : Nat} {x2 : Int} {x3 : Int} {S S0 : wq_St} {r0 : Int} (hk0 : wq_rep k0) (hk1 : wq_pln k1) (h : f_X5_conditionForIndex k0 k1 x2 x3 S = some (r0, S0)) : wq_Ct l yX5_conditionForIndex (.code yX5_conditionForIndex cX5_conditionForIndex 7 ((Option.some Jvm.ClassFile.FieldType.int))) 2 D Ar (wq_EC Ar b) b 284 [.ref (b + k0), .ref (b + k1), .int (wq_I x2), .int (wq_I x3)] S (some (.int (wq_I r0))) S0 := by
  refine wq_start "WharfQuery$Report" [some (.ref (b + k0)), some (.ref (b + k1)), some (.int (wq_I x2)), some (.int (wq_I x3)), none, none, none] (by decide +kernel) rfl (Nat.le_of_ble_eq_true rfl) rfl ?_
  intro p e s m args below meth c F
  unfold f_X5_conditionForIndex at h
  refine wq_aload_n F dX5_conditionForIndex_0 rfl rfl rfl ?_
  refine wq_g_X5_35 F hk1 dX5_conditionForIndex_1 rfl ?_
  refine wq_iload_n F dX5_conditionForIndex_4 rfl rfl rfl ?_
  obtain ⟨t1, ht1, wt1, h⟩ := wq_ix_some h
  refine wq_iald F (wq_pln_lt1 hk1) (wq_E_pln1 hk1) ht1 wt1 dX5_conditionForIndex_5 rfl ?_
  refine wq_istore (L' := [some (.ref (b + k0)), some (.ref (b + k1)), some (.int (wq_I x2)), some (.int (wq_I x3)), some (.int (wq_I (S (k1 + 1) t1))), none, none]) F dX5_conditionForIndex_6 (by decide) rfl rfl rfl ?_
  refine wq_iconst (n := 0) F dX5_conditionForIndex_8 rfl ?_
  refine wq_istore (L' := [some (.ref (b + k0)), some (.ref (b + k1)), some (.int (wq_I x2)), some (.int (wq_I x3)), some (.int (wq_I (S (k1 + 1) t1))), some (.int (wq_I 0)), none]) F dX5_conditionForIndex_9 (by decide) rfl rfl rfl ?_
  refine wq_lsub [some (.ref (b + k0)), some (.ref (b + k1)), some (.int (wq_I x2)), some (.int (wq_I x3)), some (.int (wq_I (S (k1 + 1) t1))), some (.int (wq_I 0)), none] (by simp [wq_sub]) (tl_X5_conditionForIndex_11 F hk0 hk1 (fun S7 h => ?_) wq_fu 0 S h)
  refine wq_iconst (n := -1) F dX5_conditionForIndex_59 rfl ?_
  cases h
  exact wq_iret F rfl rfl dX5_conditionForIndex_60
set_option maxHeartbeats 4000000 in
set_option maxRecDepth 100000 in
theorem tb_X4_takeCheapestWay_48 {p : Program} {l : Launch} {e : Env} {s : State} {m : MethodId} {args : Array Value} {below : List Frame} {meth : Method} {c : Code} {D : va_G} {Ar : Nat → ClassId} {b : Nat} (F : wq_Fr p s m args meth c cX4_takeCheapestWay 14 ((Option.some Jvm.ClassFile.FieldType.long)) "WharfQuery$Planner" D Ar) {r0 : Int} {S0 : wq_St} {q1 : Nat} {c2 : Int} {c3 : Int} {q5 : Nat} {c6 : Int} (hq1 : wq_rep q1) (hq5 : wq_tab q5) {kx : Int → wq_St → Option (Int × wq_St)} (hkx : ∀ (u8 : Int) (S : wq_St), kx u8 S = some (r0, S0) → wq_Z p l e (wq_rm 3 0 0) s m args below meth c D (wq_EC Ar b) b 284 14 (wq_Ab b 284) (MQ below (wq_Qc D (wq_EC Ar b) b 284 (some (.long (wq_J r0))) S0) args s 0 0 (wq_Ab b 284)) 0 0 140 [none, none, none, none, none, none, none, none, some (.long (wq_J u8)), none, none, none, none, none] [] S) {rec : Int → Int → wq_St → Option (Int × wq_St)} (hrec : ∀ (y8 : Int) (y10 : Int) (S : wq_St), rec y8 y10 S = some (r0, S0) → wq_Z p l e (wq_rm 3 0 0) s m args below meth c D (wq_EC Ar b) b 284 14 (wq_Ab b 284) (MQ below (wq_Qc D (wq_EC Ar b) b 284 (some (.long (wq_J r0))) S0) args s 0 0 (wq_Ab b 284)) 0 0 48 [some (.ref (b + 271)), some (.ref (b + q1)), some (.int (wq_I c2)), some (.long (wq_J c3)), none, some (.ref (b + q5)), some (.long (wq_J c6)), none, some (.long (wq_J y8)), none, some (.int (wq_I y10)), none, none, none] [] S) (y8 : Int) (y10 : Int) (S : wq_St) (h : b_X4_takeCheapestWay_48 q1 c2 c3 q5 c6 kx rec y8 y10 S = some (r0, S0)) : wq_Z p l e (wq_rm 3 0 0) s m args below meth c D (wq_EC Ar b) b 284 14 (wq_Ab b 284) (MQ below (wq_Qc D (wq_EC Ar b) b 284 (some (.long (wq_J r0))) S0) args s 0 0 (wq_Ab b 284)) 0 0 48 [some (.ref (b + 271)), some (.ref (b + q1)), some (.int (wq_I c2)), some (.long (wq_J c3)), none, some (.ref (b + q5)), some (.long (wq_J c6)), none, some (.long (wq_J y8)), none, some (.int (wq_I y10)), none, none, none] [] S := by
  unfold b_X4_takeCheapestWay_48 at h
  refine wq_iload F dX4_takeCheapestWay_48 rfl rfl ?_
  refine wq_aload F dX4_takeCheapestWay_50 rfl rfl ?_
  refine wq_g_X4_79 F hq5 dX4_takeCheapestWay_52 rfl ?_
  refine wq_icmp_ge (tgt := 140) F dX4_takeCheapestWay_55 (by decide) rfl (fun hc => ?_) (fun hc => ?_)
  · replace h := wq_ift hc h
    exact wq_lsub [none, none, none, none, none, none, none, none, some (.long (wq_J y8)), none, none, none, none, none] (by simp [wq_sub]) (hkx y8 S h)
  · replace h := wq_iff hc h
    refine wq_aload F dX4_takeCheapestWay_58 rfl rfl ?_
    refine wq_g_X4_82 F hq5 dX4_takeCheapestWay_60 rfl ?_
    refine wq_iload F dX4_takeCheapestWay_63 rfl rfl ?_
    obtain ⟨t7, ht7, wt7, h⟩ := wq_ix_some h
    refine wq_aald F (wq_tab_lt1 hq5) (wq_E_cols hq5) rfl rfl ht7 wt7 dX4_takeCheapestWay_65 rfl ?_
    refine wq_astore (L' := [some (.ref (b + 271)), some (.ref (b + q1)), some (.int (wq_I c2)), some (.long (wq_J c3)), none, some (.ref (b + q5)), some (.long (wq_J c6)), none, some (.long (wq_J y8)), none, some (.int (wq_I y10)), some (.ref (b + (q5 + 45 + t7))), none, none]) F dX4_takeCheapestWay_66 (by decide) rfl rfl rfl ?_
    refine wq_aload F dX4_takeCheapestWay_68 rfl rfl ?_
    refine wq_g_X4_86 F (wq_col_i hq5 ht7) dX4_takeCheapestWay_70 rfl ?_
    refine wq_if_eq (tgt := 134) F dX4_takeCheapestWay_73 (by decide) rfl (fun hc => ?_) (fun hc => ?_)
    · replace h := wq_ift hc h
      refine wq_iinc (L' := [some (.ref (b + 271)), some (.ref (b + q1)), some (.int (wq_I c2)), some (.long (wq_J c3)), none, some (.ref (b + q5)), some (.long (wq_J c6)), none, some (.long (wq_J y8)), none, some (.int (wq_I (y10 + 1))), some (.ref (b + (q5 + 45 + t7))), none, none]) F dX4_takeCheapestWay_134 rfl (by decide) rfl rfl rfl ?_
      refine wq_goto (tgt := 48) F dX4_takeCheapestWay_137 (by decide) ?_
      exact wq_lsub [some (.ref (b + 271)), some (.ref (b + q1)), some (.int (wq_I c2)), some (.long (wq_J c3)), none, some (.ref (b + q5)), some (.long (wq_J c6)), none, some (.long (wq_J y8)), none, some (.int (wq_I (y10 + 1))), none, none, none] (by simp [wq_sub]) (hrec y8 (y10 + 1) S h)
    · replace h := wq_iff hc h
      refine wq_aload_n F dX4_takeCheapestWay_76 rfl rfl rfl ?_
      refine wq_aload_n F dX4_takeCheapestWay_77 rfl rfl rfl ?_
      refine wq_g_X4_12 F dX4_takeCheapestWay_78 rfl ?_
      refine wq_iload_n F dX4_takeCheapestWay_81 rfl rfl rfl ?_
      refine wq_iload F dX4_takeCheapestWay_82 rfl rfl ?_
      obtain ⟨r8, S9, h1r8, h⟩ := wq_bd_some h
      refine wq_callV (As := [.ref (b + 272), .int (wq_I c2), .int (wq_I y10)]) F lk_X4_92 (ct_X5_conditionForIndex hq1 wq_pln_d h1r8) ⟨Nat.le_of_ble_eq_true rfl, Nat.le_of_ble_eq_true rfl⟩ ⟨Nat.le_of_ble_eq_true rfl, Nat.le_of_ble_eq_true rfl⟩ (wq_rep_lt hq1) (wq_E_rep hq1) rfl (fun _ h9 => h9) rfl rfl (Nat.le_of_ble_eq_true rfl) dX4_takeCheapestWay_84 rfl ?_
      refine wq_iconst (n := -1) F dX4_takeCheapestWay_87 rfl ?_
      refine wq_icmp_ne (tgt := 94) F dX4_takeCheapestWay_88 (by decide) rfl (fun hc => ?_) (fun hc => ?_)
      · replace h := wq_iff hc h
        refine wq_lload_n F dX4_takeCheapestWay_94 rfl rfl rfl ?_
        refine wq_lload F dX4_takeCheapestWay_95 rfl rfl ?_
        refine wq_aload F dX4_takeCheapestWay_97 rfl rfl ?_
        refine wq_g_X4_96 F (wq_col_i hq5 ht7) dX4_takeCheapestWay_99 rfl ?_
        refine wq_iconst (n := 1) F dX4_takeCheapestWay_102 rfl ?_
        refine wq_mmax F aw_576 aw_577 aw_35 aw_578 (Nat.le_of_ble_eq_true rfl) (Nat.le_of_ble_eq_true rfl) ⟨Nat.le_of_ble_eq_true rfl, Nat.le_of_ble_eq_true rfl⟩ dX4_takeCheapestWay_103 rfl ?_
        refine wq_i2l_ F dX4_takeCheapestWay_106 rfl ?_
        obtain ⟨hg, h⟩ := wq_gd_some h
        refine wq_ldiv (hy := hg) F dX4_takeCheapestWay_107 rfl ?_
        refine wq_ladd F dX4_takeCheapestWay_108 rfl ?_
        obtain ⟨a10, ea10, h⟩ := wq_lt_some h
        refine wq_namL ea10 ?_
        refine wq_lstore (L' := [some (.ref (b + 271)), some (.ref (b + q1)), some (.int (wq_I c2)), some (.long (wq_J c3)), none, some (.ref (b + q5)), some (.long (wq_J c6)), none, some (.long (wq_J y8)), none, some (.int (wq_I y10)), some (.ref (b + (q5 + 45 + t7))), some (.long (wq_J a10)), none]) F dX4_takeCheapestWay_109 (by decide) rfl rfl rfl ?_
        refine wq_lload F dX4_takeCheapestWay_111 rfl rfl ?_
        refine wq_lload F dX4_takeCheapestWay_113 rfl rfl ?_
        refine wq_lcmp F dX4_takeCheapestWay_115 rfl ?_
        refine wq_if_ge (tgt := 134) F dX4_takeCheapestWay_116 (by decide) rfl (fun hc => ?_) (fun hc => ?_)
        · replace h := wq_ift hc h
          refine wq_iinc (L' := [some (.ref (b + 271)), some (.ref (b + q1)), some (.int (wq_I c2)), some (.long (wq_J c3)), none, some (.ref (b + q5)), some (.long (wq_J c6)), none, some (.long (wq_J y8)), none, some (.int (wq_I (y10 + 1))), some (.ref (b + (q5 + 45 + t7))), some (.long (wq_J a10)), none]) F dX4_takeCheapestWay_134 rfl (by decide) rfl rfl rfl ?_
          refine wq_goto (tgt := 48) F dX4_takeCheapestWay_137 (by decide) ?_
          exact wq_lsub [some (.ref (b + 271)), some (.ref (b + q1)), some (.int (wq_I c2)), some (.long (wq_J c3)), none, some (.ref (b + q5)), some (.long (wq_J c6)), none, some (.long (wq_J y8)), none, some (.int (wq_I (y10 + 1))), none, none, none] (by simp [wq_sub]) (hrec y8 (y10 + 1) S9 h)
        · replace h := wq_iff hc h
          refine wq_lload F dX4_takeCheapestWay_119 rfl rfl ?_
          refine wq_lstore (L' := [some (.ref (b + 271)), some (.ref (b + q1)), some (.int (wq_I c2)), some (.long (wq_J c3)), none, some (.ref (b + q5)), some (.long (wq_J c6)), none, some (.long (wq_J a10)), none, some (.int (wq_I y10)), some (.ref (b + (q5 + 45 + t7))), some (.long (wq_J a10)), none]) F dX4_takeCheapestWay_121 (by decide) rfl rfl rfl ?_
          refine wq_aload_n F dX4_takeCheapestWay_123 rfl rfl rfl ?_
          refine wq_g_X4_12 F dX4_takeCheapestWay_124 rfl ?_
          refine wq_g_X4_76 F wq_pln_d dX4_takeCheapestWay_127 rfl ?_
          refine wq_iload_n F dX4_takeCheapestWay_130 rfl rfl rfl ?_
          refine wq_iload F dX4_takeCheapestWay_131 rfl rfl ?_
          obtain ⟨t11, ht11, wt11, h⟩ := wq_ix_some h
          refine wq_iast F (wq_pln_lt2 wq_pln_d) (wq_E_pln2 wq_pln_d) (wq_E_pln2 wq_pln_d) ht11 wt11 ⟨Nat.le_add_right _ _, Nat.add_lt_add_left (wq_pln_lt2 wq_pln_d) b⟩ dX4_takeCheapestWay_133 rfl ?_
          obtain ⟨S12, eS12, h⟩ := wq_lt_some h
          refine wq_namS eS12 ?_
          refine wq_iinc (L' := [some (.ref (b + 271)), some (.ref (b + q1)), some (.int (wq_I c2)), some (.long (wq_J c3)), none, some (.ref (b + q5)), some (.long (wq_J c6)), none, some (.long (wq_J a10)), none, some (.int (wq_I (y10 + 1))), some (.ref (b + (q5 + 45 + t7))), some (.long (wq_J a10)), none]) F dX4_takeCheapestWay_134 rfl (by decide) rfl rfl rfl ?_
          refine wq_goto (tgt := 48) F dX4_takeCheapestWay_137 (by decide) ?_
          exact wq_lsub [some (.ref (b + 271)), some (.ref (b + q1)), some (.int (wq_I c2)), some (.long (wq_J c3)), none, some (.ref (b + q5)), some (.long (wq_J c6)), none, some (.long (wq_J a10)), none, some (.int (wq_I (y10 + 1))), none, none, none] (by simp [wq_sub]) (hrec a10 (y10 + 1) S12 h)
      · replace h := wq_ift hc h
        refine wq_goto (tgt := 134) F dX4_takeCheapestWay_91 (by decide) ?_
        refine wq_iinc (L' := [some (.ref (b + 271)), some (.ref (b + q1)), some (.int (wq_I c2)), some (.long (wq_J c3)), none, some (.ref (b + q5)), some (.long (wq_J c6)), none, some (.long (wq_J y8)), none, some (.int (wq_I (y10 + 1))), some (.ref (b + (q5 + 45 + t7))), none, none]) F dX4_takeCheapestWay_134 rfl (by decide) rfl rfl rfl ?_
        refine wq_goto (tgt := 48) F dX4_takeCheapestWay_137 (by decide) ?_
        exact wq_lsub [some (.ref (b + 271)), some (.ref (b + q1)), some (.int (wq_I c2)), some (.long (wq_J c3)), none, some (.ref (b + q5)), some (.long (wq_J c6)), none, some (.long (wq_J y8)), none, some (.int (wq_I (y10 + 1))), none, none, none] (by simp [wq_sub]) (hrec y8 (y10 + 1) S9 h)
set_option maxHeartbeats 4000000 in
set_option maxRecDepth 100000 in
theorem tl_X4_takeCheapestWay_48 {p : Program} {l : Launch} {e : Env} {s : State} {m : MethodId} {args : Array Value} {below : List Frame} {meth : Method} {c : Code} {D : va_G} {Ar : Nat → ClassId} {b : Nat} (F : wq_Fr p s m args meth c cX4_takeCheapestWay 14 ((Option.some Jvm.ClassFile.FieldType.long)) "WharfQuery$Planner" D Ar) {r0 : Int} {S0 : wq_St} {q1 : Nat} {c2 : Int} {c3 : Int} {q5 : Nat} {c6 : Int} (hq1 : wq_rep q1) (hq5 : wq_tab q5) {kx : Int → wq_St → Option (Int × wq_St)} (hkx : ∀ (u8 : Int) (S : wq_St), kx u8 S = some (r0, S0) → wq_Z p l e (wq_rm 3 0 0) s m args below meth c D (wq_EC Ar b) b 284 14 (wq_Ab b 284) (MQ below (wq_Qc D (wq_EC Ar b) b 284 (some (.long (wq_J r0))) S0) args s 0 0 (wq_Ab b 284)) 0 0 140 [none, none, none, none, none, none, none, none, some (.long (wq_J u8)), none, none, none, none, none] [] S) (n : Nat) (y8 : Int) (y10 : Int) (S : wq_St) (h : l_X4_takeCheapestWay_48 q1 c2 c3 q5 c6 kx n y8 y10 S = some (r0, S0)) : wq_Z p l e (wq_rm 3 0 0) s m args below meth c D (wq_EC Ar b) b 284 14 (wq_Ab b 284) (MQ below (wq_Qc D (wq_EC Ar b) b 284 (some (.long (wq_J r0))) S0) args s 0 0 (wq_Ab b 284)) 0 0 48 [some (.ref (b + 271)), some (.ref (b + q1)), some (.int (wq_I c2)), some (.long (wq_J c3)), none, some (.ref (b + q5)), some (.long (wq_J c6)), none, some (.long (wq_J y8)), none, some (.int (wq_I y10)), none, none, none] [] S :=
  wq_loop_ind (f := fun (g : Int × Int × wq_St → Option (Int × wq_St)) (x : Int × Int × wq_St) => b_X4_takeCheapestWay_48 q1 c2 c3 q5 c6 kx (fun y8 y10 S => g (y8, y10, S)) x.1 x.2.1 x.2.2) (P := (fun x : Int × Int × wq_St => wq_Z p l e (wq_rm 3 0 0) s m args below meth c D (wq_EC Ar b) b 284 14 (wq_Ab b 284) (MQ below (wq_Qc D (wq_EC Ar b) b 284 (some (.long (wq_J r0))) S0) args s 0 0 (wq_Ab b 284)) 0 0 48 [some (.ref (b + 271)), some (.ref (b + q1)), some (.int (wq_I c2)), some (.long (wq_J c3)), none, some (.ref (b + q5)), some (.long (wq_J c6)), none, some (.long (wq_J (x.1))), none, some (.int (wq_I (x.2.1))), none, none, none] [] x.2.2)) (fun g hg x hx => tb_X4_takeCheapestWay_48 F hq1 hq5 hkx (fun y8 y10 S h => hg (y8, y10, S) h) x.1 x.2.1 x.2.2 hx) n (y8, y10, S) h
set_option maxHeartbeats 4000000 in
set_option maxRecDepth 100000 in
theorem ct_X4_takeCheapestWay {l : Launch} {D : va_G} {Ar : Nat → ClassId} {b : Nat} {k1 : Nat} {x2 : Int} {x3 : Int} {S S0 : wq_St} {r0 : Int} (hk1 : wq_rep k1) (h : f_X4_takeCheapestWay k1 x2 x3 S = some (r0, S0)) : wq_Ct l yX4_takeCheapestWay (.code yX4_takeCheapestWay cX4_takeCheapestWay 14 ((Option.some Jvm.ClassFile.FieldType.long))) 3 D Ar (wq_EC Ar b) b 284 [.ref (b + 271), .ref (b + k1), .int (wq_I x2), .long (wq_J x3)] S (some (.long (wq_J r0))) S0 := by
  refine wq_start "WharfQuery$Planner" [some (.ref (b + 271)), some (.ref (b + k1)), some (.int (wq_I x2)), some (.long (wq_J x3)), none, none, none, none, none, none, none, none, none, none] (by decide +kernel) rfl (Nat.le_of_ble_eq_true rfl) rfl ?_
  intro p e s m args below meth c F
  unfold f_X4_takeCheapestWay at h
  refine wq_aload_n F dX4_takeCheapestWay_0 rfl rfl rfl ?_
  refine wq_g_X4_21 F dX4_takeCheapestWay_1 rfl ?_
  refine wq_aload_n F dX4_takeCheapestWay_4 rfl rfl rfl ?_
  refine wq_g_X4_65 F hk1 dX4_takeCheapestWay_5 rfl ?_
  refine wq_aload_n F dX4_takeCheapestWay_8 rfl rfl rfl ?_
  refine wq_g_X4_12 F dX4_takeCheapestWay_9 rfl ?_
  refine wq_g_X4_68 F wq_pln_d dX4_takeCheapestWay_12 rfl ?_
  refine wq_iload_n F dX4_takeCheapestWay_15 rfl rfl rfl ?_
  obtain ⟨t1, ht1, wt1, h⟩ := wq_ix_some h
  refine wq_iald F (wq_pln_lt1 wq_pln_d) (wq_E_pln1 wq_pln_d) ht1 wt1 dX4_takeCheapestWay_16 rfl ?_
  obtain ⟨t2, ht2, wt2, h⟩ := wq_ix_some h
  refine wq_iald F (wq_rep_lt1 hk1) (wq_E_srcs hk1) ht2 wt2 dX4_takeCheapestWay_17 rfl ?_
  obtain ⟨t3, ht3, wt3, h⟩ := wq_ix_some h
  refine wq_aald F (Nat.le_of_ble_eq_true rfl) wq_E_tabs rfl rfl ht3 wt3 dX4_takeCheapestWay_18 rfl ?_
  refine wq_astore (L' := [some (.ref (b + 271)), some (.ref (b + k1)), some (.int (wq_I x2)), some (.long (wq_J x3)), none, some (.ref (b + (6 + 48 * t3))), none, none, none, none, none, none, none, none]) F dX4_takeCheapestWay_19 (by decide) rfl rfl rfl ?_
  refine wq_lload_n F dX4_takeCheapestWay_21 rfl rfl rfl ?_
  refine wq_aload F dX4_takeCheapestWay_22 rfl rfl ?_
  refine wq_g_X4_71 F (wq_tab_i ht3) dX4_takeCheapestWay_24 rfl ?_
  refine wq_i2l_ F dX4_takeCheapestWay_27 rfl ?_
  refine wq_lmul F dX4_takeCheapestWay_28 rfl ?_
  obtain ⟨a4, ea4, h⟩ := wq_lt_some h
  refine wq_namL ea4 ?_
  refine wq_lstore (L' := [some (.ref (b + 271)), some (.ref (b + k1)), some (.int (wq_I x2)), some (.long (wq_J x3)), none, some (.ref (b + (6 + 48 * t3))), some (.long (wq_J a4)), none, none, none, none, none, none, none]) F dX4_takeCheapestWay_29 (by decide) rfl rfl rfl ?_
  refine wq_lload F dX4_takeCheapestWay_31 rfl rfl ?_
  refine wq_lstore (L' := [some (.ref (b + 271)), some (.ref (b + k1)), some (.int (wq_I x2)), some (.long (wq_J x3)), none, some (.ref (b + (6 + 48 * t3))), some (.long (wq_J a4)), none, some (.long (wq_J a4)), none, none, none, none, none]) F dX4_takeCheapestWay_33 (by decide) rfl rfl rfl ?_
  refine wq_aload_n F dX4_takeCheapestWay_35 rfl rfl rfl ?_
  refine wq_g_X4_12 F dX4_takeCheapestWay_36 rfl ?_
  refine wq_g_X4_76 F wq_pln_d dX4_takeCheapestWay_39 rfl ?_
  refine wq_iload_n F dX4_takeCheapestWay_42 rfl rfl rfl ?_
  refine wq_iconst (n := -1) F dX4_takeCheapestWay_43 rfl ?_
  obtain ⟨t5, ht5, wt5, h⟩ := wq_ix_some h
  refine wq_iast F (wq_pln_lt2 wq_pln_d) (wq_E_pln2 wq_pln_d) (wq_E_pln2 wq_pln_d) ht5 wt5 ⟨Nat.le_add_right _ _, Nat.add_lt_add_left (wq_pln_lt2 wq_pln_d) b⟩ dX4_takeCheapestWay_44 rfl ?_
  obtain ⟨S6, eS6, h⟩ := wq_lt_some h
  refine wq_namS eS6 ?_
  refine wq_iconst (n := 0) F dX4_takeCheapestWay_45 rfl ?_
  refine wq_istore (L' := [some (.ref (b + 271)), some (.ref (b + k1)), some (.int (wq_I x2)), some (.long (wq_J x3)), none, some (.ref (b + (6 + 48 * t3))), some (.long (wq_J a4)), none, some (.long (wq_J a4)), none, some (.int (wq_I 0)), none, none, none]) F dX4_takeCheapestWay_46 (by decide) rfl rfl rfl ?_
  refine wq_lsub [some (.ref (b + 271)), some (.ref (b + k1)), some (.int (wq_I x2)), some (.long (wq_J x3)), none, some (.ref (b + (6 + 48 * t3))), some (.long (wq_J a4)), none, some (.long (wq_J a4)), none, some (.int (wq_I 0)), none, none, none] (by simp [wq_sub]) (tl_X4_takeCheapestWay_48 F hk1 (wq_tab_i ht3) (fun u13 S14 h => ?_) wq_fu a4 0 S6 h)
  refine wq_lload F dX4_takeCheapestWay_140 rfl rfl ?_
  cases h
  exact wq_lret F rfl rfl dX4_takeCheapestWay_142
set_option maxHeartbeats 4000000 in
set_option maxRecDepth 100000 in
theorem ct_X4_share {l : Launch} {D : va_G} {Ar : Nat → ClassId} {b : Nat} {x0 : Int} {x1 : Int} {k2 : Nat} {S S0 : wq_St} {r0 : Int} (hk2 : wq_col k2) (h : f_X4_share x0 x1 k2 S = some (r0, S0)) : wq_Ct l yX4_share (.code yX4_share cX4_share 5 ((Option.some Jvm.ClassFile.FieldType.long))) 1 D Ar (wq_EC Ar b) b 284 [.long (wq_J x0), .int (wq_I x1), .ref (b + k2)] S (some (.long (wq_J r0))) S0 := by
  refine wq_start "WharfQuery$Planner" [some (.long (wq_J x0)), none, some (.int (wq_I x1)), some (.ref (b + k2)), none] (by decide +kernel) rfl (Nat.le_of_ble_eq_true rfl) rfl ?_
  intro p e s m args below meth c F
  unfold f_X4_share at h
  refine wq_aload_n F dX4_share_0 rfl rfl rfl ?_
  refine wq_g_X4_141 F hk2 dX4_share_1 rfl ?_
  refine wq_aload_n F dX4_share_4 rfl rfl rfl ?_
  refine wq_g_X4_134 F hk2 dX4_share_5 rfl ?_
  refine wq_isub F dX4_share_8 rfl ?_
  refine wq_iconst (n := 1) F dX4_share_9 rfl ?_
  refine wq_iadd F dX4_share_10 rfl ?_
  refine wq_iconst (n := 1) F dX4_share_11 rfl ?_
  refine wq_mmax F aw_576 aw_577 aw_35 aw_578 (Nat.le_of_ble_eq_true rfl) (Nat.le_of_ble_eq_true rfl) ⟨Nat.le_of_ble_eq_true rfl, Nat.le_of_ble_eq_true rfl⟩ dX4_share_12 rfl ?_
  obtain ⟨a1, ea1, h⟩ := wq_lt_some h
  refine wq_namI ea1 ?_
  refine wq_istore (L' := [some (.long (wq_J x0)), none, some (.int (wq_I x1)), some (.ref (b + k2)), some (.int (wq_I a1))]) F dX4_share_15 (by decide) rfl rfl rfl ?_
  refine wq_lload_n F dX4_share_17 rfl rfl rfl ?_
  refine wq_iconst (n := 0) F dX4_share_18 rfl ?_
  refine wq_iload_n F dX4_share_19 rfl rfl rfl ?_
  refine wq_iload F dX4_share_20 rfl rfl ?_
  refine wq_mmin F aw_591 aw_592 aw_35 aw_593 (Nat.le_of_ble_eq_true rfl) (Nat.le_of_ble_eq_true rfl) ⟨Nat.le_of_ble_eq_true rfl, Nat.le_of_ble_eq_true rfl⟩ dX4_share_22 rfl ?_
  refine wq_mmax F aw_576 aw_577 aw_35 aw_578 (Nat.le_of_ble_eq_true rfl) (Nat.le_of_ble_eq_true rfl) ⟨Nat.le_of_ble_eq_true rfl, Nat.le_of_ble_eq_true rfl⟩ dX4_share_25 rfl ?_
  refine wq_i2l_ F dX4_share_28 rfl ?_
  refine wq_lmul F dX4_share_29 rfl ?_
  refine wq_iload F dX4_share_30 rfl rfl ?_
  refine wq_i2l_ F dX4_share_32 rfl ?_
  obtain ⟨hg, h⟩ := wq_gd_some h
  refine wq_ldiv (hy := hg) F dX4_share_33 rfl ?_
  cases h
  exact wq_lret F rfl rfl dX4_share_34
set_option maxHeartbeats 4000000 in
set_option maxRecDepth 100000 in
theorem ct_X4_narrow {l : Launch} {D : va_G} {Ar : Nat → ClassId} {b : Nat} {k1 : Nat} {k2 : Nat} {x3 : Int} {S S0 : wq_St} {r0 : Int} (hk1 : wq_rep k1) (hk2 : wq_cnd k2) (h : f_X4_narrow k1 k2 x3 S = some (r0, S0)) : wq_Ct l yX4_narrow (.code yX4_narrow cX4_narrow 8 ((Option.some Jvm.ClassFile.FieldType.long))) 2 D Ar (wq_EC Ar b) b 284 [.ref (b + 271), .ref (b + k1), .ref (b + k2), .long (wq_J x3)] S (some (.long (wq_J r0))) S0 := by
  refine wq_start "WharfQuery$Planner" [some (.ref (b + 271)), some (.ref (b + k1)), some (.ref (b + k2)), some (.long (wq_J x3)), none, none, none, none] (by decide +kernel) rfl (Nat.le_of_ble_eq_true rfl) rfl ?_
  intro p e s m args below meth c F
  unfold f_X4_narrow at h
  refine wq_aload_n F dX4_narrow_0 rfl rfl rfl ?_
  refine wq_g_X4_21 F dX4_narrow_1 rfl ?_
  refine wq_aload_n F dX4_narrow_4 rfl rfl rfl ?_
  refine wq_g_X4_65 F hk1 dX4_narrow_5 rfl ?_
  refine wq_aload_n F dX4_narrow_8 rfl rfl rfl ?_
  refine wq_g_X4_122 F hk2 dX4_narrow_9 rfl ?_
  obtain ⟨t1, ht1, wt1, h⟩ := wq_ix_some h
  refine wq_iald F (wq_rep_lt1 hk1) (wq_E_srcs hk1) ht1 wt1 dX4_narrow_12 rfl ?_
  obtain ⟨t2, ht2, wt2, h⟩ := wq_ix_some h
  refine wq_aald F (Nat.le_of_ble_eq_true rfl) wq_E_tabs rfl rfl ht2 wt2 dX4_narrow_13 rfl ?_
  refine wq_g_X4_82 F (wq_tab_i ht2) dX4_narrow_14 rfl ?_
  refine wq_aload_n F dX4_narrow_17 rfl rfl rfl ?_
  refine wq_g_X4_125 F hk2 dX4_narrow_18 rfl ?_
  obtain ⟨t3, ht3, wt3, h⟩ := wq_ix_some h
  refine wq_aald F (wq_tab_lt1 (wq_tab_i ht2)) (wq_E_cols (wq_tab_i ht2)) rfl rfl ht3 wt3 dX4_narrow_21 rfl ?_
  refine wq_astore (L' := [some (.ref (b + 271)), some (.ref (b + k1)), some (.ref (b + k2)), some (.long (wq_J x3)), none, some (.ref (b + ((6 + 48 * t2) + 45 + t3))), none, none]) F dX4_narrow_22 (by decide) rfl rfl rfl ?_
  refine wq_aload F dX4_narrow_24 rfl rfl ?_
  refine wq_g_X4_96 F (wq_col_i (wq_tab_i ht2) ht3) dX4_narrow_26 rfl ?_
  refine wq_iconst (n := 1) F dX4_narrow_29 rfl ?_
  refine wq_mmax F aw_576 aw_577 aw_35 aw_578 (Nat.le_of_ble_eq_true rfl) (Nat.le_of_ble_eq_true rfl) ⟨Nat.le_of_ble_eq_true rfl, Nat.le_of_ble_eq_true rfl⟩ dX4_narrow_30 rfl ?_
  obtain ⟨a4, ea4, h⟩ := wq_lt_some h
  refine wq_namI ea4 ?_
  refine wq_istore (L' := [some (.ref (b + 271)), some (.ref (b + k1)), some (.ref (b + k2)), some (.long (wq_J x3)), none, some (.ref (b + ((6 + 48 * t2) + 45 + t3))), some (.int (wq_I a4)), none]) F dX4_narrow_33 (by decide) rfl rfl rfl ?_
  refine wq_aload_n F dX4_narrow_35 rfl rfl rfl ?_
  refine wq_g_X4_128 F hk2 dX4_narrow_36 rfl ?_
  by_cases hc0 : wq_w (S k2 0) = 0
  · replace h := wq_ift hc0 h
    refine wq_tableIn (tgt := 64) (off := 25) F dX4_narrow_39 (by omega) (by omega) (by rw [hc0]; rfl) (by decide) ?_
    refine wq_lload_n F dX4_narrow_64 rfl rfl rfl ?_
    refine wq_iload F dX4_narrow_65 rfl rfl ?_
    refine wq_i2l_ F dX4_narrow_67 rfl ?_
    obtain ⟨hg, h⟩ := wq_gd_some h
    refine wq_ldiv (hy := hg) F dX4_narrow_68 rfl ?_
    cases h
    exact wq_lret F rfl rfl dX4_narrow_69
  · replace h := wq_iff hc0 h
    by_cases hc1 : wq_w (S k2 0) = 1
    · replace h := wq_ift hc1 h
      refine wq_tableIn (tgt := 70) (off := 31) F dX4_narrow_39 (by omega) (by omega) (by rw [hc1]; rfl) (by decide) ?_
      refine wq_lload_n F dX4_narrow_70 rfl rfl rfl ?_
      refine wq_aload_n F dX4_narrow_71 rfl rfl rfl ?_
      refine wq_g_X4_131 F hk2 dX4_narrow_72 rfl ?_
      refine wq_aload F dX4_narrow_75 rfl rfl ?_
      refine wq_g_X4_134 F (wq_col_i (wq_tab_i ht2) ht3) dX4_narrow_77 rfl ?_
      refine wq_isub F dX4_narrow_80 rfl ?_
      refine wq_aload F dX4_narrow_81 rfl rfl ?_
      obtain ⟨r5, S6, h1r5, h⟩ := wq_bd_some h
      refine wq_callS (As := [.long (wq_J x3), .int (wq_I ((S k2 3) - (S ((6 + 48 * t2) + 45 + t3) 2))), .ref (b + ((6 + 48 * t2) + 45 + t3))]) F lk_X4_137 (ct_X4_share (wq_col_i (wq_tab_i ht2) ht3) h1r5) ⟨Nat.le_of_ble_eq_true rfl, Nat.le_of_ble_eq_true rfl⟩ ⟨Nat.le_of_ble_eq_true rfl, Nat.le_of_ble_eq_true rfl⟩ (fun _ h9 => h9) rfl rfl (Nat.le_of_ble_eq_true rfl) dX4_narrow_83 rfl ?_
      cases h
      exact wq_lret F rfl rfl dX4_narrow_86
    · replace h := wq_iff hc1 h
      by_cases hc2 : wq_w (S k2 0) = 2
      · replace h := wq_ift hc2 h
        refine wq_tableIn (tgt := 87) (off := 48) F dX4_narrow_39 (by omega) (by omega) (by rw [hc2]; rfl) (by decide) ?_
        refine wq_lload_n F dX4_narrow_87 rfl rfl rfl ?_
        refine wq_aload F dX4_narrow_88 rfl rfl ?_
        refine wq_g_X4_141 F (wq_col_i (wq_tab_i ht2) ht3) dX4_narrow_90 rfl ?_
        refine wq_aload_n F dX4_narrow_93 rfl rfl rfl ?_
        refine wq_g_X4_131 F hk2 dX4_narrow_94 rfl ?_
        refine wq_isub F dX4_narrow_97 rfl ?_
        refine wq_aload F dX4_narrow_98 rfl rfl ?_
        obtain ⟨r7, S8, h1r7, h⟩ := wq_bd_some h
        refine wq_callS (As := [.long (wq_J x3), .int (wq_I ((S ((6 + 48 * t2) + 45 + t3) 3) - (S k2 3))), .ref (b + ((6 + 48 * t2) + 45 + t3))]) F lk_X4_137 (ct_X4_share (wq_col_i (wq_tab_i ht2) ht3) h1r7) ⟨Nat.le_of_ble_eq_true rfl, Nat.le_of_ble_eq_true rfl⟩ ⟨Nat.le_of_ble_eq_true rfl, Nat.le_of_ble_eq_true rfl⟩ (fun _ h9 => h9) rfl rfl (Nat.le_of_ble_eq_true rfl) dX4_narrow_100 rfl ?_
        cases h
        exact wq_lret F rfl rfl dX4_narrow_103
      · replace h := wq_iff hc2 h
        refine wq_tableOut (tgt := 104) F dX4_narrow_39 (by omega) (by decide) ?_
        refine wq_aload_n F dX4_narrow_104 rfl rfl rfl ?_
        refine wq_g_X4_21 F dX4_narrow_105 rfl ?_
        refine wq_aload_n F dX4_narrow_108 rfl rfl rfl ?_
        refine wq_g_X4_65 F hk1 dX4_narrow_109 rfl ?_
        refine wq_aload_n F dX4_narrow_112 rfl rfl rfl ?_
        refine wq_g_X4_144 F hk2 dX4_narrow_113 rfl ?_
        obtain ⟨t9, ht9, wt9, h⟩ := wq_ix_some h
        refine wq_iald F (wq_rep_lt1 hk1) (wq_E_srcs hk1) ht9 wt9 dX4_narrow_116 rfl ?_
        obtain ⟨t10, ht10, wt10, h⟩ := wq_ix_some h
        refine wq_aald F (Nat.le_of_ble_eq_true rfl) wq_E_tabs rfl rfl ht10 wt10 dX4_narrow_117 rfl ?_
        refine wq_g_X4_82 F (wq_tab_i ht10) dX4_narrow_118 rfl ?_
        refine wq_aload_n F dX4_narrow_121 rfl rfl rfl ?_
        refine wq_g_X4_147 F hk2 dX4_narrow_122 rfl ?_
        obtain ⟨t11, ht11, wt11, h⟩ := wq_ix_some h
        refine wq_aald F (wq_tab_lt1 (wq_tab_i ht10)) (wq_E_cols (wq_tab_i ht10)) rfl rfl ht11 wt11 dX4_narrow_125 rfl ?_
        refine wq_astore (L' := [some (.ref (b + 271)), some (.ref (b + k1)), some (.ref (b + k2)), some (.long (wq_J x3)), none, some (.ref (b + ((6 + 48 * t2) + 45 + t3))), some (.int (wq_I a4)), some (.ref (b + ((6 + 48 * t10) + 45 + t11)))]) F dX4_narrow_126 (by decide) rfl rfl rfl ?_
        refine wq_lload_n F dX4_narrow_128 rfl rfl rfl ?_
        refine wq_iload F dX4_narrow_129 rfl rfl ?_
        refine wq_aload F dX4_narrow_131 rfl rfl ?_
        refine wq_g_X4_96 F (wq_col_i (wq_tab_i ht10) ht11) dX4_narrow_133 rfl ?_
        refine wq_mmax F aw_576 aw_577 aw_35 aw_578 (Nat.le_of_ble_eq_true rfl) (Nat.le_of_ble_eq_true rfl) ⟨Nat.le_of_ble_eq_true rfl, Nat.le_of_ble_eq_true rfl⟩ dX4_narrow_136 rfl ?_
        refine wq_i2l_ F dX4_narrow_139 rfl ?_
        obtain ⟨hg, h⟩ := wq_gd_some h
        refine wq_ldiv (hy := hg) F dX4_narrow_140 rfl ?_
        cases h
        exact wq_lret F rfl rfl dX4_narrow_141
set_option maxHeartbeats 4000000 in
set_option maxRecDepth 100000 in
theorem tb_X4_choicesBehind_34 {p : Program} {l : Launch} {e : Env} {s : State} {m : MethodId} {args : Array Value} {below : List Frame} {meth : Method} {c : Code} {D : va_G} {Ar : Nat → ClassId} {b : Nat} (F : wq_Fr p s m args meth c cX4_choicesBehind 9 ((Option.some Jvm.ClassFile.FieldType.long)) "WharfQuery$Planner" D Ar) {r0 : Int} {S0 : wq_St} {q1 : Nat} {c2 : Int} (hq1 : wq_rep q1) {kx : Int → wq_St → Option (Int × wq_St)} (hkx : ∀ (u6 : Int) (S : wq_St), kx u6 S = some (r0, S0) → wq_Z p l e (wq_rm 3 0 0) s m args below meth c D (wq_EC Ar b) b 284 9 (wq_Ab b 284) (MQ below (wq_Qc D (wq_EC Ar b) b 284 (some (.long (wq_J r0))) S0) args s 0 0 (wq_Ab b 284)) 0 0 83 [none, none, none, none, none, none, some (.long (wq_J u6)), none, none] [] S) {rec : Int → Int → wq_St → Option (Int × wq_St)} (hrec : ∀ (y6 : Int) (y8 : Int) (S : wq_St), rec y6 y8 S = some (r0, S0) → wq_Z p l e (wq_rm 3 0 0) s m args below meth c D (wq_EC Ar b) b 284 9 (wq_Ab b 284) (MQ below (wq_Qc D (wq_EC Ar b) b 284 (some (.long (wq_J r0))) S0) args s 0 0 (wq_Ab b 284)) 0 0 34 [some (.ref (b + 271)), some (.ref (b + q1)), some (.int (wq_I c2)), none, none, none, some (.long (wq_J y6)), none, some (.int (wq_I y8))] [] S) (y6 : Int) (y8 : Int) (S : wq_St) (h : b_X4_choicesBehind_34 q1 c2 kx rec y6 y8 S = some (r0, S0)) : wq_Z p l e (wq_rm 3 0 0) s m args below meth c D (wq_EC Ar b) b 284 9 (wq_Ab b 284) (MQ below (wq_Qc D (wq_EC Ar b) b 284 (some (.long (wq_J r0))) S0) args s 0 0 (wq_Ab b 284)) 0 0 34 [some (.ref (b + 271)), some (.ref (b + q1)), some (.int (wq_I c2)), none, none, none, some (.long (wq_J y6)), none, some (.int (wq_I y8))] [] S := by
  unfold b_X4_choicesBehind_34 at h
  refine wq_iload F dX4_choicesBehind_34 rfl rfl ?_
  refine wq_aload_n F dX4_choicesBehind_36 rfl rfl rfl ?_
  refine wq_g_X4_105 F hq1 dX4_choicesBehind_37 rfl ?_
  refine wq_icmp_ge (tgt := 83) F dX4_choicesBehind_40 (by decide) rfl (fun hc => ?_) (fun hc => ?_)
  · replace h := wq_ift hc h
    exact wq_lsub [none, none, none, none, none, none, some (.long (wq_J y6)), none, none] (by simp [wq_sub]) (hkx y6 S h)
  · replace h := wq_iff hc h
    refine wq_aload_n F dX4_choicesBehind_43 rfl rfl rfl ?_
    refine wq_g_X4_108 F hq1 dX4_choicesBehind_44 rfl ?_
    refine wq_iload F dX4_choicesBehind_47 rfl rfl ?_
    obtain ⟨t5, ht5, wt5, h⟩ := wq_ix_some h
    refine wq_aald F (wq_rep_lt2 hq1) (wq_E_cnds hq1) rfl rfl ht5 wt5 dX4_choicesBehind_49 rfl ?_
    refine wq_aload_n F dX4_choicesBehind_50 rfl rfl rfl ?_
    refine wq_g_X4_12 F dX4_choicesBehind_51 rfl ?_
    obtain ⟨r6, S7, h1r6, h⟩ := wq_bd_some h
    refine wq_callV (As := [.ref (b + 272)]) F lk_X4_112 (ct_X1_stepIn (wq_cnd_i hq1 ht5) wq_pln_d h1r6) ⟨Nat.le_of_ble_eq_true rfl, Nat.le_of_ble_eq_true rfl⟩ ⟨Nat.le_of_ble_eq_true rfl, Nat.le_of_ble_eq_true rfl⟩ (wq_cnd_lt (wq_cnd_i hq1 ht5)) (wq_E_cnd (wq_cnd_i hq1 ht5)) rfl (fun _ h9 => h9) rfl rfl (Nat.le_of_ble_eq_true rfl) dX4_choicesBehind_54 rfl ?_
    refine wq_iload_n F dX4_choicesBehind_57 rfl rfl rfl ?_
    refine wq_icmp_ne (tgt := 77) F dX4_choicesBehind_58 (by decide) rfl (fun hc => ?_) (fun hc => ?_)
    · replace h := wq_iff hc h
      refine wq_iinc (L' := [some (.ref (b + 271)), some (.ref (b + q1)), some (.int (wq_I c2)), none, none, none, some (.long (wq_J y6)), none, some (.int (wq_I (y8 + 1)))]) F dX4_choicesBehind_77 rfl (by decide) rfl rfl rfl ?_
      refine wq_goto (tgt := 34) F dX4_choicesBehind_80 (by decide) ?_
      exact wq_lsub [some (.ref (b + 271)), some (.ref (b + q1)), some (.int (wq_I c2)), none, none, none, some (.long (wq_J y6)), none, some (.int (wq_I (y8 + 1)))] (by simp [wq_sub]) (hrec y6 (y8 + 1) S7 h)
    · replace h := wq_ift hc h
      refine wq_aload_n F dX4_choicesBehind_61 rfl rfl rfl ?_
      refine wq_aload_n F dX4_choicesBehind_62 rfl rfl rfl ?_
      refine wq_aload_n F dX4_choicesBehind_63 rfl rfl rfl ?_
      refine wq_g_X4_108 F hq1 dX4_choicesBehind_64 rfl ?_
      refine wq_iload F dX4_choicesBehind_67 rfl rfl ?_
      obtain ⟨t8, ht8, wt8, h⟩ := wq_ix_some h
      refine wq_aald F (wq_rep_lt2 hq1) (wq_E_cnds hq1) rfl rfl ht8 wt8 dX4_choicesBehind_69 rfl ?_
      refine wq_lload F dX4_choicesBehind_70 rfl rfl ?_
      obtain ⟨r9, S10, h1r9, h⟩ := wq_bd_some h
      refine wq_callV (As := [.ref (b + q1), .ref (b + (q1 + 3 + t8)), .long (wq_J y6)]) F lk_X4_118 (ct_X4_narrow hq1 (wq_cnd_i hq1 ht8) h1r9) ⟨Nat.le_of_ble_eq_true rfl, Nat.le_of_ble_eq_true rfl⟩ ⟨Nat.le_of_ble_eq_true rfl, Nat.le_of_ble_eq_true rfl⟩ (Nat.le_of_ble_eq_true rfl) rfl rfl (fun _ h9 => h9) rfl rfl (Nat.le_of_ble_eq_true rfl) dX4_choicesBehind_72 rfl ?_
      refine wq_lstore (L' := [some (.ref (b + 271)), some (.ref (b + q1)), some (.int (wq_I c2)), none, none, none, some (.long (wq_J r9)), none, some (.int (wq_I y8))]) F dX4_choicesBehind_75 (by decide) rfl rfl rfl ?_
      refine wq_iinc (L' := [some (.ref (b + 271)), some (.ref (b + q1)), some (.int (wq_I c2)), none, none, none, some (.long (wq_J r9)), none, some (.int (wq_I (y8 + 1)))]) F dX4_choicesBehind_77 rfl (by decide) rfl rfl rfl ?_
      refine wq_goto (tgt := 34) F dX4_choicesBehind_80 (by decide) ?_
      exact wq_lsub [some (.ref (b + 271)), some (.ref (b + q1)), some (.int (wq_I c2)), none, none, none, some (.long (wq_J r9)), none, some (.int (wq_I (y8 + 1)))] (by simp [wq_sub]) (hrec r9 (y8 + 1) S10 h)
set_option maxHeartbeats 4000000 in
set_option maxRecDepth 100000 in
theorem tl_X4_choicesBehind_34 {p : Program} {l : Launch} {e : Env} {s : State} {m : MethodId} {args : Array Value} {below : List Frame} {meth : Method} {c : Code} {D : va_G} {Ar : Nat → ClassId} {b : Nat} (F : wq_Fr p s m args meth c cX4_choicesBehind 9 ((Option.some Jvm.ClassFile.FieldType.long)) "WharfQuery$Planner" D Ar) {r0 : Int} {S0 : wq_St} {q1 : Nat} {c2 : Int} (hq1 : wq_rep q1) {kx : Int → wq_St → Option (Int × wq_St)} (hkx : ∀ (u6 : Int) (S : wq_St), kx u6 S = some (r0, S0) → wq_Z p l e (wq_rm 3 0 0) s m args below meth c D (wq_EC Ar b) b 284 9 (wq_Ab b 284) (MQ below (wq_Qc D (wq_EC Ar b) b 284 (some (.long (wq_J r0))) S0) args s 0 0 (wq_Ab b 284)) 0 0 83 [none, none, none, none, none, none, some (.long (wq_J u6)), none, none] [] S) (n : Nat) (y6 : Int) (y8 : Int) (S : wq_St) (h : l_X4_choicesBehind_34 q1 c2 kx n y6 y8 S = some (r0, S0)) : wq_Z p l e (wq_rm 3 0 0) s m args below meth c D (wq_EC Ar b) b 284 9 (wq_Ab b 284) (MQ below (wq_Qc D (wq_EC Ar b) b 284 (some (.long (wq_J r0))) S0) args s 0 0 (wq_Ab b 284)) 0 0 34 [some (.ref (b + 271)), some (.ref (b + q1)), some (.int (wq_I c2)), none, none, none, some (.long (wq_J y6)), none, some (.int (wq_I y8))] [] S :=
  wq_loop_ind (f := fun (g : Int × Int × wq_St → Option (Int × wq_St)) (x : Int × Int × wq_St) => b_X4_choicesBehind_34 q1 c2 kx (fun y6 y8 S => g (y6, y8, S)) x.1 x.2.1 x.2.2) (P := (fun x : Int × Int × wq_St => wq_Z p l e (wq_rm 3 0 0) s m args below meth c D (wq_EC Ar b) b 284 9 (wq_Ab b 284) (MQ below (wq_Qc D (wq_EC Ar b) b 284 (some (.long (wq_J r0))) S0) args s 0 0 (wq_Ab b 284)) 0 0 34 [some (.ref (b + 271)), some (.ref (b + q1)), some (.int (wq_I c2)), none, none, none, some (.long (wq_J (x.1))), none, some (.int (wq_I (x.2.1)))] [] x.2.2)) (fun g hg x hx => tb_X4_choicesBehind_34 F hq1 hkx (fun y6 y8 S h => hg (y6, y8, S) h) x.1 x.2.1 x.2.2 hx) n (y6, y8, S) h
set_option maxHeartbeats 4000000 in
set_option maxRecDepth 100000 in
theorem ct_X4_choicesBehind {l : Launch} {D : va_G} {Ar : Nat → ClassId} {b : Nat} {k1 : Nat} {x2 : Int} {x3 : Int} {S S0 : wq_St} {r0 : Int} (hk1 : wq_rep k1) (h : f_X4_choicesBehind k1 x2 x3 S = some (r0, S0)) : wq_Ct l yX4_choicesBehind (.code yX4_choicesBehind cX4_choicesBehind 9 ((Option.some Jvm.ClassFile.FieldType.long))) 3 D Ar (wq_EC Ar b) b 284 [.ref (b + 271), .ref (b + k1), .int (wq_I x2), .long (wq_J x3)] S (some (.long (wq_J r0))) S0 := by
  refine wq_start "WharfQuery$Planner" [some (.ref (b + 271)), some (.ref (b + k1)), some (.int (wq_I x2)), some (.long (wq_J x3)), none, none, none, none, none] (by decide +kernel) rfl (Nat.le_of_ble_eq_true rfl) rfl ?_
  intro p e s m args below meth c F
  unfold f_X4_choicesBehind at h
  refine wq_aload_n F dX4_choicesBehind_0 rfl rfl rfl ?_
  refine wq_g_X4_21 F dX4_choicesBehind_1 rfl ?_
  refine wq_aload_n F dX4_choicesBehind_4 rfl rfl rfl ?_
  refine wq_g_X4_65 F hk1 dX4_choicesBehind_5 rfl ?_
  refine wq_aload_n F dX4_choicesBehind_8 rfl rfl rfl ?_
  refine wq_g_X4_12 F dX4_choicesBehind_9 rfl ?_
  refine wq_g_X4_68 F wq_pln_d dX4_choicesBehind_12 rfl ?_
  refine wq_iload_n F dX4_choicesBehind_15 rfl rfl rfl ?_
  obtain ⟨t1, ht1, wt1, h⟩ := wq_ix_some h
  refine wq_iald F (wq_pln_lt1 wq_pln_d) (wq_E_pln1 wq_pln_d) ht1 wt1 dX4_choicesBehind_16 rfl ?_
  obtain ⟨t2, ht2, wt2, h⟩ := wq_ix_some h
  refine wq_iald F (wq_rep_lt1 hk1) (wq_E_srcs hk1) ht2 wt2 dX4_choicesBehind_17 rfl ?_
  obtain ⟨t3, ht3, wt3, h⟩ := wq_ix_some h
  refine wq_aald F (Nat.le_of_ble_eq_true rfl) wq_E_tabs rfl rfl ht3 wt3 dX4_choicesBehind_18 rfl ?_
  refine wq_astore (L' := [some (.ref (b + 271)), some (.ref (b + k1)), some (.int (wq_I x2)), some (.long (wq_J x3)), none, some (.ref (b + (6 + 48 * t3))), none, none, none]) F dX4_choicesBehind_19 (by decide) rfl rfl rfl ?_
  refine wq_lload_n F dX4_choicesBehind_21 rfl rfl rfl ?_
  refine wq_aload F dX4_choicesBehind_22 rfl rfl ?_
  refine wq_g_X4_71 F (wq_tab_i ht3) dX4_choicesBehind_24 rfl ?_
  refine wq_i2l_ F dX4_choicesBehind_27 rfl ?_
  refine wq_lmul F dX4_choicesBehind_28 rfl ?_
  obtain ⟨a4, ea4, h⟩ := wq_lt_some h
  refine wq_namL ea4 ?_
  refine wq_lstore (L' := [some (.ref (b + 271)), some (.ref (b + k1)), some (.int (wq_I x2)), some (.long (wq_J x3)), none, some (.ref (b + (6 + 48 * t3))), some (.long (wq_J a4)), none, none]) F dX4_choicesBehind_29 (by decide) rfl rfl rfl ?_
  refine wq_iconst (n := 0) F dX4_choicesBehind_31 rfl ?_
  refine wq_istore (L' := [some (.ref (b + 271)), some (.ref (b + k1)), some (.int (wq_I x2)), some (.long (wq_J x3)), none, some (.ref (b + (6 + 48 * t3))), some (.long (wq_J a4)), none, some (.int (wq_I 0))]) F dX4_choicesBehind_32 (by decide) rfl rfl rfl ?_
  refine wq_lsub [some (.ref (b + 271)), some (.ref (b + k1)), some (.int (wq_I x2)), none, none, none, some (.long (wq_J a4)), none, some (.int (wq_I 0))] (by simp [wq_sub]) (tl_X4_choicesBehind_34 F hk1 (fun u11 S12 h => ?_) wq_fu a4 0 S h)
  refine wq_lload F dX4_choicesBehind_83 rfl rfl ?_
  cases h
  exact wq_lret F rfl rfl dX4_choicesBehind_85
set_option maxHeartbeats 4000000 in
set_option maxRecDepth 100000 in
theorem tb_X4_extend_42 {p : Program} {l : Launch} {e : Env} {s : State} {m : MethodId} {args : Array Value} {below : List Frame} {meth : Method} {c : Code} {D : va_G} {Ar : Nat → ClassId} {b : Nat} {nn : Nat} (F : wq_Fr p s m args meth c cX4_extend 13 ((Option.none : Option Jvm.ClassFile.FieldType)) "WharfQuery$Planner" D Ar) {r0 : Int} {S0 : wq_St} (self : Nat → Int → Int → Int → wq_St → Option (Int × wq_St)) (hself : ∀ (k1 : Nat) (x2 : Int) (x3 : Int) (x4 : Int) (S : wq_St) (r0 : Int) (S0 : wq_St), wq_rep k1 → self k1 x2 x3 x4 S = some (r0, S0) → wq_Ct l yX4_extend (.code yX4_extend cX4_extend 13 ((Option.none : Option Jvm.ClassFile.FieldType))) (4 + nn) D Ar (wq_EC Ar b) b 284 [.ref (b + 271), .ref (b + k1), .int (wq_I x2), .long (wq_J x3), .long (wq_J x4)] S none S0) {q1 : Nat} {c2 : Int} {c3 : Int} {c5 : Int} (hq1 : wq_rep q1) {kx : wq_St → Option (Int × wq_St)} (hkx : ∀ (S : wq_St), kx S = some (r0, S0) → wq_Z p l e (wq_rm (4 + (nn + 1)) 0 0) s m args below meth c D (wq_EC Ar b) b 284 13 (wq_Ab b 284) (MQ below (wq_Qc D (wq_EC Ar b) b 284 none S0) args s 0 0 (wq_Ab b 284)) 0 0 122 [none, none, none, none, none, none, none, none, none, none, none, none, none] [] S) {rec : Int → wq_St → Option (Int × wq_St)} (hrec : ∀ (y8 : Int) (S : wq_St), rec y8 S = some (r0, S0) → wq_Z p l e (wq_rm (4 + (nn + 1)) 0 0) s m args below meth c D (wq_EC Ar b) b 284 13 (wq_Ab b 284) (MQ below (wq_Qc D (wq_EC Ar b) b 284 none S0) args s 0 0 (wq_Ab b 284)) 0 0 42 [some (.ref (b + 271)), some (.ref (b + q1)), some (.int (wq_I c2)), some (.long (wq_J c3)), none, some (.long (wq_J c5)), none, some (.ref (b + 272)), some (.int (wq_I y8)), none, none, none, none] [] S) (y8 : Int) (S : wq_St) (h : b_X4_extend_42 self q1 c2 c3 c5 kx rec y8 S = some (r0, S0)) : wq_Z p l e (wq_rm (4 + (nn + 1)) 0 0) s m args below meth c D (wq_EC Ar b) b 284 13 (wq_Ab b 284) (MQ below (wq_Qc D (wq_EC Ar b) b 284 none S0) args s 0 0 (wq_Ab b 284)) 0 0 42 [some (.ref (b + 271)), some (.ref (b + q1)), some (.int (wq_I c2)), some (.long (wq_J c3)), none, some (.long (wq_J c5)), none, some (.ref (b + 272)), some (.int (wq_I y8)), none, none, none, none] [] S := by
  unfold b_X4_extend_42 at h
  refine wq_iload F dX4_extend_42 rfl rfl ?_
  refine wq_aload_n F dX4_extend_44 rfl rfl rfl ?_
  refine wq_g_X4_40 F hq1 dX4_extend_45 rfl ?_
  refine wq_icmp_ge (tgt := 122) F dX4_extend_48 (by decide) rfl (fun hc => ?_) (fun hc => ?_)
  · replace h := wq_ift hc h
    exact wq_lsub [none, none, none, none, none, none, none, none, none, none, none, none, none] (by simp [wq_sub]) (hkx S h)
  · replace h := wq_iff hc h
    refine wq_aload F dX4_extend_51 rfl rfl ?_
    refine wq_g_X4_50 F wq_pln_d dX4_extend_53 rfl ?_
    refine wq_iload F dX4_extend_56 rfl rfl ?_
    obtain ⟨t1, ht1, wt1, h⟩ := wq_ix_some h
    refine wq_iald F (wq_pln_lt3 wq_pln_d) (wq_E_pln3 wq_pln_d) ht1 wt1 dX4_extend_58 rfl ?_
    refine wq_iconst (n := 3) F dX4_extend_59 rfl ?_
    refine wq_icmp_eq (tgt := 66) F dX4_extend_60 (by decide) rfl (fun hc => ?_) (fun hc => ?_)
    · replace h := wq_ift hc h
      refine wq_aload F dX4_extend_66 rfl rfl ?_
      refine wq_iload_n F dX4_extend_68 rfl rfl rfl ?_
      refine wq_iload F dX4_extend_69 rfl rfl ?_
      obtain ⟨r2, S3, h1r2, h⟩ := wq_bd_some h
      refine wq_callV (As := [.int (wq_I c2), .int (wq_I y8)]) F lk_X4_54 (ct_X3_place wq_pln_d h1r2) ⟨by show 1 + 1 ≤ (4 + (nn + 1)); omega, by show 8 + (3 + 11) + 40 * 1 ≤ 40 * (4 + (nn + 1)); omega⟩ ⟨Nat.le_of_ble_eq_true rfl, Nat.le_of_ble_eq_true rfl⟩ (wq_pln_lt wq_pln_d) (wq_E_pln wq_pln_d) rfl (fun _ h9 => h9) rfl rfl (Nat.le_of_ble_eq_true rfl) dX4_extend_71 rfl ?_
      refine wq_aload_n F dX4_extend_74 rfl rfl rfl ?_
      refine wq_aload_n F dX4_extend_75 rfl rfl rfl ?_
      refine wq_iload_n F dX4_extend_76 rfl rfl rfl ?_
      refine wq_lload_n F dX4_extend_77 rfl rfl rfl ?_
      obtain ⟨r4, S5, h1r4, h⟩ := wq_bd_some h
      refine wq_callV (As := [.ref (b + q1), .int (wq_I c2), .long (wq_J c3)]) F lk_X4_58 (ct_X4_takeCheapestWay hq1 h1r4) ⟨by show 3 + 1 ≤ (4 + (nn + 1)); omega, by show 8 + (14 + 11) + 40 * 3 ≤ 40 * (4 + (nn + 1)); omega⟩ ⟨Nat.le_of_ble_eq_true rfl, Nat.le_of_ble_eq_true rfl⟩ (Nat.le_of_ble_eq_true rfl) rfl rfl (fun _ h9 => h9) rfl rfl (Nat.le_of_ble_eq_true rfl) dX4_extend_78 rfl ?_
      refine wq_lstore (L' := [some (.ref (b + 271)), some (.ref (b + q1)), some (.int (wq_I c2)), some (.long (wq_J c3)), none, some (.long (wq_J c5)), none, some (.ref (b + 272)), some (.int (wq_I y8)), some (.long (wq_J r4)), none, none, none]) F dX4_extend_81 (by decide) rfl rfl rfl ?_
      refine wq_aload_n F dX4_extend_83 rfl rfl rfl ?_
      refine wq_aload_n F dX4_extend_84 rfl rfl rfl ?_
      refine wq_iload_n F dX4_extend_85 rfl rfl rfl ?_
      refine wq_lload_n F dX4_extend_86 rfl rfl rfl ?_
      obtain ⟨r6, S7, h1r6, h⟩ := wq_bd_some h
      refine wq_callV (As := [.ref (b + q1), .int (wq_I c2), .long (wq_J c3)]) F lk_X4_62 (ct_X4_choicesBehind hq1 h1r6) ⟨by show 3 + 1 ≤ (4 + (nn + 1)); omega, by show 8 + (9 + 11) + 40 * 3 ≤ 40 * (4 + (nn + 1)); omega⟩ ⟨Nat.le_of_ble_eq_true rfl, Nat.le_of_ble_eq_true rfl⟩ (Nat.le_of_ble_eq_true rfl) rfl rfl (fun _ h9 => h9) rfl rfl (Nat.le_of_ble_eq_true rfl) dX4_extend_87 rfl ?_
      refine wq_lstore (L' := [some (.ref (b + 271)), some (.ref (b + q1)), some (.int (wq_I c2)), some (.long (wq_J c3)), none, some (.long (wq_J c5)), none, some (.ref (b + 272)), some (.int (wq_I y8)), some (.long (wq_J r4)), none, some (.long (wq_J r6)), none]) F dX4_extend_90 (by decide) rfl rfl rfl ?_
      refine wq_aload_n F dX4_extend_92 rfl rfl rfl ?_
      refine wq_aload_n F dX4_extend_93 rfl rfl rfl ?_
      refine wq_iload_n F dX4_extend_94 rfl rfl rfl ?_
      refine wq_iconst (n := 1) F dX4_extend_95 rfl ?_
      refine wq_iadd F dX4_extend_96 rfl ?_
      refine wq_lload F dX4_extend_97 rfl rfl ?_
      refine wq_lload F dX4_extend_99 rfl rfl ?_
      refine wq_lload F dX4_extend_101 rfl rfl ?_
      refine wq_ladd F dX4_extend_103 rfl ?_
      obtain ⟨r8, S9, h1r8, h⟩ := wq_bd_some h
      refine wq_callS (As := [.ref (b + 271), .ref (b + q1), .int (wq_I (c2 + 1)), .long (wq_J r6), .long (wq_J (c5 + r4))]) F lk_X4_36 (hself _ _ _ _ _ _ _ hq1 h1r8) ⟨by show (4 + nn) + 1 ≤ (4 + (nn + 1)); omega, by show 8 + (13 + 11) + 40 * (4 + nn) ≤ 40 * (4 + (nn + 1)); omega⟩ ⟨Nat.le_of_ble_eq_true rfl, Nat.le_of_ble_eq_true rfl⟩ (fun _ h9 => h9) rfl rfl (Nat.le_of_ble_eq_true rfl) dX4_extend_104 rfl ?_
      refine wq_aload F dX4_extend_107 rfl rfl ?_
      refine wq_g_X4_50 F wq_pln_d dX4_extend_109 rfl ?_
      refine wq_iload F dX4_extend_112 rfl rfl ?_
      refine wq_iconst (n := 3) F dX4_extend_114 rfl ?_
      obtain ⟨t10, ht10, wt10, h⟩ := wq_ix_some h
      refine wq_iast F (wq_pln_lt3 wq_pln_d) (wq_E_pln3 wq_pln_d) (wq_E_pln3 wq_pln_d) ht10 wt10 ⟨Nat.le_add_right _ _, Nat.add_lt_add_left (wq_pln_lt3 wq_pln_d) b⟩ dX4_extend_115 rfl ?_
      obtain ⟨S11, eS11, h⟩ := wq_lt_some h
      refine wq_namS eS11 ?_
      refine wq_iinc (L' := [some (.ref (b + 271)), some (.ref (b + q1)), some (.int (wq_I c2)), some (.long (wq_J c3)), none, some (.long (wq_J c5)), none, some (.ref (b + 272)), some (.int (wq_I (y8 + 1))), some (.long (wq_J r4)), none, some (.long (wq_J r6)), none]) F dX4_extend_116 rfl (by decide) rfl rfl rfl ?_
      refine wq_goto (tgt := 42) F dX4_extend_119 (by decide) ?_
      exact wq_lsub [some (.ref (b + 271)), some (.ref (b + q1)), some (.int (wq_I c2)), some (.long (wq_J c3)), none, some (.long (wq_J c5)), none, some (.ref (b + 272)), some (.int (wq_I (y8 + 1))), none, none, none, none] (by simp [wq_sub]) (hrec (y8 + 1) S11 h)
    · replace h := wq_iff hc h
      refine wq_goto (tgt := 116) F dX4_extend_63 (by decide) ?_
      refine wq_iinc (L' := [some (.ref (b + 271)), some (.ref (b + q1)), some (.int (wq_I c2)), some (.long (wq_J c3)), none, some (.long (wq_J c5)), none, some (.ref (b + 272)), some (.int (wq_I (y8 + 1))), none, none, none, none]) F dX4_extend_116 rfl (by decide) rfl rfl rfl ?_
      refine wq_goto (tgt := 42) F dX4_extend_119 (by decide) ?_
      exact wq_lsub [some (.ref (b + 271)), some (.ref (b + q1)), some (.int (wq_I c2)), some (.long (wq_J c3)), none, some (.long (wq_J c5)), none, some (.ref (b + 272)), some (.int (wq_I (y8 + 1))), none, none, none, none] (by simp [wq_sub]) (hrec (y8 + 1) S h)
set_option maxHeartbeats 4000000 in
set_option maxRecDepth 100000 in
theorem tl_X4_extend_42 {p : Program} {l : Launch} {e : Env} {s : State} {m : MethodId} {args : Array Value} {below : List Frame} {meth : Method} {c : Code} {D : va_G} {Ar : Nat → ClassId} {b : Nat} {nn : Nat} (F : wq_Fr p s m args meth c cX4_extend 13 ((Option.none : Option Jvm.ClassFile.FieldType)) "WharfQuery$Planner" D Ar) {r0 : Int} {S0 : wq_St} (self : Nat → Int → Int → Int → wq_St → Option (Int × wq_St)) (hself : ∀ (k1 : Nat) (x2 : Int) (x3 : Int) (x4 : Int) (S : wq_St) (r0 : Int) (S0 : wq_St), wq_rep k1 → self k1 x2 x3 x4 S = some (r0, S0) → wq_Ct l yX4_extend (.code yX4_extend cX4_extend 13 ((Option.none : Option Jvm.ClassFile.FieldType))) (4 + nn) D Ar (wq_EC Ar b) b 284 [.ref (b + 271), .ref (b + k1), .int (wq_I x2), .long (wq_J x3), .long (wq_J x4)] S none S0) {q1 : Nat} {c2 : Int} {c3 : Int} {c5 : Int} (hq1 : wq_rep q1) {kx : wq_St → Option (Int × wq_St)} (hkx : ∀ (S : wq_St), kx S = some (r0, S0) → wq_Z p l e (wq_rm (4 + (nn + 1)) 0 0) s m args below meth c D (wq_EC Ar b) b 284 13 (wq_Ab b 284) (MQ below (wq_Qc D (wq_EC Ar b) b 284 none S0) args s 0 0 (wq_Ab b 284)) 0 0 122 [none, none, none, none, none, none, none, none, none, none, none, none, none] [] S) (n : Nat) (y8 : Int) (S : wq_St) (h : l_X4_extend_42 self q1 c2 c3 c5 kx n y8 S = some (r0, S0)) : wq_Z p l e (wq_rm (4 + (nn + 1)) 0 0) s m args below meth c D (wq_EC Ar b) b 284 13 (wq_Ab b 284) (MQ below (wq_Qc D (wq_EC Ar b) b 284 none S0) args s 0 0 (wq_Ab b 284)) 0 0 42 [some (.ref (b + 271)), some (.ref (b + q1)), some (.int (wq_I c2)), some (.long (wq_J c3)), none, some (.long (wq_J c5)), none, some (.ref (b + 272)), some (.int (wq_I y8)), none, none, none, none] [] S :=
  wq_loop_ind (f := fun (g : Int × wq_St → Option (Int × wq_St)) (x : Int × wq_St) => b_X4_extend_42 self q1 c2 c3 c5 kx (fun y8 S => g (y8, S)) x.1 x.2) (P := (fun x : Int × wq_St => wq_Z p l e (wq_rm (4 + (nn + 1)) 0 0) s m args below meth c D (wq_EC Ar b) b 284 13 (wq_Ab b 284) (MQ below (wq_Qc D (wq_EC Ar b) b 284 none S0) args s 0 0 (wq_Ab b 284)) 0 0 42 [some (.ref (b + 271)), some (.ref (b + q1)), some (.int (wq_I c2)), some (.long (wq_J c3)), none, some (.long (wq_J c5)), none, some (.ref (b + 272)), some (.int (wq_I (x.1))), none, none, none, none] [] x.2)) (fun g hg x hx => tb_X4_extend_42 F self hself hq1 hkx (fun y8 S h => hg (y8, S) h) x.1 x.2 hx) n (y8, S) h
set_option maxHeartbeats 4000000 in
set_option maxRecDepth 100000 in
theorem tf_X4_extend {l : Launch} {D : va_G} {Ar : Nat → ClassId} {b : Nat} {nn : Nat} (self : Nat → Int → Int → Int → wq_St → Option (Int × wq_St)) (hself : ∀ (k1 : Nat) (x2 : Int) (x3 : Int) (x4 : Int) (S : wq_St) (r0 : Int) (S0 : wq_St), wq_rep k1 → self k1 x2 x3 x4 S = some (r0, S0) → wq_Ct l yX4_extend (.code yX4_extend cX4_extend 13 ((Option.none : Option Jvm.ClassFile.FieldType))) (4 + nn) D Ar (wq_EC Ar b) b 284 [.ref (b + 271), .ref (b + k1), .int (wq_I x2), .long (wq_J x3), .long (wq_J x4)] S none S0) {k1 : Nat} {x2 : Int} {x3 : Int} {x4 : Int} {S S0 : wq_St} {r0 : Int} (hk1 : wq_rep k1) (h : fb_X4_extend self k1 x2 x3 x4 S = some (r0, S0)) : wq_Ct l yX4_extend (.code yX4_extend cX4_extend 13 ((Option.none : Option Jvm.ClassFile.FieldType))) (4 + (nn + 1)) D Ar (wq_EC Ar b) b 284 [.ref (b + 271), .ref (b + k1), .int (wq_I x2), .long (wq_J x3), .long (wq_J x4)] S none S0 := by
  refine wq_start "WharfQuery$Planner" [some (.ref (b + 271)), some (.ref (b + k1)), some (.int (wq_I x2)), some (.long (wq_J x3)), none, some (.long (wq_J x4)), none, none, none, none, none, none, none] (by decide +kernel) rfl (Nat.le_of_ble_eq_true rfl) rfl ?_
  intro p e s m args below meth c F
  unfold fb_X4_extend at h
  refine wq_aload_n F dX4_extend_0 rfl rfl rfl ?_
  refine wq_g_X4_12 F dX4_extend_1 rfl ?_
  refine wq_astore (L' := [some (.ref (b + 271)), some (.ref (b + k1)), some (.int (wq_I x2)), some (.long (wq_J x3)), none, some (.long (wq_J x4)), none, some (.ref (b + 272)), none, none, none, none, none]) F dX4_extend_4 (by decide) rfl rfl rfl ?_
  refine wq_iload_n F dX4_extend_6 rfl rfl rfl ?_
  refine wq_aload_n F dX4_extend_7 rfl rfl rfl ?_
  refine wq_g_X4_40 F hk1 dX4_extend_8 rfl ?_
  refine wq_icmp_lt (tgt := 39) F dX4_extend_11 (by decide) rfl (fun hc => ?_) (fun hc => ?_)
  · replace h := wq_ift hc h
    refine wq_iconst (n := 0) F dX4_extend_39 rfl ?_
    refine wq_istore (L' := [some (.ref (b + 271)), some (.ref (b + k1)), some (.int (wq_I x2)), some (.long (wq_J x3)), none, some (.long (wq_J x4)), none, some (.ref (b + 272)), some (.int (wq_I 0)), none, none, none, none]) F dX4_extend_40 (by decide) rfl rfl rfl ?_
    refine wq_lsub [some (.ref (b + 271)), some (.ref (b + k1)), some (.int (wq_I x2)), some (.long (wq_J x3)), none, some (.long (wq_J x4)), none, some (.ref (b + 272)), some (.int (wq_I 0)), none, none, none, none] (by simp [wq_sub]) (tl_X4_extend_42 F self hself hk1 (fun S12 h => ?_) wq_fu 0 S h)
    cases h
    exact wq_vret F rfl rfl dX4_extend_122
  · replace h := wq_iff hc h
    refine wq_lload F dX4_extend_14 rfl rfl ?_
    refine wq_aload_n F dX4_extend_16 rfl rfl rfl ?_
    refine wq_g_X4_18 F dX4_extend_17 rfl ?_
    refine wq_g_X4_30 F wq_pln_b dX4_extend_20 rfl ?_
    refine wq_lcmp F dX4_extend_23 rfl ?_
    refine wq_if_ge (tgt := 38) F dX4_extend_24 (by decide) rfl (fun hc => ?_) (fun hc => ?_)
    · replace h := wq_ift hc h
      cases h
      exact wq_vret F rfl rfl dX4_extend_38
    · replace h := wq_iff hc h
      refine wq_aload_n F dX4_extend_27 rfl rfl rfl ?_
      refine wq_g_X4_18 F dX4_extend_28 rfl ?_
      refine wq_aload F dX4_extend_31 rfl rfl ?_
      refine wq_lload F dX4_extend_33 rfl rfl ?_
      obtain ⟨r13, S14, h1r13, h⟩ := wq_bd_some h
      refine wq_callV (As := [.ref (b + 272), .long (wq_J x4)]) F lk_X4_46 (ct_X3_copyFrom wq_pln_b wq_pln_d h1r13) ⟨by show 1 + 1 ≤ (4 + (nn + 1)); omega, by show 8 + (5 + 11) + 40 * 1 ≤ 40 * (4 + (nn + 1)); omega⟩ ⟨Nat.le_of_ble_eq_true rfl, Nat.le_of_ble_eq_true rfl⟩ (wq_pln_lt wq_pln_b) (wq_E_pln wq_pln_b) rfl (fun _ h9 => h9) rfl rfl (Nat.le_of_ble_eq_true rfl) dX4_extend_35 rfl ?_
      cases h
      exact wq_vret F rfl rfl dX4_extend_38
set_option maxHeartbeats 4000000 in
set_option maxRecDepth 100000 in
theorem ct_X4_extend {l : Launch} {D : va_G} {Ar : Nat → ClassId} {b : Nat} : ∀ (nn : Nat) {k1 : Nat} {x2 : Int} {x3 : Int} {x4 : Int} {S S0 : wq_St} {r0 : Int} (hk1 : wq_rep k1) (h : f_X4_extend nn k1 x2 x3 x4 S = some (r0, S0)), wq_Ct l yX4_extend (.code yX4_extend cX4_extend 13 ((Option.none : Option Jvm.ClassFile.FieldType))) (4 + nn) D Ar (wq_EC Ar b) b 284 [.ref (b + 271), .ref (b + k1), .int (wq_I x2), .long (wq_J x3), .long (wq_J x4)] S none S0
  | 0, _, _, _, _, _, _, _, _, h => by cases h
  | n + 1, _, _, _, _, _, _, _, hk1, h => tf_X4_extend (nn := n) (f_X4_extend n) (fun k1 x2 x3 x4 S r0 S0 hk1 h => ct_X4_extend n hk1 h) hk1 h
set_option maxHeartbeats 4000000 in
set_option maxRecDepth 100000 in
theorem ct_X4_choose {l : Launch} {D : va_G} {Ar : Nat → ClassId} {b : Nat} {k1 : Nat} {S S0 : wq_St} {r0 : Nat} (hk1 : wq_rep k1) (h : f_X4_choose k1 S = some (r0, S0)) : wq_Ct l yX4_choose (.code yX4_choose cX4_choose 2 ((Option.some (Jvm.ClassFile.FieldType.object "WharfQuery$Plan")))) 12 D Ar (wq_EC Ar b) b 284 [.ref (b + 271), .ref (b + k1)] S (some (.ref (b + r0))) S0 := by
  refine wq_start "WharfQuery$Planner" [some (.ref (b + 271)), some (.ref (b + k1))] (by decide +kernel) rfl (Nat.le_of_ble_eq_true rfl) rfl ?_
  intro p e s m args below meth c F
  unfold f_X4_choose at h
  refine wq_aload_n F dX4_choose_0 rfl rfl rfl ?_
  refine wq_g_X4_12 F dX4_choose_1 rfl ?_
  obtain ⟨r1, S2, h1r1, h⟩ := wq_bd_some h
  refine wq_callV (As := []) F lk_X4_25 (ct_X3_clear wq_pln_d h1r1) ⟨Nat.le_of_ble_eq_true rfl, Nat.le_of_ble_eq_true rfl⟩ ⟨Nat.le_of_ble_eq_true rfl, Nat.le_of_ble_eq_true rfl⟩ (wq_pln_lt wq_pln_d) (wq_E_pln wq_pln_d) rfl (fun _ h9 => h9) rfl rfl (Nat.le_of_ble_eq_true rfl) dX4_choose_4 rfl ?_
  refine wq_aload_n F dX4_choose_7 rfl rfl rfl ?_
  refine wq_g_X4_18 F dX4_choose_8 rfl ?_
  refine wq_ldc2 (v := 1099511627776) F dX4_choose_11 aw_547 (by decide) rfl ?_
  refine wq_p_X4_30 F wq_pln_b (fun _ h9 => h9) dX4_choose_14 rfl ?_
  obtain ⟨S3, eS3, h⟩ := wq_lt_some h
  refine wq_namS eS3 ?_
  refine wq_aload_n F dX4_choose_17 rfl rfl rfl ?_
  refine wq_aload_n F dX4_choose_18 rfl rfl rfl ?_
  refine wq_iconst (n := 0) F dX4_choose_19 rfl ?_
  refine wq_ldc2 (v := 1000) F dX4_choose_20 aw_548 (by decide) rfl ?_
  refine wq_lconst (v := 0) F dX4_choose_23 rfl rfl ?_
  obtain ⟨r4, S5, h1r4, h⟩ := wq_bd_some h
  refine wq_callS (As := [.ref (b + 271), .ref (b + k1), .int (wq_I 0), .long (wq_J 1000), .long (wq_J 0)]) F lk_X4_36 (ct_X4_extend wq_dp hk1 h1r4) ⟨Nat.le_of_ble_eq_true rfl, Nat.le_of_ble_eq_true rfl⟩ ⟨Nat.le_of_ble_eq_true rfl, Nat.le_of_ble_eq_true rfl⟩ (fun _ h9 => h9) rfl rfl (Nat.le_of_ble_eq_true rfl) dX4_choose_24 rfl ?_
  refine wq_aload_n F dX4_choose_27 rfl rfl rfl ?_
  refine wq_g_X4_18 F dX4_choose_28 rfl ?_
  cases h
  exact wq_aret F (Or.inl ⟨_, rfl⟩) rfl rfl dX4_choose_31
set_option maxHeartbeats 4000000 in
set_option maxRecDepth 100000 in
theorem ct_X3_foretoldMinutes {l : Launch} {D : va_G} {Ar : Nat → ClassId} {b : Nat} {k0 : Nat} {S S0 : wq_St} {r0 : Int} (hk0 : wq_pln k0) (h : f_X3_foretoldMinutes k0 S = some (r0, S0)) : wq_Ct l yX3_foretoldMinutes (.code yX3_foretoldMinutes cX3_foretoldMinutes 1 ((Option.some Jvm.ClassFile.FieldType.int))) 1 D Ar (wq_EC Ar b) b 284 [.ref (b + k0)] S (some (.int (wq_I r0))) S0 := by
  refine wq_start "WharfQuery$Plan" [some (.ref (b + k0))] (by decide +kernel) rfl (Nat.le_of_ble_eq_true rfl) rfl ?_
  intro p e s m args below meth c F
  unfold f_X3_foretoldMinutes at h
  refine wq_aload_n F dX3_foretoldMinutes_0 rfl rfl rfl ?_
  refine wq_g_X3_25 F hk0 dX3_foretoldMinutes_1 rfl ?_
  refine wq_ldc2 (v := 1000) F dX3_foretoldMinutes_4 aw_598 (by decide) rfl ?_
  refine wq_ladd F dX3_foretoldMinutes_7 rfl ?_
  refine wq_lconst (v := 1) F dX3_foretoldMinutes_8 rfl rfl ?_
  refine wq_lsub_ F dX3_foretoldMinutes_9 rfl ?_
  refine wq_ldc2 (v := 1000) F dX3_foretoldMinutes_10 aw_598 (by decide) rfl ?_
  obtain ⟨hg, h⟩ := wq_gd_some h
  refine wq_ldiv (hy := hg) F dX3_foretoldMinutes_13 rfl ?_
  refine wq_l2i_ F dX3_foretoldMinutes_14 rfl ?_
  cases h
  exact wq_iret F rfl rfl dX3_foretoldMinutes_15
set_option maxHeartbeats 4000000 in
set_option maxRecDepth 100000 in
theorem tb_X7_isNewInSample_2 {p : Program} {l : Launch} {e : Env} {s : State} {m : MethodId} {args : Array Value} {below : List Frame} {meth : Method} {c : Code} {D : va_G} {Ar : Nat → ClassId} {b : Nat} (F : wq_Fr p s m args meth c cX7_isNewInSample 4 ((Option.some Jvm.ClassFile.FieldType.boolean)) "WharfQuery$Table" D Ar) {r0 : Int} {S0 : wq_St} {q0 : Nat} {c1 : Int} {c2 : Int} (hq0 : wq_tab q0) {kx : wq_St → Option (Int × wq_St)} (hkx : ∀ (S : wq_St), kx S = some (r0, S0) → wq_Z p l e (wq_rm 1 0 0) s m args below meth c D (wq_EC Ar b) b 284 4 (wq_Ab b 284) (MQ below (wq_Qc D (wq_EC Ar b) b 284 (some (.int (wq_I r0))) S0) args s 0 0 (wq_Ab b 284)) 0 0 44 [none, none, none, none] [] S) {rec : Int → wq_St → Option (Int × wq_St)} (hrec : ∀ (y3 : Int) (S : wq_St), rec y3 S = some (r0, S0) → wq_Z p l e (wq_rm 1 0 0) s m args below meth c D (wq_EC Ar b) b 284 4 (wq_Ab b 284) (MQ below (wq_Qc D (wq_EC Ar b) b 284 (some (.int (wq_I r0))) S0) args s 0 0 (wq_Ab b 284)) 0 0 2 [some (.ref (b + q0)), some (.int (wq_I c1)), some (.int (wq_I c2)), some (.int (wq_I y3))] [] S) (y3 : Int) (S : wq_St) (h : b_X7_isNewInSample_2 q0 c1 c2 kx rec y3 S = some (r0, S0)) : wq_Z p l e (wq_rm 1 0 0) s m args below meth c D (wq_EC Ar b) b 284 4 (wq_Ab b 284) (MQ below (wq_Qc D (wq_EC Ar b) b 284 (some (.int (wq_I r0))) S0) args s 0 0 (wq_Ab b 284)) 0 0 2 [some (.ref (b + q0)), some (.int (wq_I c1)), some (.int (wq_I c2)), some (.int (wq_I y3))] [] S := by
  unfold b_X7_isNewInSample_2 at h
  refine wq_iload_n F dX7_isNewInSample_2 rfl rfl rfl ?_
  refine wq_iload_n F dX7_isNewInSample_3 rfl rfl rfl ?_
  refine wq_icmp_ge (tgt := 44) F dX7_isNewInSample_4 (by decide) rfl (fun hc => ?_) (fun hc => ?_)
  · replace h := wq_ift hc h
    exact wq_lsub [none, none, none, none] (by simp [wq_sub]) (hkx S h)
  · replace h := wq_iff hc h
    refine wq_aload_n F dX7_isNewInSample_7 rfl rfl rfl ?_
    refine wq_g_X7_19 F hq0 dX7_isNewInSample_8 rfl ?_
    refine wq_aload_n F dX7_isNewInSample_11 rfl rfl rfl ?_
    refine wq_g_X7_26 F hq0 dX7_isNewInSample_12 rfl ?_
    refine wq_iload_n F dX7_isNewInSample_15 rfl rfl rfl ?_
    obtain ⟨t1, ht1, wt1, h⟩ := wq_ix_some h
    refine wq_iald F (wq_tab_lt44 hq0) (wq_E_samp hq0) ht1 wt1 dX7_isNewInSample_16 rfl ?_
    obtain ⟨t2, ht2, wt2, h⟩ := wq_ix_some h
    refine wq_aald F (wq_tab_lt2 hq0) (wq_E_vals hq0) rfl rfl ht2 wt2 dX7_isNewInSample_17 rfl ?_
    refine wq_iload_n F dX7_isNewInSample_18 rfl rfl rfl ?_
    obtain ⟨t3, ht3, wt3, h⟩ := wq_ix_some h
    refine wq_iald F (wq_row_lt hq0 ht2) (wq_E_row hq0 ht2) ht3 wt3 dX7_isNewInSample_19 rfl ?_
    refine wq_aload_n F dX7_isNewInSample_20 rfl rfl rfl ?_
    refine wq_g_X7_19 F hq0 dX7_isNewInSample_21 rfl ?_
    refine wq_aload_n F dX7_isNewInSample_24 rfl rfl rfl ?_
    refine wq_g_X7_26 F hq0 dX7_isNewInSample_25 rfl ?_
    refine wq_iload_n F dX7_isNewInSample_28 rfl rfl rfl ?_
    obtain ⟨t4, ht4, wt4, h⟩ := wq_ix_some h
    refine wq_iald F (wq_tab_lt44 hq0) (wq_E_samp hq0) ht4 wt4 dX7_isNewInSample_29 rfl ?_
    obtain ⟨t5, ht5, wt5, h⟩ := wq_ix_some h
    refine wq_aald F (wq_tab_lt2 hq0) (wq_E_vals hq0) rfl rfl ht5 wt5 dX7_isNewInSample_30 rfl ?_
    refine wq_iload_n F dX7_isNewInSample_31 rfl rfl rfl ?_
    obtain ⟨t6, ht6, wt6, h⟩ := wq_ix_some h
    refine wq_iald F (wq_row_lt hq0 ht5) (wq_E_row hq0 ht5) ht6 wt6 dX7_isNewInSample_32 rfl ?_
    refine wq_icmp_ne (tgt := 38) F dX7_isNewInSample_33 (by decide) rfl (fun hc => ?_) (fun hc => ?_)
    · replace h := wq_iff hc h
      refine wq_iinc (L' := [some (.ref (b + q0)), some (.int (wq_I c1)), some (.int (wq_I c2)), some (.int (wq_I (y3 + 1)))]) F dX7_isNewInSample_38 rfl (by decide) rfl rfl rfl ?_
      refine wq_goto (tgt := 2) F dX7_isNewInSample_41 (by decide) ?_
      exact wq_lsub [some (.ref (b + q0)), some (.int (wq_I c1)), some (.int (wq_I c2)), some (.int (wq_I (y3 + 1)))] (by simp [wq_sub]) (hrec (y3 + 1) S h)
    · replace h := wq_ift hc h
      refine wq_iconst (n := 0) F dX7_isNewInSample_36 rfl ?_
      cases h
      exact wq_zret F (by decide) rfl rfl dX7_isNewInSample_37
set_option maxHeartbeats 4000000 in
set_option maxRecDepth 100000 in
theorem tl_X7_isNewInSample_2 {p : Program} {l : Launch} {e : Env} {s : State} {m : MethodId} {args : Array Value} {below : List Frame} {meth : Method} {c : Code} {D : va_G} {Ar : Nat → ClassId} {b : Nat} (F : wq_Fr p s m args meth c cX7_isNewInSample 4 ((Option.some Jvm.ClassFile.FieldType.boolean)) "WharfQuery$Table" D Ar) {r0 : Int} {S0 : wq_St} {q0 : Nat} {c1 : Int} {c2 : Int} (hq0 : wq_tab q0) {kx : wq_St → Option (Int × wq_St)} (hkx : ∀ (S : wq_St), kx S = some (r0, S0) → wq_Z p l e (wq_rm 1 0 0) s m args below meth c D (wq_EC Ar b) b 284 4 (wq_Ab b 284) (MQ below (wq_Qc D (wq_EC Ar b) b 284 (some (.int (wq_I r0))) S0) args s 0 0 (wq_Ab b 284)) 0 0 44 [none, none, none, none] [] S) (n : Nat) (y3 : Int) (S : wq_St) (h : l_X7_isNewInSample_2 q0 c1 c2 kx n y3 S = some (r0, S0)) : wq_Z p l e (wq_rm 1 0 0) s m args below meth c D (wq_EC Ar b) b 284 4 (wq_Ab b 284) (MQ below (wq_Qc D (wq_EC Ar b) b 284 (some (.int (wq_I r0))) S0) args s 0 0 (wq_Ab b 284)) 0 0 2 [some (.ref (b + q0)), some (.int (wq_I c1)), some (.int (wq_I c2)), some (.int (wq_I y3))] [] S :=
  wq_loop_ind (f := fun (g : Int × wq_St → Option (Int × wq_St)) (x : Int × wq_St) => b_X7_isNewInSample_2 q0 c1 c2 kx (fun y3 S => g (y3, S)) x.1 x.2) (P := (fun x : Int × wq_St => wq_Z p l e (wq_rm 1 0 0) s m args below meth c D (wq_EC Ar b) b 284 4 (wq_Ab b 284) (MQ below (wq_Qc D (wq_EC Ar b) b 284 (some (.int (wq_I r0))) S0) args s 0 0 (wq_Ab b 284)) 0 0 2 [some (.ref (b + q0)), some (.int (wq_I c1)), some (.int (wq_I c2)), some (.int (wq_I (x.1)))] [] x.2)) (fun g hg x hx => tb_X7_isNewInSample_2 F hq0 hkx (fun y3 S h => hg (y3, S) h) x.1 x.2 hx) n (y3, S) h
set_option maxHeartbeats 4000000 in
set_option maxRecDepth 100000 in
theorem ct_X7_isNewInSample {l : Launch} {D : va_G} {Ar : Nat → ClassId} {b : Nat} {k0 : Nat} {x1 : Int} {x2 : Int} {S S0 : wq_St} {r0 : Int} (hk0 : wq_tab k0) (h : f_X7_isNewInSample k0 x1 x2 S = some (r0, S0)) : wq_Ct l yX7_isNewInSample (.code yX7_isNewInSample cX7_isNewInSample 4 ((Option.some Jvm.ClassFile.FieldType.boolean))) 1 D Ar (wq_EC Ar b) b 284 [.ref (b + k0), .int (wq_I x1), .int (wq_I x2)] S (some (.int (wq_I r0))) S0 := by
  refine wq_start "WharfQuery$Table" [some (.ref (b + k0)), some (.int (wq_I x1)), some (.int (wq_I x2)), none] (by decide +kernel) rfl (Nat.le_of_ble_eq_true rfl) rfl ?_
  intro p e s m args below meth c F
  unfold f_X7_isNewInSample at h
  refine wq_iconst (n := 0) F dX7_isNewInSample_0 rfl ?_
  refine wq_istore_n (L' := [some (.ref (b + k0)), some (.int (wq_I x1)), some (.int (wq_I x2)), some (.int (wq_I 0))]) F dX7_isNewInSample_1 rfl (by decide) rfl rfl rfl ?_
  refine wq_lsub [some (.ref (b + k0)), some (.int (wq_I x1)), some (.int (wq_I x2)), some (.int (wq_I 0))] (by simp [wq_sub]) (tl_X7_isNewInSample_2 F hk0 (fun S7 h => ?_) wq_fu 0 S h)
  refine wq_iconst (n := 1) F dX7_isNewInSample_44 rfl ?_
  cases h
  exact wq_zret F (by decide) rfl rfl dX7_isNewInSample_45
set_option maxHeartbeats 4000000 in
set_option maxRecDepth 100000 in
theorem tj_X7_tellColumn_50 {p : Program} {l : Launch} {e : Env} {s : State} {m : MethodId} {args : Array Value} {below : List Frame} {meth : Method} {c : Code} {D : va_G} {Ar : Nat → ClassId} {b : Nat} (F : wq_Fr p s m args meth c cX7_tellColumn 9 ((Option.none : Option Jvm.ClassFile.FieldType)) "WharfQuery$Table" D Ar) {r0 : Int} {S0 : wq_St} {kx : Int → Int → Int → wq_St → Option (Int × wq_St)} {rec : Int → Int → Int → Int → wq_St → Option (Int × wq_St)} {q0 : Nat} {j1 : Int} {j2 : Int} {j3 : Int} {j4 : Int} {j5 : Int} {j6 : Int} {j7 : Int} {j8 : Int} (hq0 : wq_tab q0) (hkx : ∀ (u4 : Int) (u5 : Int) (u6 : Int) (S : wq_St), kx u4 u5 u6 S = some (r0, S0) → wq_Z p l e (wq_rm 2 0 0) s m args below meth c D (wq_EC Ar b) b 284 9 (wq_Ab b 284) (MQ below (wq_Qc D (wq_EC Ar b) b 284 none S0) args s 0 0 (wq_Ab b 284)) 0 0 85 [some (.ref (b + q0)), some (.int (wq_I j1)), none, some (.int (wq_I j3)), some (.int (wq_I u4)), some (.int (wq_I u5)), some (.int (wq_I u6)), none, none] [] S) (hrec : ∀ (y4 : Int) (y5 : Int) (y6 : Int) (y7 : Int) (S : wq_St), rec y4 y5 y6 y7 S = some (r0, S0) → wq_Z p l e (wq_rm 2 0 0) s m args below meth c D (wq_EC Ar b) b 284 9 (wq_Ab b 284) (MQ below (wq_Qc D (wq_EC Ar b) b 284 none S0) args s 0 0 (wq_Ab b 284)) 0 0 12 [some (.ref (b + q0)), some (.int (wq_I j1)), some (.int (wq_I j2)), some (.int (wq_I j3)), some (.int (wq_I y4)), some (.int (wq_I y5)), some (.int (wq_I y6)), some (.int (wq_I y7)), none] [] S) (S : wq_St) (h : j_X7_tellColumn_50 kx rec q0 j1 j2 j3 j4 j5 j6 j7 j8 S = some (r0, S0)) : wq_Z p l e (wq_rm 2 0 0) s m args below meth c D (wq_EC Ar b) b 284 9 (wq_Ab b 284) (MQ below (wq_Qc D (wq_EC Ar b) b 284 none S0) args s 0 0 (wq_Ab b 284)) 0 0 50 [some (.ref (b + q0)), some (.int (wq_I j1)), some (.int (wq_I j2)), some (.int (wq_I j3)), some (.int (wq_I j4)), some (.int (wq_I j5)), some (.int (wq_I j6)), some (.int (wq_I j7)), some (.int (wq_I j8))] [] S := by
  unfold j_X7_tellColumn_50 at h
  refine wq_iload F dX7_tellColumn_50 rfl rfl ?_
  refine wq_if_eq (tgt := 62) F dX7_tellColumn_52 (by decide) rfl (fun hc => ?_) (fun hc => ?_)
  · replace h := wq_ift hc h
    refine wq_iload F dX7_tellColumn_62 rfl rfl ?_
    refine wq_istore (L' := [some (.ref (b + q0)), some (.int (wq_I j1)), some (.int (wq_I j2)), some (.int (wq_I j3)), some (.int (wq_I j4)), some (.int (wq_I j5)), some (.int (wq_I j8)), some (.int (wq_I j7)), some (.int (wq_I j8))]) F dX7_tellColumn_64 (by decide) rfl rfl rfl ?_
    refine wq_aload_n F dX7_tellColumn_66 rfl rfl rfl ?_
    refine wq_iload_n F dX7_tellColumn_67 rfl rfl rfl ?_
    refine wq_iload F dX7_tellColumn_68 rfl rfl ?_
    obtain ⟨r4, S5, h1r4, h⟩ := wq_bd_some h
    refine wq_callV (As := [.int (wq_I j1), .int (wq_I j7)]) F lk_X7_52 (ct_X7_isNewInSample hq0 h1r4) ⟨Nat.le_of_ble_eq_true rfl, Nat.le_of_ble_eq_true rfl⟩ ⟨Nat.le_of_ble_eq_true rfl, Nat.le_of_ble_eq_true rfl⟩ (wq_tab_lt hq0) (wq_E_tab hq0) rfl (fun _ h9 => h9) rfl rfl (Nat.le_of_ble_eq_true rfl) dX7_tellColumn_70 rfl ?_
    refine wq_if_eq (tgt := 79) F dX7_tellColumn_73 (by decide) rfl (fun hc => ?_) (fun hc => ?_)
    · replace h := wq_ift hc h
      refine wq_iinc (L' := [some (.ref (b + q0)), some (.int (wq_I j1)), some (.int (wq_I j2)), some (.int (wq_I j3)), some (.int (wq_I j4)), some (.int (wq_I j5)), some (.int (wq_I j8)), some (.int (wq_I (j7 + 1))), some (.int (wq_I j8))]) F dX7_tellColumn_79 rfl (by decide) rfl rfl rfl ?_
      refine wq_goto (tgt := 12) F dX7_tellColumn_82 (by decide) ?_
      exact wq_lsub [some (.ref (b + q0)), some (.int (wq_I j1)), some (.int (wq_I j2)), some (.int (wq_I j3)), some (.int (wq_I j4)), some (.int (wq_I j5)), some (.int (wq_I j8)), some (.int (wq_I (j7 + 1))), none] (by simp [wq_sub]) (hrec j4 j5 j8 (j7 + 1) S5 h)
    · replace h := wq_iff hc h
      refine wq_iinc (L' := [some (.ref (b + q0)), some (.int (wq_I j1)), some (.int (wq_I j2)), some (.int (wq_I j3)), some (.int (wq_I (j4 + 1))), some (.int (wq_I j5)), some (.int (wq_I j8)), some (.int (wq_I j7)), some (.int (wq_I j8))]) F dX7_tellColumn_76 rfl (by decide) rfl rfl rfl ?_
      refine wq_iinc (L' := [some (.ref (b + q0)), some (.int (wq_I j1)), some (.int (wq_I j2)), some (.int (wq_I j3)), some (.int (wq_I (j4 + 1))), some (.int (wq_I j5)), some (.int (wq_I j8)), some (.int (wq_I (j7 + 1))), some (.int (wq_I j8))]) F dX7_tellColumn_79 rfl (by decide) rfl rfl rfl ?_
      refine wq_goto (tgt := 12) F dX7_tellColumn_82 (by decide) ?_
      exact wq_lsub [some (.ref (b + q0)), some (.int (wq_I j1)), some (.int (wq_I j2)), some (.int (wq_I j3)), some (.int (wq_I (j4 + 1))), some (.int (wq_I j5)), some (.int (wq_I j8)), some (.int (wq_I (j7 + 1))), none] (by simp [wq_sub]) (hrec (j4 + 1) j5 j8 (j7 + 1) S5 h)
  · replace h := wq_iff hc h
    refine wq_iload F dX7_tellColumn_55 rfl rfl ?_
    refine wq_iload F dX7_tellColumn_57 rfl rfl ?_
    refine wq_icmp_le (tgt := 66) F dX7_tellColumn_59 (by decide) rfl (fun hc => ?_) (fun hc => ?_)
    · replace h := wq_ift hc h
      refine wq_aload_n F dX7_tellColumn_66 rfl rfl rfl ?_
      refine wq_iload_n F dX7_tellColumn_67 rfl rfl rfl ?_
      refine wq_iload F dX7_tellColumn_68 rfl rfl ?_
      obtain ⟨r6, S7, h1r6, h⟩ := wq_bd_some h
      refine wq_callV (As := [.int (wq_I j1), .int (wq_I j7)]) F lk_X7_52 (ct_X7_isNewInSample hq0 h1r6) ⟨Nat.le_of_ble_eq_true rfl, Nat.le_of_ble_eq_true rfl⟩ ⟨Nat.le_of_ble_eq_true rfl, Nat.le_of_ble_eq_true rfl⟩ (wq_tab_lt hq0) (wq_E_tab hq0) rfl (fun _ h9 => h9) rfl rfl (Nat.le_of_ble_eq_true rfl) dX7_tellColumn_70 rfl ?_
      refine wq_if_eq (tgt := 79) F dX7_tellColumn_73 (by decide) rfl (fun hc => ?_) (fun hc => ?_)
      · replace h := wq_ift hc h
        refine wq_iinc (L' := [some (.ref (b + q0)), some (.int (wq_I j1)), some (.int (wq_I j2)), some (.int (wq_I j3)), some (.int (wq_I j4)), some (.int (wq_I j5)), some (.int (wq_I j6)), some (.int (wq_I (j7 + 1))), some (.int (wq_I j8))]) F dX7_tellColumn_79 rfl (by decide) rfl rfl rfl ?_
        refine wq_goto (tgt := 12) F dX7_tellColumn_82 (by decide) ?_
        exact wq_lsub [some (.ref (b + q0)), some (.int (wq_I j1)), some (.int (wq_I j2)), some (.int (wq_I j3)), some (.int (wq_I j4)), some (.int (wq_I j5)), some (.int (wq_I j6)), some (.int (wq_I (j7 + 1))), none] (by simp [wq_sub]) (hrec j4 j5 j6 (j7 + 1) S7 h)
      · replace h := wq_iff hc h
        refine wq_iinc (L' := [some (.ref (b + q0)), some (.int (wq_I j1)), some (.int (wq_I j2)), some (.int (wq_I j3)), some (.int (wq_I (j4 + 1))), some (.int (wq_I j5)), some (.int (wq_I j6)), some (.int (wq_I j7)), some (.int (wq_I j8))]) F dX7_tellColumn_76 rfl (by decide) rfl rfl rfl ?_
        refine wq_iinc (L' := [some (.ref (b + q0)), some (.int (wq_I j1)), some (.int (wq_I j2)), some (.int (wq_I j3)), some (.int (wq_I (j4 + 1))), some (.int (wq_I j5)), some (.int (wq_I j6)), some (.int (wq_I (j7 + 1))), some (.int (wq_I j8))]) F dX7_tellColumn_79 rfl (by decide) rfl rfl rfl ?_
        refine wq_goto (tgt := 12) F dX7_tellColumn_82 (by decide) ?_
        exact wq_lsub [some (.ref (b + q0)), some (.int (wq_I j1)), some (.int (wq_I j2)), some (.int (wq_I j3)), some (.int (wq_I (j4 + 1))), some (.int (wq_I j5)), some (.int (wq_I j6)), some (.int (wq_I (j7 + 1))), none] (by simp [wq_sub]) (hrec (j4 + 1) j5 j6 (j7 + 1) S7 h)
    · replace h := wq_iff hc h
      refine wq_iload F dX7_tellColumn_62 rfl rfl ?_
      refine wq_istore (L' := [some (.ref (b + q0)), some (.int (wq_I j1)), some (.int (wq_I j2)), some (.int (wq_I j3)), some (.int (wq_I j4)), some (.int (wq_I j5)), some (.int (wq_I j8)), some (.int (wq_I j7)), some (.int (wq_I j8))]) F dX7_tellColumn_64 (by decide) rfl rfl rfl ?_
      refine wq_aload_n F dX7_tellColumn_66 rfl rfl rfl ?_
      refine wq_iload_n F dX7_tellColumn_67 rfl rfl rfl ?_
      refine wq_iload F dX7_tellColumn_68 rfl rfl ?_
      obtain ⟨r8, S9, h1r8, h⟩ := wq_bd_some h
      refine wq_callV (As := [.int (wq_I j1), .int (wq_I j7)]) F lk_X7_52 (ct_X7_isNewInSample hq0 h1r8) ⟨Nat.le_of_ble_eq_true rfl, Nat.le_of_ble_eq_true rfl⟩ ⟨Nat.le_of_ble_eq_true rfl, Nat.le_of_ble_eq_true rfl⟩ (wq_tab_lt hq0) (wq_E_tab hq0) rfl (fun _ h9 => h9) rfl rfl (Nat.le_of_ble_eq_true rfl) dX7_tellColumn_70 rfl ?_
      refine wq_if_eq (tgt := 79) F dX7_tellColumn_73 (by decide) rfl (fun hc => ?_) (fun hc => ?_)
      · replace h := wq_ift hc h
        refine wq_iinc (L' := [some (.ref (b + q0)), some (.int (wq_I j1)), some (.int (wq_I j2)), some (.int (wq_I j3)), some (.int (wq_I j4)), some (.int (wq_I j5)), some (.int (wq_I j8)), some (.int (wq_I (j7 + 1))), some (.int (wq_I j8))]) F dX7_tellColumn_79 rfl (by decide) rfl rfl rfl ?_
        refine wq_goto (tgt := 12) F dX7_tellColumn_82 (by decide) ?_
        exact wq_lsub [some (.ref (b + q0)), some (.int (wq_I j1)), some (.int (wq_I j2)), some (.int (wq_I j3)), some (.int (wq_I j4)), some (.int (wq_I j5)), some (.int (wq_I j8)), some (.int (wq_I (j7 + 1))), none] (by simp [wq_sub]) (hrec j4 j5 j8 (j7 + 1) S9 h)
      · replace h := wq_iff hc h
        refine wq_iinc (L' := [some (.ref (b + q0)), some (.int (wq_I j1)), some (.int (wq_I j2)), some (.int (wq_I j3)), some (.int (wq_I (j4 + 1))), some (.int (wq_I j5)), some (.int (wq_I j8)), some (.int (wq_I j7)), some (.int (wq_I j8))]) F dX7_tellColumn_76 rfl (by decide) rfl rfl rfl ?_
        refine wq_iinc (L' := [some (.ref (b + q0)), some (.int (wq_I j1)), some (.int (wq_I j2)), some (.int (wq_I j3)), some (.int (wq_I (j4 + 1))), some (.int (wq_I j5)), some (.int (wq_I j8)), some (.int (wq_I (j7 + 1))), some (.int (wq_I j8))]) F dX7_tellColumn_79 rfl (by decide) rfl rfl rfl ?_
        refine wq_goto (tgt := 12) F dX7_tellColumn_82 (by decide) ?_
        exact wq_lsub [some (.ref (b + q0)), some (.int (wq_I j1)), some (.int (wq_I j2)), some (.int (wq_I j3)), some (.int (wq_I (j4 + 1))), some (.int (wq_I j5)), some (.int (wq_I j8)), some (.int (wq_I (j7 + 1))), none] (by simp [wq_sub]) (hrec (j4 + 1) j5 j8 (j7 + 1) S9 h)
set_option maxHeartbeats 4000000 in
set_option maxRecDepth 100000 in
theorem tj_X7_tellColumn_46 {p : Program} {l : Launch} {e : Env} {s : State} {m : MethodId} {args : Array Value} {below : List Frame} {meth : Method} {c : Code} {D : va_G} {Ar : Nat → ClassId} {b : Nat} (F : wq_Fr p s m args meth c cX7_tellColumn 9 ((Option.none : Option Jvm.ClassFile.FieldType)) "WharfQuery$Table" D Ar) {r0 : Int} {S0 : wq_St} {kx : Int → Int → Int → wq_St → Option (Int × wq_St)} {rec : Int → Int → Int → Int → wq_St → Option (Int × wq_St)} {q0 : Nat} {j1 : Int} {j2 : Int} {j3 : Int} {j4 : Int} {j6 : Int} {j7 : Int} {j8 : Int} (hq0 : wq_tab q0) (hkx : ∀ (u4 : Int) (u5 : Int) (u6 : Int) (S : wq_St), kx u4 u5 u6 S = some (r0, S0) → wq_Z p l e (wq_rm 2 0 0) s m args below meth c D (wq_EC Ar b) b 284 9 (wq_Ab b 284) (MQ below (wq_Qc D (wq_EC Ar b) b 284 none S0) args s 0 0 (wq_Ab b 284)) 0 0 85 [some (.ref (b + q0)), some (.int (wq_I j1)), none, some (.int (wq_I j3)), some (.int (wq_I u4)), some (.int (wq_I u5)), some (.int (wq_I u6)), none, none] [] S) (hrec : ∀ (y4 : Int) (y5 : Int) (y6 : Int) (y7 : Int) (S : wq_St), rec y4 y5 y6 y7 S = some (r0, S0) → wq_Z p l e (wq_rm 2 0 0) s m args below meth c D (wq_EC Ar b) b 284 9 (wq_Ab b 284) (MQ below (wq_Qc D (wq_EC Ar b) b 284 none S0) args s 0 0 (wq_Ab b 284)) 0 0 12 [some (.ref (b + q0)), some (.int (wq_I j1)), some (.int (wq_I j2)), some (.int (wq_I j3)), some (.int (wq_I y4)), some (.int (wq_I y5)), some (.int (wq_I y6)), some (.int (wq_I y7)), none] [] S) (S : wq_St) (h : j_X7_tellColumn_46 kx rec q0 j1 j2 j3 j4 j6 j7 j8 S = some (r0, S0)) : wq_Z p l e (wq_rm 2 0 0) s m args below meth c D (wq_EC Ar b) b 284 9 (wq_Ab b 284) (MQ below (wq_Qc D (wq_EC Ar b) b 284 none S0) args s 0 0 (wq_Ab b 284)) 0 0 46 [some (.ref (b + q0)), some (.int (wq_I j1)), some (.int (wq_I j2)), some (.int (wq_I j3)), some (.int (wq_I j4)), none, some (.int (wq_I j6)), some (.int (wq_I j7)), some (.int (wq_I j8))] [] S := by
  unfold j_X7_tellColumn_46 at h
  refine wq_iload F dX7_tellColumn_46 rfl rfl ?_
  refine wq_istore (L' := [some (.ref (b + q0)), some (.int (wq_I j1)), some (.int (wq_I j2)), some (.int (wq_I j3)), some (.int (wq_I j4)), some (.int (wq_I j8)), some (.int (wq_I j6)), some (.int (wq_I j7)), some (.int (wq_I j8))]) F dX7_tellColumn_48 (by decide) rfl rfl rfl ?_
  exact wq_lsub [some (.ref (b + q0)), some (.int (wq_I j1)), some (.int (wq_I j2)), some (.int (wq_I j3)), some (.int (wq_I j4)), some (.int (wq_I j8)), some (.int (wq_I j6)), some (.int (wq_I j7)), some (.int (wq_I j8))] (by simp [wq_sub]) (tj_X7_tellColumn_50 F hq0 hkx hrec S h)
set_option maxHeartbeats 4000000 in
set_option maxRecDepth 100000 in
theorem tb_X7_tellColumn_12 {p : Program} {l : Launch} {e : Env} {s : State} {m : MethodId} {args : Array Value} {below : List Frame} {meth : Method} {c : Code} {D : va_G} {Ar : Nat → ClassId} {b : Nat} (F : wq_Fr p s m args meth c cX7_tellColumn 9 ((Option.none : Option Jvm.ClassFile.FieldType)) "WharfQuery$Table" D Ar) {r0 : Int} {S0 : wq_St} {q0 : Nat} {c1 : Int} {c2 : Int} {c3 : Int} (hq0 : wq_tab q0) {kx : Int → Int → Int → wq_St → Option (Int × wq_St)} (hkx : ∀ (u4 : Int) (u5 : Int) (u6 : Int) (S : wq_St), kx u4 u5 u6 S = some (r0, S0) → wq_Z p l e (wq_rm 2 0 0) s m args below meth c D (wq_EC Ar b) b 284 9 (wq_Ab b 284) (MQ below (wq_Qc D (wq_EC Ar b) b 284 none S0) args s 0 0 (wq_Ab b 284)) 0 0 85 [some (.ref (b + q0)), some (.int (wq_I c1)), none, some (.int (wq_I c3)), some (.int (wq_I u4)), some (.int (wq_I u5)), some (.int (wq_I u6)), none, none] [] S) {rec : Int → Int → Int → Int → wq_St → Option (Int × wq_St)} (hrec : ∀ (y4 : Int) (y5 : Int) (y6 : Int) (y7 : Int) (S : wq_St), rec y4 y5 y6 y7 S = some (r0, S0) → wq_Z p l e (wq_rm 2 0 0) s m args below meth c D (wq_EC Ar b) b 284 9 (wq_Ab b 284) (MQ below (wq_Qc D (wq_EC Ar b) b 284 none S0) args s 0 0 (wq_Ab b 284)) 0 0 12 [some (.ref (b + q0)), some (.int (wq_I c1)), some (.int (wq_I c2)), some (.int (wq_I c3)), some (.int (wq_I y4)), some (.int (wq_I y5)), some (.int (wq_I y6)), some (.int (wq_I y7)), none] [] S) (y4 : Int) (y5 : Int) (y6 : Int) (y7 : Int) (S : wq_St) (h : b_X7_tellColumn_12 q0 c1 c2 c3 kx rec y4 y5 y6 y7 S = some (r0, S0)) : wq_Z p l e (wq_rm 2 0 0) s m args below meth c D (wq_EC Ar b) b 284 9 (wq_Ab b 284) (MQ below (wq_Qc D (wq_EC Ar b) b 284 none S0) args s 0 0 (wq_Ab b 284)) 0 0 12 [some (.ref (b + q0)), some (.int (wq_I c1)), some (.int (wq_I c2)), some (.int (wq_I c3)), some (.int (wq_I y4)), some (.int (wq_I y5)), some (.int (wq_I y6)), some (.int (wq_I y7)), none] [] S := by
  unfold b_X7_tellColumn_12 at h
  refine wq_iload F dX7_tellColumn_12 rfl rfl ?_
  refine wq_iload_n F dX7_tellColumn_14 rfl rfl rfl ?_
  refine wq_icmp_ge (tgt := 85) F dX7_tellColumn_15 (by decide) rfl (fun hc => ?_) (fun hc => ?_)
  · replace h := wq_ift hc h
    exact wq_lsub [some (.ref (b + q0)), some (.int (wq_I c1)), none, some (.int (wq_I c3)), some (.int (wq_I y4)), some (.int (wq_I y5)), some (.int (wq_I y6)), none, none] (by simp [wq_sub]) (hkx y4 y5 y6 S h)
  · replace h := wq_iff hc h
    refine wq_aload_n F dX7_tellColumn_18 rfl rfl rfl ?_
    refine wq_g_X7_19 F hq0 dX7_tellColumn_19 rfl ?_
    refine wq_aload_n F dX7_tellColumn_22 rfl rfl rfl ?_
    refine wq_g_X7_26 F hq0 dX7_tellColumn_23 rfl ?_
    refine wq_iload F dX7_tellColumn_26 rfl rfl ?_
    obtain ⟨t1, ht1, wt1, h⟩ := wq_ix_some h
    refine wq_iald F (wq_tab_lt44 hq0) (wq_E_samp hq0) ht1 wt1 dX7_tellColumn_28 rfl ?_
    obtain ⟨t2, ht2, wt2, h⟩ := wq_ix_some h
    refine wq_aald F (wq_tab_lt2 hq0) (wq_E_vals hq0) rfl rfl ht2 wt2 dX7_tellColumn_29 rfl ?_
    refine wq_iload_n F dX7_tellColumn_30 rfl rfl rfl ?_
    obtain ⟨t3, ht3, wt3, h⟩ := wq_ix_some h
    refine wq_iald F (wq_row_lt hq0 ht2) (wq_E_row hq0 ht2) ht3 wt3 dX7_tellColumn_31 rfl ?_
    refine wq_istore (L' := [some (.ref (b + q0)), some (.int (wq_I c1)), some (.int (wq_I c2)), some (.int (wq_I c3)), some (.int (wq_I y4)), some (.int (wq_I y5)), some (.int (wq_I y6)), some (.int (wq_I y7)), some (.int (wq_I (S (q0 + 3 + t2) t3)))]) F dX7_tellColumn_32 (by decide) rfl rfl rfl ?_
    refine wq_iload F dX7_tellColumn_34 rfl rfl ?_
    refine wq_if_eq (tgt := 46) F dX7_tellColumn_36 (by decide) rfl (fun hc => ?_) (fun hc => ?_)
    · replace h := wq_ift hc h
      exact wq_lsub [some (.ref (b + q0)), some (.int (wq_I c1)), some (.int (wq_I c2)), some (.int (wq_I c3)), some (.int (wq_I y4)), none, some (.int (wq_I y6)), some (.int (wq_I y7)), some (.int (wq_I (S (q0 + 3 + t2) t3)))] (by simp [wq_sub]) (tj_X7_tellColumn_46 F hq0 hkx hrec S h)
    · replace h := wq_iff hc h
      refine wq_iload F dX7_tellColumn_39 rfl rfl ?_
      refine wq_iload F dX7_tellColumn_41 rfl rfl ?_
      refine wq_icmp_ge (tgt := 50) F dX7_tellColumn_43 (by decide) rfl (fun hc => ?_) (fun hc => ?_)
      · replace h := wq_ift hc h
        exact wq_lsub [some (.ref (b + q0)), some (.int (wq_I c1)), some (.int (wq_I c2)), some (.int (wq_I c3)), some (.int (wq_I y4)), some (.int (wq_I y5)), some (.int (wq_I y6)), some (.int (wq_I y7)), some (.int (wq_I (S (q0 + 3 + t2) t3)))] (by simp [wq_sub]) (tj_X7_tellColumn_50 F hq0 hkx hrec S h)
      · replace h := wq_iff hc h
        exact wq_lsub [some (.ref (b + q0)), some (.int (wq_I c1)), some (.int (wq_I c2)), some (.int (wq_I c3)), some (.int (wq_I y4)), none, some (.int (wq_I y6)), some (.int (wq_I y7)), some (.int (wq_I (S (q0 + 3 + t2) t3)))] (by simp [wq_sub]) (tj_X7_tellColumn_46 F hq0 hkx hrec S h)
set_option maxHeartbeats 4000000 in
set_option maxRecDepth 100000 in
theorem tl_X7_tellColumn_12 {p : Program} {l : Launch} {e : Env} {s : State} {m : MethodId} {args : Array Value} {below : List Frame} {meth : Method} {c : Code} {D : va_G} {Ar : Nat → ClassId} {b : Nat} (F : wq_Fr p s m args meth c cX7_tellColumn 9 ((Option.none : Option Jvm.ClassFile.FieldType)) "WharfQuery$Table" D Ar) {r0 : Int} {S0 : wq_St} {q0 : Nat} {c1 : Int} {c2 : Int} {c3 : Int} (hq0 : wq_tab q0) {kx : Int → Int → Int → wq_St → Option (Int × wq_St)} (hkx : ∀ (u4 : Int) (u5 : Int) (u6 : Int) (S : wq_St), kx u4 u5 u6 S = some (r0, S0) → wq_Z p l e (wq_rm 2 0 0) s m args below meth c D (wq_EC Ar b) b 284 9 (wq_Ab b 284) (MQ below (wq_Qc D (wq_EC Ar b) b 284 none S0) args s 0 0 (wq_Ab b 284)) 0 0 85 [some (.ref (b + q0)), some (.int (wq_I c1)), none, some (.int (wq_I c3)), some (.int (wq_I u4)), some (.int (wq_I u5)), some (.int (wq_I u6)), none, none] [] S) (n : Nat) (y4 : Int) (y5 : Int) (y6 : Int) (y7 : Int) (S : wq_St) (h : l_X7_tellColumn_12 q0 c1 c2 c3 kx n y4 y5 y6 y7 S = some (r0, S0)) : wq_Z p l e (wq_rm 2 0 0) s m args below meth c D (wq_EC Ar b) b 284 9 (wq_Ab b 284) (MQ below (wq_Qc D (wq_EC Ar b) b 284 none S0) args s 0 0 (wq_Ab b 284)) 0 0 12 [some (.ref (b + q0)), some (.int (wq_I c1)), some (.int (wq_I c2)), some (.int (wq_I c3)), some (.int (wq_I y4)), some (.int (wq_I y5)), some (.int (wq_I y6)), some (.int (wq_I y7)), none] [] S :=
  wq_loop_ind (f := fun (g : Int × Int × Int × Int × wq_St → Option (Int × wq_St)) (x : Int × Int × Int × Int × wq_St) => b_X7_tellColumn_12 q0 c1 c2 c3 kx (fun y4 y5 y6 y7 S => g (y4, y5, y6, y7, S)) x.1 x.2.1 x.2.2.1 x.2.2.2.1 x.2.2.2.2) (P := (fun x : Int × Int × Int × Int × wq_St => wq_Z p l e (wq_rm 2 0 0) s m args below meth c D (wq_EC Ar b) b 284 9 (wq_Ab b 284) (MQ below (wq_Qc D (wq_EC Ar b) b 284 none S0) args s 0 0 (wq_Ab b 284)) 0 0 12 [some (.ref (b + q0)), some (.int (wq_I c1)), some (.int (wq_I c2)), some (.int (wq_I c3)), some (.int (wq_I (x.1))), some (.int (wq_I (x.2.1))), some (.int (wq_I (x.2.2.1))), some (.int (wq_I (x.2.2.2.1))), none] [] x.2.2.2.2)) (fun g hg x hx => tb_X7_tellColumn_12 F hq0 hkx (fun y4 y5 y6 y7 S h => hg (y4, y5, y6, y7, S) h) x.1 x.2.1 x.2.2.1 x.2.2.2.1 x.2.2.2.2 hx) n (y4, y5, y6, y7, S) h
set_option maxHeartbeats 4000000 in
set_option maxRecDepth 100000 in
theorem ct_X7_tellColumn {l : Launch} {D : va_G} {Ar : Nat → ClassId} {b : Nat} {k0 : Nat} {x1 : Int} {x2 : Int} {x3 : Int} {S S0 : wq_St} {r0 : Int} (hk0 : wq_tab k0) (h : f_X7_tellColumn k0 x1 x2 x3 S = some (r0, S0)) : wq_Ct l yX7_tellColumn (.code yX7_tellColumn cX7_tellColumn 9 ((Option.none : Option Jvm.ClassFile.FieldType))) 2 D Ar (wq_EC Ar b) b 284 [.ref (b + k0), .int (wq_I x1), .int (wq_I x2), .int (wq_I x3)] S none S0 := by
  refine wq_start "WharfQuery$Table" [some (.ref (b + k0)), some (.int (wq_I x1)), some (.int (wq_I x2)), some (.int (wq_I x3)), none, none, none, none, none] (by decide +kernel) rfl (Nat.le_of_ble_eq_true rfl) rfl ?_
  intro p e s m args below meth c F
  unfold f_X7_tellColumn at h
  refine wq_iconst (n := 0) F dX7_tellColumn_0 rfl ?_
  refine wq_istore (L' := [some (.ref (b + k0)), some (.int (wq_I x1)), some (.int (wq_I x2)), some (.int (wq_I x3)), some (.int (wq_I 0)), none, none, none, none]) F dX7_tellColumn_1 (by decide) rfl rfl rfl ?_
  refine wq_iconst (n := 0) F dX7_tellColumn_3 rfl ?_
  refine wq_istore (L' := [some (.ref (b + k0)), some (.int (wq_I x1)), some (.int (wq_I x2)), some (.int (wq_I x3)), some (.int (wq_I 0)), some (.int (wq_I 0)), none, none, none]) F dX7_tellColumn_4 (by decide) rfl rfl rfl ?_
  refine wq_iconst (n := 0) F dX7_tellColumn_6 rfl ?_
  refine wq_istore (L' := [some (.ref (b + k0)), some (.int (wq_I x1)), some (.int (wq_I x2)), some (.int (wq_I x3)), some (.int (wq_I 0)), some (.int (wq_I 0)), some (.int (wq_I 0)), none, none]) F dX7_tellColumn_7 (by decide) rfl rfl rfl ?_
  refine wq_iconst (n := 0) F dX7_tellColumn_9 rfl ?_
  refine wq_istore (L' := [some (.ref (b + k0)), some (.int (wq_I x1)), some (.int (wq_I x2)), some (.int (wq_I x3)), some (.int (wq_I 0)), some (.int (wq_I 0)), some (.int (wq_I 0)), some (.int (wq_I 0)), none]) F dX7_tellColumn_10 (by decide) rfl rfl rfl ?_
  refine wq_lsub [some (.ref (b + k0)), some (.int (wq_I x1)), some (.int (wq_I x2)), some (.int (wq_I x3)), some (.int (wq_I 0)), some (.int (wq_I 0)), some (.int (wq_I 0)), some (.int (wq_I 0)), none] (by simp [wq_sub]) (tl_X7_tellColumn_12 F hk0 (fun u10 u11 u12 S13 h => ?_) wq_fu 0 0 0 0 S h)
  refine wq_aload_n F dX7_tellColumn_85 rfl rfl rfl ?_
  refine wq_g_X7_11 F hk0 dX7_tellColumn_86 rfl ?_
  refine wq_iload_n F dX7_tellColumn_89 rfl rfl rfl ?_
  obtain ⟨t14, ht14, wt14, h⟩ := wq_ix_some h
  refine wq_aald F (wq_tab_lt1 hk0) (wq_E_cols hk0) rfl rfl ht14 wt14 dX7_tellColumn_90 rfl ?_
  refine wq_iload F dX7_tellColumn_91 rfl rfl ?_
  refine wq_iload_n F dX7_tellColumn_93 rfl rfl rfl ?_
  refine wq_imul F dX7_tellColumn_94 rfl ?_
  refine wq_aload_n F dX7_tellColumn_95 rfl rfl rfl ?_
  refine wq_g_X7_38 F hk0 dX7_tellColumn_96 rfl ?_
  refine wq_mmin F aw_616 aw_592 aw_35 aw_593 (Nat.le_of_ble_eq_true rfl) (Nat.le_of_ble_eq_true rfl) ⟨Nat.le_of_ble_eq_true rfl, Nat.le_of_ble_eq_true rfl⟩ dX7_tellColumn_99 rfl ?_
  refine wq_p_X7_62 F (wq_col_i hk0 ht14) (fun _ h9 => h9) dX7_tellColumn_102 rfl ?_
  obtain ⟨S15, eS15, h⟩ := wq_lt_some h
  refine wq_namS eS15 ?_
  refine wq_aload_n F dX7_tellColumn_105 rfl rfl rfl ?_
  refine wq_g_X7_11 F hk0 dX7_tellColumn_106 rfl ?_
  refine wq_iload_n F dX7_tellColumn_109 rfl rfl rfl ?_
  obtain ⟨t16, ht16, wt16, h⟩ := wq_ix_some h
  refine wq_aald F (wq_tab_lt1 hk0) (wq_E_cols hk0) rfl rfl ht16 wt16 dX7_tellColumn_110 rfl ?_
  refine wq_iload F dX7_tellColumn_111 rfl rfl ?_
  refine wq_p_X7_65 F (wq_col_i hk0 ht16) (fun _ h9 => h9) dX7_tellColumn_113 rfl ?_
  obtain ⟨S17, eS17, h⟩ := wq_lt_some h
  refine wq_namS eS17 ?_
  refine wq_aload_n F dX7_tellColumn_116 rfl rfl rfl ?_
  refine wq_g_X7_11 F hk0 dX7_tellColumn_117 rfl ?_
  refine wq_iload_n F dX7_tellColumn_120 rfl rfl rfl ?_
  obtain ⟨t18, ht18, wt18, h⟩ := wq_ix_some h
  refine wq_aald F (wq_tab_lt1 hk0) (wq_E_cols hk0) rfl rfl ht18 wt18 dX7_tellColumn_121 rfl ?_
  refine wq_iload F dX7_tellColumn_122 rfl rfl ?_
  refine wq_p_X7_68 F (wq_col_i hk0 ht18) (fun _ h9 => h9) dX7_tellColumn_124 rfl ?_
  cases h
  exact wq_vret F rfl rfl dX7_tellColumn_127
set_option maxHeartbeats 4000000 in
set_option maxRecDepth 100000 in
theorem tb_X7_renewCounts_16 {p : Program} {l : Launch} {e : Env} {s : State} {m : MethodId} {args : Array Value} {below : List Frame} {meth : Method} {c : Code} {D : va_G} {Ar : Nat → ClassId} {b : Nat} (F : wq_Fr p s m args meth c cX7_renewCounts 4 ((Option.some Jvm.ClassFile.FieldType.int)) "WharfQuery$Table" D Ar) {r0 : Int} {S0 : wq_St} {q0 : Nat} {c1 : Int} {c2 : Int} (hq0 : wq_tab q0) {kx : wq_St → Option (Int × wq_St)} (hkx : ∀ (S : wq_St), kx S = some (r0, S0) → wq_Z p l e (wq_rm 3 0 0) s m args below meth c D (wq_EC Ar b) b 284 4 (wq_Ab b 284) (MQ below (wq_Qc D (wq_EC Ar b) b 284 (some (.int (wq_I r0))) S0) args s 0 0 (wq_Ab b 284)) 0 0 37 [none, none, some (.int (wq_I c2)), none] [] S) {rec : Int → wq_St → Option (Int × wq_St)} (hrec : ∀ (y3 : Int) (S : wq_St), rec y3 S = some (r0, S0) → wq_Z p l e (wq_rm 3 0 0) s m args below meth c D (wq_EC Ar b) b 284 4 (wq_Ab b 284) (MQ below (wq_Qc D (wq_EC Ar b) b 284 (some (.int (wq_I r0))) S0) args s 0 0 (wq_Ab b 284)) 0 0 16 [some (.ref (b + q0)), some (.int (wq_I c1)), some (.int (wq_I c2)), some (.int (wq_I y3))] [] S) (y3 : Int) (S : wq_St) (h : b_X7_renewCounts_16 q0 c1 c2 kx rec y3 S = some (r0, S0)) : wq_Z p l e (wq_rm 3 0 0) s m args below meth c D (wq_EC Ar b) b 284 4 (wq_Ab b 284) (MQ below (wq_Qc D (wq_EC Ar b) b 284 (some (.int (wq_I r0))) S0) args s 0 0 (wq_Ab b 284)) 0 0 16 [some (.ref (b + q0)), some (.int (wq_I c1)), some (.int (wq_I c2)), some (.int (wq_I y3))] [] S := by
  unfold b_X7_renewCounts_16 at h
  refine wq_iload_n F dX7_renewCounts_16 rfl rfl rfl ?_
  refine wq_aload_n F dX7_renewCounts_17 rfl rfl rfl ?_
  refine wq_g_X7_31 F hq0 dX7_renewCounts_18 rfl ?_
  refine wq_icmp_ge (tgt := 37) F dX7_renewCounts_21 (by decide) rfl (fun hc => ?_) (fun hc => ?_)
  · replace h := wq_ift hc h
    exact wq_lsub [none, none, some (.int (wq_I c2)), none] (by simp [wq_sub]) (hkx S h)
  · replace h := wq_iff hc h
    refine wq_aload_n F dX7_renewCounts_24 rfl rfl rfl ?_
    refine wq_iload_n F dX7_renewCounts_25 rfl rfl rfl ?_
    refine wq_iload_n F dX7_renewCounts_26 rfl rfl rfl ?_
    refine wq_iload_n F dX7_renewCounts_27 rfl rfl rfl ?_
    obtain ⟨r4, S5, h1r4, h⟩ := wq_bd_some h
    refine wq_callV (As := [.int (wq_I y3), .int (wq_I c2), .int (wq_I c1)]) F lk_X7_48 (ct_X7_tellColumn hq0 h1r4) ⟨Nat.le_of_ble_eq_true rfl, Nat.le_of_ble_eq_true rfl⟩ ⟨Nat.le_of_ble_eq_true rfl, Nat.le_of_ble_eq_true rfl⟩ (wq_tab_lt hq0) (wq_E_tab hq0) rfl (fun _ h9 => h9) rfl rfl (Nat.le_of_ble_eq_true rfl) dX7_renewCounts_28 rfl ?_
    refine wq_iinc (L' := [some (.ref (b + q0)), some (.int (wq_I c1)), some (.int (wq_I c2)), some (.int (wq_I (y3 + 1)))]) F dX7_renewCounts_31 rfl (by decide) rfl rfl rfl ?_
    refine wq_goto (tgt := 16) F dX7_renewCounts_34 (by decide) ?_
    exact wq_lsub [some (.ref (b + q0)), some (.int (wq_I c1)), some (.int (wq_I c2)), some (.int (wq_I (y3 + 1)))] (by simp [wq_sub]) (hrec (y3 + 1) S5 h)
set_option maxHeartbeats 4000000 in
set_option maxRecDepth 100000 in
theorem tl_X7_renewCounts_16 {p : Program} {l : Launch} {e : Env} {s : State} {m : MethodId} {args : Array Value} {below : List Frame} {meth : Method} {c : Code} {D : va_G} {Ar : Nat → ClassId} {b : Nat} (F : wq_Fr p s m args meth c cX7_renewCounts 4 ((Option.some Jvm.ClassFile.FieldType.int)) "WharfQuery$Table" D Ar) {r0 : Int} {S0 : wq_St} {q0 : Nat} {c1 : Int} {c2 : Int} (hq0 : wq_tab q0) {kx : wq_St → Option (Int × wq_St)} (hkx : ∀ (S : wq_St), kx S = some (r0, S0) → wq_Z p l e (wq_rm 3 0 0) s m args below meth c D (wq_EC Ar b) b 284 4 (wq_Ab b 284) (MQ below (wq_Qc D (wq_EC Ar b) b 284 (some (.int (wq_I r0))) S0) args s 0 0 (wq_Ab b 284)) 0 0 37 [none, none, some (.int (wq_I c2)), none] [] S) (n : Nat) (y3 : Int) (S : wq_St) (h : l_X7_renewCounts_16 q0 c1 c2 kx n y3 S = some (r0, S0)) : wq_Z p l e (wq_rm 3 0 0) s m args below meth c D (wq_EC Ar b) b 284 4 (wq_Ab b 284) (MQ below (wq_Qc D (wq_EC Ar b) b 284 (some (.int (wq_I r0))) S0) args s 0 0 (wq_Ab b 284)) 0 0 16 [some (.ref (b + q0)), some (.int (wq_I c1)), some (.int (wq_I c2)), some (.int (wq_I y3))] [] S :=
  wq_loop_ind (f := fun (g : Int × wq_St → Option (Int × wq_St)) (x : Int × wq_St) => b_X7_renewCounts_16 q0 c1 c2 kx (fun y3 S => g (y3, S)) x.1 x.2) (P := (fun x : Int × wq_St => wq_Z p l e (wq_rm 3 0 0) s m args below meth c D (wq_EC Ar b) b 284 4 (wq_Ab b 284) (MQ below (wq_Qc D (wq_EC Ar b) b 284 (some (.int (wq_I r0))) S0) args s 0 0 (wq_Ab b 284)) 0 0 16 [some (.ref (b + q0)), some (.int (wq_I c1)), some (.int (wq_I c2)), some (.int (wq_I (x.1)))] [] x.2)) (fun g hg x hx => tb_X7_renewCounts_16 F hq0 hkx (fun y3 S h => hg (y3, S) h) x.1 x.2 hx) n (y3, S) h
set_option maxHeartbeats 4000000 in
set_option maxRecDepth 100000 in
theorem ct_X7_renewCounts {l : Launch} {D : va_G} {Ar : Nat → ClassId} {b : Nat} {k0 : Nat} {x1 : Int} {S S0 : wq_St} {r0 : Int} (hk0 : wq_tab k0) (h : f_X7_renewCounts k0 x1 S = some (r0, S0)) : wq_Ct l yX7_renewCounts (.code yX7_renewCounts cX7_renewCounts 4 ((Option.some Jvm.ClassFile.FieldType.int))) 3 D Ar (wq_EC Ar b) b 284 [.ref (b + k0), .int (wq_I x1)] S (some (.int (wq_I r0))) S0 := by
  refine wq_start "WharfQuery$Table" [some (.ref (b + k0)), some (.int (wq_I x1)), none, none] (by decide +kernel) rfl (Nat.le_of_ble_eq_true rfl) rfl ?_
  intro p e s m args below meth c F
  unfold f_X7_renewCounts at h
  refine wq_aload_n F dX7_renewCounts_0 rfl rfl rfl ?_
  refine wq_iload_n F dX7_renewCounts_1 rfl rfl rfl ?_
  obtain ⟨r1, S2, h1r1, h⟩ := wq_bd_some h
  refine wq_callV (As := [.int (wq_I x1)]) F lk_X7_41 (ct_X7_takeSample hk0 h1r1) ⟨Nat.le_of_ble_eq_true rfl, Nat.le_of_ble_eq_true rfl⟩ ⟨Nat.le_of_ble_eq_true rfl, Nat.le_of_ble_eq_true rfl⟩ (wq_tab_lt hk0) (wq_E_tab hk0) rfl (fun _ h9 => h9) rfl rfl (Nat.le_of_ble_eq_true rfl) dX7_renewCounts_2 rfl ?_
  refine wq_istore_n (L' := [some (.ref (b + k0)), some (.int (wq_I x1)), some (.int (wq_I r1)), none]) F dX7_renewCounts_5 rfl (by decide) rfl rfl rfl ?_
  refine wq_aload_n F dX7_renewCounts_6 rfl rfl rfl ?_
  refine wq_aload_n F dX7_renewCounts_7 rfl rfl rfl ?_
  refine wq_g_X7_38 F hk0 dX7_renewCounts_8 rfl ?_
  refine wq_p_X7_45 F hk0 (fun _ h9 => h9) dX7_renewCounts_11 rfl ?_
  obtain ⟨S3, eS3, h⟩ := wq_lt_some h
  refine wq_namS eS3 ?_
  refine wq_iconst (n := 0) F dX7_renewCounts_14 rfl ?_
  refine wq_istore_n (L' := [some (.ref (b + k0)), some (.int (wq_I x1)), some (.int (wq_I r1)), some (.int (wq_I 0))]) F dX7_renewCounts_15 rfl (by decide) rfl rfl rfl ?_
  refine wq_lsub [some (.ref (b + k0)), some (.int (wq_I x1)), some (.int (wq_I r1)), some (.int (wq_I 0))] (by simp [wq_sub]) (tl_X7_renewCounts_16 F hk0 (fun S6 h => ?_) wq_fu 0 S3 h)
  refine wq_iload_n F dX7_renewCounts_37 rfl rfl rfl ?_
  cases h
  exact wq_iret F rfl rfl dX7_renewCounts_38
set_option maxHeartbeats 4000000 in
set_option maxRecDepth 100000 in
theorem ct_X6_chosenValue {l : Launch} {D : va_G} {Ar : Nat → ClassId} {b : Nat} {k1 : Nat} {x2 : Int} {x3 : Int} {S S0 : wq_St} {r0 : Int} (hk1 : wq_rep k1) (h : f_X6_chosenValue k1 x2 x3 S = some (r0, S0)) : wq_Ct l yX6_chosenValue (.code yX6_chosenValue cX6_chosenValue 4 ((Option.some Jvm.ClassFile.FieldType.int))) 1 D Ar (wq_EC Ar b) b 284 [.ref (b + 280), .ref (b + k1), .int (wq_I x2), .int (wq_I x3)] S (some (.int (wq_I r0))) S0 := by
  refine wq_start "WharfQuery$Run" [some (.ref (b + 280)), some (.ref (b + k1)), some (.int (wq_I x2)), some (.int (wq_I x3))] (by decide +kernel) rfl (Nat.le_of_ble_eq_true rfl) rfl ?_
  intro p e s m args below meth c F
  unfold f_X6_chosenValue at h
  refine wq_aload_n F dX6_chosenValue_0 rfl rfl rfl ?_
  refine wq_g_X6_15 F dX6_chosenValue_1 rfl ?_
  refine wq_aload_n F dX6_chosenValue_4 rfl rfl rfl ?_
  refine wq_g_X6_47 F hk1 dX6_chosenValue_5 rfl ?_
  refine wq_iload_n F dX6_chosenValue_8 rfl rfl rfl ?_
  obtain ⟨t1, ht1, wt1, h⟩ := wq_ix_some h
  refine wq_iald F (wq_rep_lt1 hk1) (wq_E_srcs hk1) ht1 wt1 dX6_chosenValue_9 rfl ?_
  obtain ⟨t2, ht2, wt2, h⟩ := wq_ix_some h
  refine wq_aald F (Nat.le_of_ble_eq_true rfl) wq_E_tabs rfl rfl ht2 wt2 dX6_chosenValue_10 rfl ?_
  refine wq_g_X6_66 F (wq_tab_i ht2) dX6_chosenValue_11 rfl ?_
  refine wq_aload_n F dX6_chosenValue_14 rfl rfl rfl ?_
  refine wq_g_X6_9 F dX6_chosenValue_15 rfl ?_
  refine wq_iload_n F dX6_chosenValue_18 rfl rfl rfl ?_
  obtain ⟨t3, ht3, wt3, h⟩ := wq_ix_some h
  refine wq_iald F (Nat.le_of_ble_eq_true rfl) wq_E_chosen ht3 wt3 dX6_chosenValue_19 rfl ?_
  obtain ⟨t4, ht4, wt4, h⟩ := wq_ix_some h
  refine wq_aald F (wq_tab_lt2 (wq_tab_i ht2)) (wq_E_vals (wq_tab_i ht2)) rfl rfl ht4 wt4 dX6_chosenValue_20 rfl ?_
  refine wq_iload_n F dX6_chosenValue_21 rfl rfl rfl ?_
  obtain ⟨t5, ht5, wt5, h⟩ := wq_ix_some h
  refine wq_iald F (wq_row_lt (wq_tab_i ht2) ht4) (wq_E_row (wq_tab_i ht2) ht4) ht5 wt5 dX6_chosenValue_22 rfl ?_
  cases h
  exact wq_iret F rfl rfl dX6_chosenValue_23
set_option maxHeartbeats 4000000 in
set_option maxRecDepth 100000 in
theorem ct_X6_countChoice {l : Launch} {D : va_G} {Ar : Nat → ClassId} {b : Nat} {k1 : Nat} {S S0 : wq_St} {r0 : Int} (hk1 : wq_rep k1) (h : f_X6_countChoice k1 S = some (r0, S0)) : wq_Ct l yX6_countChoice (.code yX6_countChoice cX6_countChoice 2 ((Option.none : Option Jvm.ClassFile.FieldType))) 2 D Ar (wq_EC Ar b) b 284 [.ref (b + 280), .ref (b + k1)] S none S0 := by
  refine wq_start "WharfQuery$Run" [some (.ref (b + 280)), some (.ref (b + k1))] (by decide +kernel) rfl (Nat.le_of_ble_eq_true rfl) rfl ?_
  intro p e s m args below meth c F
  unfold f_X6_countChoice at h
  refine wq_aload_n F dX6_countChoice_0 rfl rfl rfl ?_
  refine wq_dup1 F rfl dX6_countChoice_1 rfl ?_
  refine wq_g_X6_23 F dX6_countChoice_2 rfl ?_
  refine wq_iconst (n := 1) F dX6_countChoice_5 rfl ?_
  refine wq_iadd F dX6_countChoice_6 rfl ?_
  refine wq_p_X6_23 F (fun _ h9 => h9) dX6_countChoice_7 rfl ?_
  obtain ⟨S1, eS1, h⟩ := wq_lt_some h
  refine wq_namS eS1 ?_
  refine wq_aload_n F dX6_countChoice_10 rfl rfl rfl ?_
  refine wq_g_X6_74 F hk1 dX6_countChoice_11 rfl ?_
  refine wq_iconst (n := -1) F dX6_countChoice_14 rfl ?_
  refine wq_icmp_eq (tgt := 40) F dX6_countChoice_15 (by decide) rfl (fun hc => ?_) (fun hc => ?_)
  · replace h := wq_ift hc h
    cases h
    exact wq_vret F rfl rfl dX6_countChoice_40
  · replace h := wq_iff hc h
    refine wq_aload_n F dX6_countChoice_18 rfl rfl rfl ?_
    refine wq_dup1 F rfl dX6_countChoice_19 rfl ?_
    refine wq_g_X6_26 F dX6_countChoice_20 rfl ?_
    refine wq_aload_n F dX6_countChoice_23 rfl rfl rfl ?_
    refine wq_aload_n F dX6_countChoice_24 rfl rfl rfl ?_
    refine wq_aload_n F dX6_countChoice_25 rfl rfl rfl ?_
    refine wq_g_X6_74 F hk1 dX6_countChoice_26 rfl ?_
    refine wq_aload_n F dX6_countChoice_29 rfl rfl rfl ?_
    refine wq_g_X6_77 F hk1 dX6_countChoice_30 rfl ?_
    obtain ⟨r2, S3, h1r2, h⟩ := wq_bd_some h
    refine wq_callV (As := [.ref (b + k1), .int (wq_I (S1 k1 5)), .int (wq_I (S1 k1 6))]) F lk_X6_80 (ct_X6_chosenValue hk1 h1r2) ⟨Nat.le_of_ble_eq_true rfl, Nat.le_of_ble_eq_true rfl⟩ ⟨Nat.le_of_ble_eq_true rfl, Nat.le_of_ble_eq_true rfl⟩ (Nat.le_of_ble_eq_true rfl) rfl rfl (fun _ h9 => h9) rfl rfl (Nat.le_of_ble_eq_true rfl) dX6_countChoice_33 rfl ?_
    refine wq_iadd F dX6_countChoice_36 rfl ?_
    refine wq_p_X6_26 F (fun _ h9 => h9) dX6_countChoice_37 rfl ?_
    cases h
    exact wq_vret F rfl rfl dX6_countChoice_40
