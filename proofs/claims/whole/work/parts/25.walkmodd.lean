set_option maxHeartbeats 4000000 in
set_option maxRecDepth 100000 in
theorem tj_X9_dueBehind_57 {p : Program} {l : Launch} {e : Env} {s : State} {m : MethodId} {args : Array Value} {below : List Frame} {meth : Method} {c : Code} {D : va_G} {Ar : Nat → ClassId} {b : Nat} (F : wq_Fr p s m args meth c cX9_dueBehind 5 ((Option.some Jvm.ClassFile.FieldType.int)) "WharfQueryModel" D Ar) {r0 : Int} {S0 : wq_St} {kx : Int → wq_St → Option (Int × wq_St)} {rec : Int → Int → wq_St → Option (Int × wq_St)} {j1 : Int} {j2 : Int} {j3 : Int} (hkx : ∀ (u2 : Int) (S : wq_St), kx u2 S = some (r0, S0) → wq_Z p l e (wq_rm 1 0 0) s m args below meth c D (wq_EM Ar b) b 32 5 (wq_Ab b 32) (MQ below (wq_Qc D (wq_EM Ar b) b 32 (some (.int (wq_I r0))) S0) args s 0 0 (wq_Ab b 32)) 0 0 105 [none, none, some (.int (wq_I u2)), none, none] [] S) (hrec : ∀ (y2 : Int) (y3 : Int) (S : wq_St), rec y2 y3 S = some (r0, S0) → wq_Z p l e (wq_rm 1 0 0) s m args below meth c D (wq_EM Ar b) b 32 5 (wq_Ab b 32) (MQ below (wq_Qc D (wq_EM Ar b) b 32 (some (.int (wq_I r0))) S0) args s 0 0 (wq_Ab b 32)) 0 0 4 [some (.ref (b + 0)), some (.int (wq_I j1)), some (.int (wq_I y2)), some (.int (wq_I y3)), none] [] S) (z0 : Int) (S : wq_St) (h : j_X9_dueBehind_57 kx rec j1 j2 j3 z0 S = some (r0, S0)) : wq_Z p l e (wq_rm 1 0 0) s m args below meth c D (wq_EM Ar b) b 32 5 (wq_Ab b 32) (MQ below (wq_Qc D (wq_EM Ar b) b 32 (some (.int (wq_I r0))) S0) args s 0 0 (wq_Ab b 32)) 0 0 57 [some (.ref (b + 0)), some (.int (wq_I j1)), some (.int (wq_I j2)), some (.int (wq_I j3)), none] [.int (wq_I z0)] S := by
  unfold j_X9_dueBehind_57 at h
  refine wq_istore (L' := [some (.ref (b + 0)), some (.int (wq_I j1)), some (.int (wq_I j2)), some (.int (wq_I j3)), some (.int (wq_I z0))]) F dX9_dueBehind_57 (by decide) rfl rfl rfl ?_
  refine wq_aload_n F dX9_dueBehind_59 rfl rfl rfl ?_
  refine wq_g_X9_48 F dX9_dueBehind_60 rfl ?_
  refine wq_iload_n F dX9_dueBehind_63 rfl rfl rfl ?_
  obtain ⟨t1, ht1, wt1, h⟩ := wq_ix_some h
  refine wq_zald F (Nat.le_of_ble_eq_true rfl) wq_EM_due ht1 wt1 dX9_dueBehind_64 rfl ?_
  refine wq_if_eq (tgt := 97) F dX9_dueBehind_65 (by decide) rfl (fun hc => ?_) (fun hc => ?_)
  · replace h := wq_ift hc h
    refine wq_iload_n F dX9_dueBehind_97 rfl rfl rfl ?_
    refine wq_istore_n (L' := [some (.ref (b + 0)), some (.int (wq_I j1)), some (.int (wq_I j2)), some (.int (wq_I j3)), some (.int (wq_I z0))]) F dX9_dueBehind_98 rfl (by decide) rfl rfl rfl ?_
    refine wq_iinc (L' := [some (.ref (b + 0)), some (.int (wq_I j1)), some (.int (wq_I j2)), some (.int (wq_I (j3 + 1))), some (.int (wq_I z0))]) F dX9_dueBehind_99 rfl (by decide) rfl rfl rfl ?_
    refine wq_goto (tgt := 4) F dX9_dueBehind_102 (by decide) ?_
    exact wq_lsub [some (.ref (b + 0)), some (.int (wq_I j1)), some (.int (wq_I j2)), some (.int (wq_I (j3 + 1))), none] (by simp [wq_sub]) (hrec j2 (j3 + 1) S h)
  · replace h := wq_iff hc h
    refine wq_iload F dX9_dueBehind_68 rfl rfl ?_
    refine wq_if_eq (tgt := 97) F dX9_dueBehind_70 (by decide) rfl (fun hc => ?_) (fun hc => ?_)
    · replace h := wq_ift hc h
      refine wq_iload_n F dX9_dueBehind_97 rfl rfl rfl ?_
      refine wq_istore_n (L' := [some (.ref (b + 0)), some (.int (wq_I j1)), some (.int (wq_I j2)), some (.int (wq_I j3)), some (.int (wq_I z0))]) F dX9_dueBehind_98 rfl (by decide) rfl rfl rfl ?_
      refine wq_iinc (L' := [some (.ref (b + 0)), some (.int (wq_I j1)), some (.int (wq_I j2)), some (.int (wq_I (j3 + 1))), some (.int (wq_I z0))]) F dX9_dueBehind_99 rfl (by decide) rfl rfl rfl ?_
      refine wq_goto (tgt := 4) F dX9_dueBehind_102 (by decide) ?_
      exact wq_lsub [some (.ref (b + 0)), some (.int (wq_I j1)), some (.int (wq_I j2)), some (.int (wq_I (j3 + 1))), none] (by simp [wq_sub]) (hrec j2 (j3 + 1) S h)
    · replace h := wq_iff hc h
      refine wq_iload_n F dX9_dueBehind_73 rfl rfl rfl ?_
      refine wq_iconst (n := -1) F dX9_dueBehind_74 rfl ?_
      refine wq_icmp_eq (tgt := 93) F dX9_dueBehind_75 (by decide) rfl (fun hc => ?_) (fun hc => ?_)
      · replace h := wq_ift hc h
        refine wq_iload_n F dX9_dueBehind_93 rfl rfl rfl ?_
        refine wq_goto (tgt := 98) F dX9_dueBehind_94 (by decide) ?_
        refine wq_istore_n (L' := [some (.ref (b + 0)), some (.int (wq_I j1)), some (.int (wq_I j3)), some (.int (wq_I j3)), some (.int (wq_I z0))]) F dX9_dueBehind_98 rfl (by decide) rfl rfl rfl ?_
        refine wq_iinc (L' := [some (.ref (b + 0)), some (.int (wq_I j1)), some (.int (wq_I j3)), some (.int (wq_I (j3 + 1))), some (.int (wq_I z0))]) F dX9_dueBehind_99 rfl (by decide) rfl rfl rfl ?_
        refine wq_goto (tgt := 4) F dX9_dueBehind_102 (by decide) ?_
        exact wq_lsub [some (.ref (b + 0)), some (.int (wq_I j1)), some (.int (wq_I j3)), some (.int (wq_I (j3 + 1))), none] (by simp [wq_sub]) (hrec j3 (j3 + 1) S h)
      · replace h := wq_iff hc h
        refine wq_aload_n F dX9_dueBehind_78 rfl rfl rfl ?_
        refine wq_g_X9_45 F dX9_dueBehind_79 rfl ?_
        refine wq_iload_n F dX9_dueBehind_82 rfl rfl rfl ?_
        obtain ⟨t2, ht2, wt2, h⟩ := wq_ix_some h
        refine wq_iald F (Nat.le_of_ble_eq_true rfl) wq_EM_penalty ht2 wt2 dX9_dueBehind_83 rfl ?_
        refine wq_aload_n F dX9_dueBehind_84 rfl rfl rfl ?_
        refine wq_g_X9_45 F dX9_dueBehind_85 rfl ?_
        refine wq_iload_n F dX9_dueBehind_88 rfl rfl rfl ?_
        obtain ⟨t3, ht3, wt3, h⟩ := wq_ix_some h
        refine wq_iald F (Nat.le_of_ble_eq_true rfl) wq_EM_penalty ht3 wt3 dX9_dueBehind_89 rfl ?_
        refine wq_icmp_le (tgt := 97) F dX9_dueBehind_90 (by decide) rfl (fun hc => ?_) (fun hc => ?_)
        · replace h := wq_ift hc h
          refine wq_iload_n F dX9_dueBehind_97 rfl rfl rfl ?_
          refine wq_istore_n (L' := [some (.ref (b + 0)), some (.int (wq_I j1)), some (.int (wq_I j2)), some (.int (wq_I j3)), some (.int (wq_I z0))]) F dX9_dueBehind_98 rfl (by decide) rfl rfl rfl ?_
          refine wq_iinc (L' := [some (.ref (b + 0)), some (.int (wq_I j1)), some (.int (wq_I j2)), some (.int (wq_I (j3 + 1))), some (.int (wq_I z0))]) F dX9_dueBehind_99 rfl (by decide) rfl rfl rfl ?_
          refine wq_goto (tgt := 4) F dX9_dueBehind_102 (by decide) ?_
          exact wq_lsub [some (.ref (b + 0)), some (.int (wq_I j1)), some (.int (wq_I j2)), some (.int (wq_I (j3 + 1))), none] (by simp [wq_sub]) (hrec j2 (j3 + 1) S h)
        · replace h := wq_iff hc h
          refine wq_iload_n F dX9_dueBehind_93 rfl rfl rfl ?_
          refine wq_goto (tgt := 98) F dX9_dueBehind_94 (by decide) ?_
          refine wq_istore_n (L' := [some (.ref (b + 0)), some (.int (wq_I j1)), some (.int (wq_I j3)), some (.int (wq_I j3)), some (.int (wq_I z0))]) F dX9_dueBehind_98 rfl (by decide) rfl rfl rfl ?_
          refine wq_iinc (L' := [some (.ref (b + 0)), some (.int (wq_I j1)), some (.int (wq_I j3)), some (.int (wq_I (j3 + 1))), some (.int (wq_I z0))]) F dX9_dueBehind_99 rfl (by decide) rfl rfl rfl ?_
          refine wq_goto (tgt := 4) F dX9_dueBehind_102 (by decide) ?_
          exact wq_lsub [some (.ref (b + 0)), some (.int (wq_I j1)), some (.int (wq_I j3)), some (.int (wq_I (j3 + 1))), none] (by simp [wq_sub]) (hrec j3 (j3 + 1) S h)
set_option maxHeartbeats 4000000 in
set_option maxRecDepth 100000 in
theorem tj_X9_dueBehind_52 {p : Program} {l : Launch} {e : Env} {s : State} {m : MethodId} {args : Array Value} {below : List Frame} {meth : Method} {c : Code} {D : va_G} {Ar : Nat → ClassId} {b : Nat} (F : wq_Fr p s m args meth c cX9_dueBehind 5 ((Option.some Jvm.ClassFile.FieldType.int)) "WharfQueryModel" D Ar) {r0 : Int} {S0 : wq_St} {kx : Int → wq_St → Option (Int × wq_St)} {rec : Int → Int → wq_St → Option (Int × wq_St)} {j1 : Int} {j2 : Int} {j3 : Int} (hkx : ∀ (u2 : Int) (S : wq_St), kx u2 S = some (r0, S0) → wq_Z p l e (wq_rm 1 0 0) s m args below meth c D (wq_EM Ar b) b 32 5 (wq_Ab b 32) (MQ below (wq_Qc D (wq_EM Ar b) b 32 (some (.int (wq_I r0))) S0) args s 0 0 (wq_Ab b 32)) 0 0 105 [none, none, some (.int (wq_I u2)), none, none] [] S) (hrec : ∀ (y2 : Int) (y3 : Int) (S : wq_St), rec y2 y3 S = some (r0, S0) → wq_Z p l e (wq_rm 1 0 0) s m args below meth c D (wq_EM Ar b) b 32 5 (wq_Ab b 32) (MQ below (wq_Qc D (wq_EM Ar b) b 32 (some (.int (wq_I r0))) S0) args s 0 0 (wq_Ab b 32)) 0 0 4 [some (.ref (b + 0)), some (.int (wq_I j1)), some (.int (wq_I y2)), some (.int (wq_I y3)), none] [] S) (S : wq_St) (h : j_X9_dueBehind_52 kx rec j1 j2 j3 S = some (r0, S0)) : wq_Z p l e (wq_rm 1 0 0) s m args below meth c D (wq_EM Ar b) b 32 5 (wq_Ab b 32) (MQ below (wq_Qc D (wq_EM Ar b) b 32 (some (.int (wq_I r0))) S0) args s 0 0 (wq_Ab b 32)) 0 0 52 [some (.ref (b + 0)), some (.int (wq_I j1)), some (.int (wq_I j2)), some (.int (wq_I j3)), none] [] S := by
  unfold j_X9_dueBehind_52 at h
  refine wq_iconst (n := 1) F dX9_dueBehind_52 rfl ?_
  refine wq_goto (tgt := 57) F dX9_dueBehind_53 (by decide) ?_
  exact wq_lsub [some (.ref (b + 0)), some (.int (wq_I j1)), some (.int (wq_I j2)), some (.int (wq_I j3)), none] (by simp [wq_sub]) (tj_X9_dueBehind_57 F hkx hrec 1 S h)
set_option maxHeartbeats 4000000 in
set_option maxRecDepth 100000 in
theorem tj_X9_dueBehind_56 {p : Program} {l : Launch} {e : Env} {s : State} {m : MethodId} {args : Array Value} {below : List Frame} {meth : Method} {c : Code} {D : va_G} {Ar : Nat → ClassId} {b : Nat} (F : wq_Fr p s m args meth c cX9_dueBehind 5 ((Option.some Jvm.ClassFile.FieldType.int)) "WharfQueryModel" D Ar) {r0 : Int} {S0 : wq_St} {kx : Int → wq_St → Option (Int × wq_St)} {rec : Int → Int → wq_St → Option (Int × wq_St)} {j1 : Int} {j2 : Int} {j3 : Int} (hkx : ∀ (u2 : Int) (S : wq_St), kx u2 S = some (r0, S0) → wq_Z p l e (wq_rm 1 0 0) s m args below meth c D (wq_EM Ar b) b 32 5 (wq_Ab b 32) (MQ below (wq_Qc D (wq_EM Ar b) b 32 (some (.int (wq_I r0))) S0) args s 0 0 (wq_Ab b 32)) 0 0 105 [none, none, some (.int (wq_I u2)), none, none] [] S) (hrec : ∀ (y2 : Int) (y3 : Int) (S : wq_St), rec y2 y3 S = some (r0, S0) → wq_Z p l e (wq_rm 1 0 0) s m args below meth c D (wq_EM Ar b) b 32 5 (wq_Ab b 32) (MQ below (wq_Qc D (wq_EM Ar b) b 32 (some (.int (wq_I r0))) S0) args s 0 0 (wq_Ab b 32)) 0 0 4 [some (.ref (b + 0)), some (.int (wq_I j1)), some (.int (wq_I y2)), some (.int (wq_I y3)), none] [] S) (S : wq_St) (h : j_X9_dueBehind_56 kx rec j1 j2 j3 S = some (r0, S0)) : wq_Z p l e (wq_rm 1 0 0) s m args below meth c D (wq_EM Ar b) b 32 5 (wq_Ab b 32) (MQ below (wq_Qc D (wq_EM Ar b) b 32 (some (.int (wq_I r0))) S0) args s 0 0 (wq_Ab b 32)) 0 0 56 [some (.ref (b + 0)), some (.int (wq_I j1)), some (.int (wq_I j2)), some (.int (wq_I j3)), none] [] S := by
  unfold j_X9_dueBehind_56 at h
  refine wq_iconst (n := 0) F dX9_dueBehind_56 rfl ?_
  exact wq_lsub [some (.ref (b + 0)), some (.int (wq_I j1)), some (.int (wq_I j2)), some (.int (wq_I j3)), none] (by simp [wq_sub]) (tj_X9_dueBehind_57 F hkx hrec 0 S h)
set_option maxHeartbeats 4000000 in
set_option maxRecDepth 100000 in
theorem tb_X9_dueBehind_4 {p : Program} {l : Launch} {e : Env} {s : State} {m : MethodId} {args : Array Value} {below : List Frame} {meth : Method} {c : Code} {D : va_G} {Ar : Nat → ClassId} {b : Nat} (F : wq_Fr p s m args meth c cX9_dueBehind 5 ((Option.some Jvm.ClassFile.FieldType.int)) "WharfQueryModel" D Ar) {r0 : Int} {S0 : wq_St} {c1 : Int} {kx : Int → wq_St → Option (Int × wq_St)} (hkx : ∀ (u2 : Int) (S : wq_St), kx u2 S = some (r0, S0) → wq_Z p l e (wq_rm 1 0 0) s m args below meth c D (wq_EM Ar b) b 32 5 (wq_Ab b 32) (MQ below (wq_Qc D (wq_EM Ar b) b 32 (some (.int (wq_I r0))) S0) args s 0 0 (wq_Ab b 32)) 0 0 105 [none, none, some (.int (wq_I u2)), none, none] [] S) {rec : Int → Int → wq_St → Option (Int × wq_St)} (hrec : ∀ (y2 : Int) (y3 : Int) (S : wq_St), rec y2 y3 S = some (r0, S0) → wq_Z p l e (wq_rm 1 0 0) s m args below meth c D (wq_EM Ar b) b 32 5 (wq_Ab b 32) (MQ below (wq_Qc D (wq_EM Ar b) b 32 (some (.int (wq_I r0))) S0) args s 0 0 (wq_Ab b 32)) 0 0 4 [some (.ref (b + 0)), some (.int (wq_I c1)), some (.int (wq_I y2)), some (.int (wq_I y3)), none] [] S) (y2 : Int) (y3 : Int) (S : wq_St) (h : b_X9_dueBehind_4 c1 kx rec y2 y3 S = some (r0, S0)) : wq_Z p l e (wq_rm 1 0 0) s m args below meth c D (wq_EM Ar b) b 32 5 (wq_Ab b 32) (MQ below (wq_Qc D (wq_EM Ar b) b 32 (some (.int (wq_I r0))) S0) args s 0 0 (wq_Ab b 32)) 0 0 4 [some (.ref (b + 0)), some (.int (wq_I c1)), some (.int (wq_I y2)), some (.int (wq_I y3)), none] [] S := by
  unfold b_X9_dueBehind_4 at h
  refine wq_iload_n F dX9_dueBehind_4 rfl rfl rfl ?_
  refine wq_aload_n F dX9_dueBehind_5 rfl rfl rfl ?_
  refine wq_g_X9_122 F dX9_dueBehind_6 rfl ?_
  refine wq_icmp_ge (tgt := 105) F dX9_dueBehind_9 (by decide) rfl (fun hc => ?_) (fun hc => ?_)
  · replace h := wq_ift hc h
    exact wq_lsub [none, none, some (.int (wq_I y2)), none, none] (by simp [wq_sub]) (hkx y2 S h)
  · replace h := wq_iff hc h
    refine wq_iload_n F dX9_dueBehind_12 rfl rfl rfl ?_
    refine wq_iconst (n := -1) F dX9_dueBehind_13 rfl ?_
    refine wq_icmp_eq (tgt := 52) F dX9_dueBehind_14 (by decide) rfl (fun hc => ?_) (fun hc => ?_)
    · replace h := wq_ift hc h
      exact wq_lsub [some (.ref (b + 0)), some (.int (wq_I c1)), some (.int (wq_I y2)), some (.int (wq_I y3)), none] (by simp [wq_sub]) (tj_X9_dueBehind_52 F hkx hrec S h)
    · replace h := wq_iff hc h
      refine wq_aload_n F dX9_dueBehind_17 rfl rfl rfl ?_
      refine wq_g_X9_45 F dX9_dueBehind_18 rfl ?_
      refine wq_iload_n F dX9_dueBehind_21 rfl rfl rfl ?_
      obtain ⟨t4, ht4, wt4, h⟩ := wq_ix_some h
      refine wq_iald F (Nat.le_of_ble_eq_true rfl) wq_EM_penalty ht4 wt4 dX9_dueBehind_22 rfl ?_
      refine wq_aload_n F dX9_dueBehind_23 rfl rfl rfl ?_
      refine wq_g_X9_45 F dX9_dueBehind_24 rfl ?_
      refine wq_iload_n F dX9_dueBehind_27 rfl rfl rfl ?_
      obtain ⟨t5, ht5, wt5, h⟩ := wq_ix_some h
      refine wq_iald F (Nat.le_of_ble_eq_true rfl) wq_EM_penalty ht5 wt5 dX9_dueBehind_28 rfl ?_
      refine wq_icmp_lt (tgt := 52) F dX9_dueBehind_29 (by decide) rfl (fun hc => ?_) (fun hc => ?_)
      · replace h := wq_ift hc h
        exact wq_lsub [some (.ref (b + 0)), some (.int (wq_I c1)), some (.int (wq_I y2)), some (.int (wq_I y3)), none] (by simp [wq_sub]) (tj_X9_dueBehind_52 F hkx hrec S h)
      · replace h := wq_iff hc h
        refine wq_aload_n F dX9_dueBehind_32 rfl rfl rfl ?_
        refine wq_g_X9_45 F dX9_dueBehind_33 rfl ?_
        refine wq_iload_n F dX9_dueBehind_36 rfl rfl rfl ?_
        obtain ⟨t6, ht6, wt6, h⟩ := wq_ix_some h
        refine wq_iald F (Nat.le_of_ble_eq_true rfl) wq_EM_penalty ht6 wt6 dX9_dueBehind_37 rfl ?_
        refine wq_aload_n F dX9_dueBehind_38 rfl rfl rfl ?_
        refine wq_g_X9_45 F dX9_dueBehind_39 rfl ?_
        refine wq_iload_n F dX9_dueBehind_42 rfl rfl rfl ?_
        obtain ⟨t7, ht7, wt7, h⟩ := wq_ix_some h
        refine wq_iald F (Nat.le_of_ble_eq_true rfl) wq_EM_penalty ht7 wt7 dX9_dueBehind_43 rfl ?_
        refine wq_icmp_ne (tgt := 56) F dX9_dueBehind_44 (by decide) rfl (fun hc => ?_) (fun hc => ?_)
        · replace h := wq_iff hc h
          exact wq_lsub [some (.ref (b + 0)), some (.int (wq_I c1)), some (.int (wq_I y2)), some (.int (wq_I y3)), none] (by simp [wq_sub]) (tj_X9_dueBehind_56 F hkx hrec S h)
        · replace h := wq_ift hc h
          refine wq_iload_n F dX9_dueBehind_47 rfl rfl rfl ?_
          refine wq_iload_n F dX9_dueBehind_48 rfl rfl rfl ?_
          refine wq_icmp_le (tgt := 56) F dX9_dueBehind_49 (by decide) rfl (fun hc => ?_) (fun hc => ?_)
          · replace h := wq_ift hc h
            exact wq_lsub [some (.ref (b + 0)), some (.int (wq_I c1)), some (.int (wq_I y2)), some (.int (wq_I y3)), none] (by simp [wq_sub]) (tj_X9_dueBehind_56 F hkx hrec S h)
          · replace h := wq_iff hc h
            exact wq_lsub [some (.ref (b + 0)), some (.int (wq_I c1)), some (.int (wq_I y2)), some (.int (wq_I y3)), none] (by simp [wq_sub]) (tj_X9_dueBehind_52 F hkx hrec S h)
set_option maxHeartbeats 4000000 in
set_option maxRecDepth 100000 in
theorem tl_X9_dueBehind_4 {p : Program} {l : Launch} {e : Env} {s : State} {m : MethodId} {args : Array Value} {below : List Frame} {meth : Method} {c : Code} {D : va_G} {Ar : Nat → ClassId} {b : Nat} (F : wq_Fr p s m args meth c cX9_dueBehind 5 ((Option.some Jvm.ClassFile.FieldType.int)) "WharfQueryModel" D Ar) {r0 : Int} {S0 : wq_St} {c1 : Int} {kx : Int → wq_St → Option (Int × wq_St)} (hkx : ∀ (u2 : Int) (S : wq_St), kx u2 S = some (r0, S0) → wq_Z p l e (wq_rm 1 0 0) s m args below meth c D (wq_EM Ar b) b 32 5 (wq_Ab b 32) (MQ below (wq_Qc D (wq_EM Ar b) b 32 (some (.int (wq_I r0))) S0) args s 0 0 (wq_Ab b 32)) 0 0 105 [none, none, some (.int (wq_I u2)), none, none] [] S) (n : Nat) (y2 : Int) (y3 : Int) (S : wq_St) (h : l_X9_dueBehind_4 c1 kx n y2 y3 S = some (r0, S0)) : wq_Z p l e (wq_rm 1 0 0) s m args below meth c D (wq_EM Ar b) b 32 5 (wq_Ab b 32) (MQ below (wq_Qc D (wq_EM Ar b) b 32 (some (.int (wq_I r0))) S0) args s 0 0 (wq_Ab b 32)) 0 0 4 [some (.ref (b + 0)), some (.int (wq_I c1)), some (.int (wq_I y2)), some (.int (wq_I y3)), none] [] S :=
  wq_loop_ind (f := fun (g : Int × Int × wq_St → Option (Int × wq_St)) (x : Int × Int × wq_St) => b_X9_dueBehind_4 c1 kx (fun y2 y3 S => g (y2, y3, S)) x.1 x.2.1 x.2.2) (P := (fun x : Int × Int × wq_St => wq_Z p l e (wq_rm 1 0 0) s m args below meth c D (wq_EM Ar b) b 32 5 (wq_Ab b 32) (MQ below (wq_Qc D (wq_EM Ar b) b 32 (some (.int (wq_I r0))) S0) args s 0 0 (wq_Ab b 32)) 0 0 4 [some (.ref (b + 0)), some (.int (wq_I c1)), some (.int (wq_I (x.1))), some (.int (wq_I (x.2.1))), none] [] x.2.2)) (fun g hg x hx => tb_X9_dueBehind_4 F hkx (fun y2 y3 S h => hg (y2, y3, S) h) x.1 x.2.1 x.2.2 hx) n (y2, y3, S) h
set_option maxHeartbeats 4000000 in
set_option maxRecDepth 100000 in
theorem ct_X9_dueBehind {l : Launch} {D : va_G} {Ar : Nat → ClassId} {b : Nat} {x1 : Int} {S S0 : wq_St} {r0 : Int} (h : f_X9_dueBehind x1 S = some (r0, S0)) : wq_Ct l yX9_dueBehind (.code yX9_dueBehind cX9_dueBehind 5 ((Option.some Jvm.ClassFile.FieldType.int))) 1 D Ar (wq_EM Ar b) b 32 [.ref (b + 0), .int (wq_I x1)] S (some (.int (wq_I r0))) S0 := by
  refine wq_start "WharfQueryModel" [some (.ref (b + 0)), some (.int (wq_I x1)), none, none, none] (by decide +kernel) rfl (Nat.le_of_ble_eq_true rfl) rfl ?_
  intro p e s m args below meth c F
  unfold f_X9_dueBehind at h
  refine wq_iconst (n := -1) F dX9_dueBehind_0 rfl ?_
  refine wq_istore_n (L' := [some (.ref (b + 0)), some (.int (wq_I x1)), some (.int (wq_I (-1))), none, none]) F dX9_dueBehind_1 rfl (by decide) rfl rfl rfl ?_
  refine wq_iconst (n := 0) F dX9_dueBehind_2 rfl ?_
  refine wq_istore_n (L' := [some (.ref (b + 0)), some (.int (wq_I x1)), some (.int (wq_I (-1))), some (.int (wq_I 0)), none]) F dX9_dueBehind_3 rfl (by decide) rfl rfl rfl ?_
  refine wq_lsub [some (.ref (b + 0)), some (.int (wq_I x1)), some (.int (wq_I (-1))), some (.int (wq_I 0)), none] (by simp [wq_sub]) (tl_X9_dueBehind_4 F (fun u8 S9 h => ?_) wq_fu (-1) 0 S h)
  refine wq_iload_n F dX9_dueBehind_105 rfl rfl rfl ?_
  cases h
  exact wq_iret F rfl rfl dX9_dueBehind_106
set_option maxHeartbeats 4000000 in
set_option maxRecDepth 100000 in
theorem tb_X9_dusk_4 {p : Program} {l : Launch} {e : Env} {s : State} {m : MethodId} {args : Array Value} {below : List Frame} {meth : Method} {c : Code} {D : va_G} {Ar : Nat → ClassId} {b : Nat} (F : wq_Fr p s m args meth c cX9_dusk 3 ((Option.some Jvm.ClassFile.FieldType.int)) "WharfQueryModel" D Ar) {r0 : Int} {S0 : wq_St} {kx : Int → wq_St → Option (Int × wq_St)} (hkx : ∀ (u1 : Int) (S : wq_St), kx u1 S = some (r0, S0) → wq_Z p l e (wq_rm 8 0 0) s m args below meth c D (wq_EM Ar b) b 32 3 (wq_Ab b 32) (MQ below (wq_Qc D (wq_EM Ar b) b 32 (some (.int (wq_I r0))) S0) args s 0 0 (wq_Ab b 32)) 0 0 43 [some (.ref (b + 0)), some (.int (wq_I u1)), none] [] S) {rec : Int → Int → wq_St → Option (Int × wq_St)} (hrec : ∀ (y1 : Int) (y2 : Int) (S : wq_St), rec y1 y2 S = some (r0, S0) → wq_Z p l e (wq_rm 8 0 0) s m args below meth c D (wq_EM Ar b) b 32 3 (wq_Ab b 32) (MQ below (wq_Qc D (wq_EM Ar b) b 32 (some (.int (wq_I r0))) S0) args s 0 0 (wq_Ab b 32)) 0 0 4 [some (.ref (b + 0)), some (.int (wq_I y1)), some (.int (wq_I y2))] [] S) (y1 : Int) (y2 : Int) (S : wq_St) (h : b_X9_dusk_4 kx rec y1 y2 S = some (r0, S0)) : wq_Z p l e (wq_rm 8 0 0) s m args below meth c D (wq_EM Ar b) b 32 3 (wq_Ab b 32) (MQ below (wq_Qc D (wq_EM Ar b) b 32 (some (.int (wq_I r0))) S0) args s 0 0 (wq_Ab b 32)) 0 0 4 [some (.ref (b + 0)), some (.int (wq_I y1)), some (.int (wq_I y2))] [] S := by
  unfold b_X9_dusk_4 at h
  refine wq_iload_n F dX9_dusk_4 rfl rfl rfl ?_
  refine wq_aload_n F dX9_dusk_5 rfl rfl rfl ?_
  refine wq_g_X9_111 F dX9_dusk_6 rfl ?_
  refine wq_icmp_ge (tgt := 43) F dX9_dusk_9 (by decide) rfl (fun hc => ?_) (fun hc => ?_)
  · replace h := wq_ift hc h
    exact wq_lsub [some (.ref (b + 0)), some (.int (wq_I y1)), none] (by simp [wq_sub]) (hkx y1 S h)
  · replace h := wq_iff hc h
    refine wq_iload_n F dX9_dusk_12 rfl rfl rfl ?_
    refine wq_aload_n F dX9_dusk_13 rfl rfl rfl ?_
    refine wq_g_X9_38 F dX9_dusk_14 rfl ?_
    refine wq_iload_n F dX9_dusk_17 rfl rfl rfl ?_
    obtain ⟨t1, ht1, wt1, h⟩ := wq_ix_some h
    refine wq_zald F (Nat.le_of_ble_eq_true rfl) wq_EM_marked ht1 wt1 dX9_dusk_18 rfl ?_
    refine wq_if_eq (tgt := 34) F dX9_dusk_19 (by decide) rfl (fun hc => ?_) (fun hc => ?_)
    · replace h := wq_ift hc h
      refine wq_iconst (n := 0) F dX9_dusk_34 rfl ?_
      refine wq_iadd F dX9_dusk_35 rfl ?_
      refine wq_istore_n (L' := [some (.ref (b + 0)), some (.int (wq_I (y1 + 0))), some (.int (wq_I y2))]) F dX9_dusk_36 rfl (by decide) rfl rfl rfl ?_
      refine wq_iinc (L' := [some (.ref (b + 0)), some (.int (wq_I (y1 + 0))), some (.int (wq_I (y2 + 1)))]) F dX9_dusk_37 rfl (by decide) rfl rfl rfl ?_
      refine wq_goto (tgt := 4) F dX9_dusk_40 (by decide) ?_
      exact wq_lsub [some (.ref (b + 0)), some (.int (wq_I (y1 + 0))), some (.int (wq_I (y2 + 1)))] (by simp [wq_sub]) (hrec (y1 + 0) (y2 + 1) S h)
    · replace h := wq_iff hc h
      refine wq_aload_n F dX9_dusk_22 rfl rfl rfl ?_
      refine wq_iload_n F dX9_dusk_23 rfl rfl rfl ?_
      refine wq_aload_n F dX9_dusk_24 rfl rfl rfl ?_
      refine wq_g_X9_41 F dX9_dusk_25 rfl ?_
      obtain ⟨r2, S3, h1r2, h⟩ := wq_bd_some h
      refine wq_callV (As := [.int (wq_I y2), .int (wq_I (S 0 11))]) F lk_X9_163 (ct_X9_sample h1r2) ⟨Nat.le_of_ble_eq_true rfl, Nat.le_of_ble_eq_true rfl⟩ ⟨Nat.le_of_ble_eq_true rfl, Nat.le_of_ble_eq_true rfl⟩ (Nat.le_of_ble_eq_true rfl) rfl rfl (fun _ h9 => h9) rfl rfl (Nat.le_of_ble_eq_true rfl) dX9_dusk_28 rfl ?_
      refine wq_goto (tgt := 35) F dX9_dusk_31 (by decide) ?_
      refine wq_iadd F dX9_dusk_35 rfl ?_
      refine wq_istore_n (L' := [some (.ref (b + 0)), some (.int (wq_I (y1 + r2))), some (.int (wq_I y2))]) F dX9_dusk_36 rfl (by decide) rfl rfl rfl ?_
      refine wq_iinc (L' := [some (.ref (b + 0)), some (.int (wq_I (y1 + r2))), some (.int (wq_I (y2 + 1)))]) F dX9_dusk_37 rfl (by decide) rfl rfl rfl ?_
      refine wq_goto (tgt := 4) F dX9_dusk_40 (by decide) ?_
      exact wq_lsub [some (.ref (b + 0)), some (.int (wq_I (y1 + r2))), some (.int (wq_I (y2 + 1)))] (by simp [wq_sub]) (hrec (y1 + r2) (y2 + 1) S3 h)
set_option maxHeartbeats 4000000 in
set_option maxRecDepth 100000 in
theorem tl_X9_dusk_4 {p : Program} {l : Launch} {e : Env} {s : State} {m : MethodId} {args : Array Value} {below : List Frame} {meth : Method} {c : Code} {D : va_G} {Ar : Nat → ClassId} {b : Nat} (F : wq_Fr p s m args meth c cX9_dusk 3 ((Option.some Jvm.ClassFile.FieldType.int)) "WharfQueryModel" D Ar) {r0 : Int} {S0 : wq_St} {kx : Int → wq_St → Option (Int × wq_St)} (hkx : ∀ (u1 : Int) (S : wq_St), kx u1 S = some (r0, S0) → wq_Z p l e (wq_rm 8 0 0) s m args below meth c D (wq_EM Ar b) b 32 3 (wq_Ab b 32) (MQ below (wq_Qc D (wq_EM Ar b) b 32 (some (.int (wq_I r0))) S0) args s 0 0 (wq_Ab b 32)) 0 0 43 [some (.ref (b + 0)), some (.int (wq_I u1)), none] [] S) (n : Nat) (y1 : Int) (y2 : Int) (S : wq_St) (h : l_X9_dusk_4 kx n y1 y2 S = some (r0, S0)) : wq_Z p l e (wq_rm 8 0 0) s m args below meth c D (wq_EM Ar b) b 32 3 (wq_Ab b 32) (MQ below (wq_Qc D (wq_EM Ar b) b 32 (some (.int (wq_I r0))) S0) args s 0 0 (wq_Ab b 32)) 0 0 4 [some (.ref (b + 0)), some (.int (wq_I y1)), some (.int (wq_I y2))] [] S :=
  wq_loop_ind (f := fun (g : Int × Int × wq_St → Option (Int × wq_St)) (x : Int × Int × wq_St) => b_X9_dusk_4 kx (fun y1 y2 S => g (y1, y2, S)) x.1 x.2.1 x.2.2) (P := (fun x : Int × Int × wq_St => wq_Z p l e (wq_rm 8 0 0) s m args below meth c D (wq_EM Ar b) b 32 3 (wq_Ab b 32) (MQ below (wq_Qc D (wq_EM Ar b) b 32 (some (.int (wq_I r0))) S0) args s 0 0 (wq_Ab b 32)) 0 0 4 [some (.ref (b + 0)), some (.int (wq_I (x.1))), some (.int (wq_I (x.2.1)))] [] x.2.2)) (fun g hg x hx => tb_X9_dusk_4 F hkx (fun y1 y2 S h => hg (y1, y2, S) h) x.1 x.2.1 x.2.2 hx) n (y1, y2, S) h
set_option maxHeartbeats 4000000 in
set_option maxRecDepth 100000 in
theorem tb_X9_dusk_45 {p : Program} {l : Launch} {e : Env} {s : State} {m : MethodId} {args : Array Value} {below : List Frame} {meth : Method} {c : Code} {D : va_G} {Ar : Nat → ClassId} {b : Nat} (F : wq_Fr p s m args meth c cX9_dusk 3 ((Option.some Jvm.ClassFile.FieldType.int)) "WharfQueryModel" D Ar) {r0 : Int} {S0 : wq_St} {kx : Int → wq_St → Option (Int × wq_St)} (hkx : ∀ (u1 : Int) (S : wq_St), kx u1 S = some (r0, S0) → wq_Z p l e (wq_rm 8 0 0) s m args below meth c D (wq_EM Ar b) b 32 3 (wq_Ab b 32) (MQ below (wq_Qc D (wq_EM Ar b) b 32 (some (.int (wq_I r0))) S0) args s 0 0 (wq_Ab b 32)) 0 0 80 [none, some (.int (wq_I u1)), none] [] S) {rec : Int → Int → wq_St → Option (Int × wq_St)} (hrec : ∀ (y1 : Int) (y2 : Int) (S : wq_St), rec y1 y2 S = some (r0, S0) → wq_Z p l e (wq_rm 8 0 0) s m args below meth c D (wq_EM Ar b) b 32 3 (wq_Ab b 32) (MQ below (wq_Qc D (wq_EM Ar b) b 32 (some (.int (wq_I r0))) S0) args s 0 0 (wq_Ab b 32)) 0 0 45 [some (.ref (b + 0)), some (.int (wq_I y1)), some (.int (wq_I y2))] [] S) (y1 : Int) (y2 : Int) (S : wq_St) (h : b_X9_dusk_45 kx rec y1 y2 S = some (r0, S0)) : wq_Z p l e (wq_rm 8 0 0) s m args below meth c D (wq_EM Ar b) b 32 3 (wq_Ab b 32) (MQ below (wq_Qc D (wq_EM Ar b) b 32 (some (.int (wq_I r0))) S0) args s 0 0 (wq_Ab b 32)) 0 0 45 [some (.ref (b + 0)), some (.int (wq_I y1)), some (.int (wq_I y2))] [] S := by
  unfold b_X9_dusk_45 at h
  refine wq_iload_n F dX9_dusk_45 rfl rfl rfl ?_
  refine wq_aload_n F dX9_dusk_46 rfl rfl rfl ?_
  refine wq_g_X9_122 F dX9_dusk_47 rfl ?_
  refine wq_icmp_ge (tgt := 80) F dX9_dusk_50 (by decide) rfl (fun hc => ?_) (fun hc => ?_)
  · replace h := wq_ift hc h
    exact wq_lsub [none, some (.int (wq_I y1)), none] (by simp [wq_sub]) (hkx y1 S h)
  · replace h := wq_iff hc h
    refine wq_iload_n F dX9_dusk_53 rfl rfl rfl ?_
    refine wq_aload_n F dX9_dusk_54 rfl rfl rfl ?_
    refine wq_g_X9_48 F dX9_dusk_55 rfl ?_
    refine wq_iload_n F dX9_dusk_58 rfl rfl rfl ?_
    obtain ⟨t6, ht6, wt6, h⟩ := wq_ix_some h
    refine wq_zald F (Nat.le_of_ble_eq_true rfl) wq_EM_due ht6 wt6 dX9_dusk_59 rfl ?_
    refine wq_if_eq (tgt := 71) F dX9_dusk_60 (by decide) rfl (fun hc => ?_) (fun hc => ?_)
    · replace h := wq_ift hc h
      refine wq_iconst (n := 0) F dX9_dusk_71 rfl ?_
      refine wq_iadd F dX9_dusk_72 rfl ?_
      refine wq_istore_n (L' := [some (.ref (b + 0)), some (.int (wq_I (y1 + 0))), some (.int (wq_I y2))]) F dX9_dusk_73 rfl (by decide) rfl rfl rfl ?_
      refine wq_iinc (L' := [some (.ref (b + 0)), some (.int (wq_I (y1 + 0))), some (.int (wq_I (y2 + 1)))]) F dX9_dusk_74 rfl (by decide) rfl rfl rfl ?_
      refine wq_goto (tgt := 45) F dX9_dusk_77 (by decide) ?_
      exact wq_lsub [some (.ref (b + 0)), some (.int (wq_I (y1 + 0))), some (.int (wq_I (y2 + 1)))] (by simp [wq_sub]) (hrec (y1 + 0) (y2 + 1) S h)
    · replace h := wq_iff hc h
      refine wq_aload_n F dX9_dusk_63 rfl rfl rfl ?_
      refine wq_iload_n F dX9_dusk_64 rfl rfl rfl ?_
      obtain ⟨r7, S8, h1r7, h⟩ := wq_bd_some h
      refine wq_callV (As := [.int (wq_I y2)]) F lk_X9_235 (ct_X9_foretells h1r7) ⟨Nat.le_of_ble_eq_true rfl, Nat.le_of_ble_eq_true rfl⟩ ⟨Nat.le_of_ble_eq_true rfl, Nat.le_of_ble_eq_true rfl⟩ (Nat.le_of_ble_eq_true rfl) rfl rfl (fun _ h9 => h9) rfl rfl (Nat.le_of_ble_eq_true rfl) dX9_dusk_65 rfl ?_
      refine wq_goto (tgt := 72) F dX9_dusk_68 (by decide) ?_
      refine wq_iadd F dX9_dusk_72 rfl ?_
      refine wq_istore_n (L' := [some (.ref (b + 0)), some (.int (wq_I (y1 + r7))), some (.int (wq_I y2))]) F dX9_dusk_73 rfl (by decide) rfl rfl rfl ?_
      refine wq_iinc (L' := [some (.ref (b + 0)), some (.int (wq_I (y1 + r7))), some (.int (wq_I (y2 + 1)))]) F dX9_dusk_74 rfl (by decide) rfl rfl rfl ?_
      refine wq_goto (tgt := 45) F dX9_dusk_77 (by decide) ?_
      exact wq_lsub [some (.ref (b + 0)), some (.int (wq_I (y1 + r7))), some (.int (wq_I (y2 + 1)))] (by simp [wq_sub]) (hrec (y1 + r7) (y2 + 1) S8 h)
set_option maxHeartbeats 4000000 in
set_option maxRecDepth 100000 in
theorem tl_X9_dusk_45 {p : Program} {l : Launch} {e : Env} {s : State} {m : MethodId} {args : Array Value} {below : List Frame} {meth : Method} {c : Code} {D : va_G} {Ar : Nat → ClassId} {b : Nat} (F : wq_Fr p s m args meth c cX9_dusk 3 ((Option.some Jvm.ClassFile.FieldType.int)) "WharfQueryModel" D Ar) {r0 : Int} {S0 : wq_St} {kx : Int → wq_St → Option (Int × wq_St)} (hkx : ∀ (u1 : Int) (S : wq_St), kx u1 S = some (r0, S0) → wq_Z p l e (wq_rm 8 0 0) s m args below meth c D (wq_EM Ar b) b 32 3 (wq_Ab b 32) (MQ below (wq_Qc D (wq_EM Ar b) b 32 (some (.int (wq_I r0))) S0) args s 0 0 (wq_Ab b 32)) 0 0 80 [none, some (.int (wq_I u1)), none] [] S) (n : Nat) (y1 : Int) (y2 : Int) (S : wq_St) (h : l_X9_dusk_45 kx n y1 y2 S = some (r0, S0)) : wq_Z p l e (wq_rm 8 0 0) s m args below meth c D (wq_EM Ar b) b 32 3 (wq_Ab b 32) (MQ below (wq_Qc D (wq_EM Ar b) b 32 (some (.int (wq_I r0))) S0) args s 0 0 (wq_Ab b 32)) 0 0 45 [some (.ref (b + 0)), some (.int (wq_I y1)), some (.int (wq_I y2))] [] S :=
  wq_loop_ind (f := fun (g : Int × Int × wq_St → Option (Int × wq_St)) (x : Int × Int × wq_St) => b_X9_dusk_45 kx (fun y1 y2 S => g (y1, y2, S)) x.1 x.2.1 x.2.2) (P := (fun x : Int × Int × wq_St => wq_Z p l e (wq_rm 8 0 0) s m args below meth c D (wq_EM Ar b) b 32 3 (wq_Ab b 32) (MQ below (wq_Qc D (wq_EM Ar b) b 32 (some (.int (wq_I r0))) S0) args s 0 0 (wq_Ab b 32)) 0 0 45 [some (.ref (b + 0)), some (.int (wq_I (x.1))), some (.int (wq_I (x.2.1)))] [] x.2.2)) (fun g hg x hx => tb_X9_dusk_45 F hkx (fun y1 y2 S h => hg (y1, y2, S) h) x.1 x.2.1 x.2.2 hx) n (y1, y2, S) h
set_option maxHeartbeats 4000000 in
set_option maxRecDepth 100000 in
theorem ct_X9_dusk {l : Launch} {D : va_G} {Ar : Nat → ClassId} {b : Nat} {S S0 : wq_St} {r0 : Int} (h : f_X9_dusk S = some (r0, S0)) : wq_Ct l yX9_dusk (.code yX9_dusk cX9_dusk 3 ((Option.some Jvm.ClassFile.FieldType.int))) 8 D Ar (wq_EM Ar b) b 32 [.ref (b + 0)] S (some (.int (wq_I r0))) S0 := by
  refine wq_start "WharfQueryModel" [some (.ref (b + 0)), none, none] (by decide +kernel) rfl (Nat.le_of_ble_eq_true rfl) rfl ?_
  intro p e s m args below meth c F
  unfold f_X9_dusk at h
  refine wq_iconst (n := 0) F dX9_dusk_0 rfl ?_
  refine wq_istore_n (L' := [some (.ref (b + 0)), some (.int (wq_I 0)), none]) F dX9_dusk_1 rfl (by decide) rfl rfl rfl ?_
  refine wq_iconst (n := 0) F dX9_dusk_2 rfl ?_
  refine wq_istore_n (L' := [some (.ref (b + 0)), some (.int (wq_I 0)), some (.int (wq_I 0))]) F dX9_dusk_3 rfl (by decide) rfl rfl rfl ?_
  refine wq_lsub [some (.ref (b + 0)), some (.int (wq_I 0)), some (.int (wq_I 0))] (by simp [wq_sub]) (tl_X9_dusk_4 F (fun u4 S5 h => ?_) wq_fu 0 0 S h)
  refine wq_iconst (n := 0) F dX9_dusk_43 rfl ?_
  refine wq_istore_n (L' := [some (.ref (b + 0)), some (.int (wq_I u4)), some (.int (wq_I 0))]) F dX9_dusk_44 rfl (by decide) rfl rfl rfl ?_
  refine wq_lsub [some (.ref (b + 0)), some (.int (wq_I u4)), some (.int (wq_I 0))] (by simp [wq_sub]) (tl_X9_dusk_45 F (fun u9 S10 h => ?_) wq_fu u4 0 S5 h)
  refine wq_iload_n F dX9_dusk_80 rfl rfl rfl ?_
  cases h
  exact wq_iret F rfl rfl dX9_dusk_81
set_option maxHeartbeats 4000000 in
set_option maxRecDepth 100000 in
theorem tb_X9_night_57 {p : Program} {l : Launch} {e : Env} {s : State} {m : MethodId} {args : Array Value} {below : List Frame} {meth : Method} {c : Code} {D : va_G} {Ar : Nat → ClassId} {b : Nat} (F : wq_Fr p s m args meth c cX9_night 9 ((Option.some Jvm.ClassFile.FieldType.int)) "WharfQueryModel" D Ar) {r0 : Int} {S0 : wq_St} {kx : wq_St → Option (Int × wq_St)} (hkx : ∀ (S : wq_St), kx S = some (r0, S0) → wq_Z p l e (wq_rm 9 0 0) s m args below meth c D (wq_EM Ar b) b 32 9 (wq_Ab b 32) (MQ below (wq_Qc D (wq_EM Ar b) b 32 (some (.int (wq_I r0))) S0) args s 0 0 (wq_Ab b 32)) 0 0 130 [some (.ref (b + 0)), none, none, none, none, none, none, none, none] [] S) {rec : Int → wq_St → Option (Int × wq_St)} (hrec : ∀ (y2 : Int) (S : wq_St), rec y2 S = some (r0, S0) → wq_Z p l e (wq_rm 9 0 0) s m args below meth c D (wq_EM Ar b) b 32 9 (wq_Ab b 32) (MQ below (wq_Qc D (wq_EM Ar b) b 32 (some (.int (wq_I r0))) S0) args s 0 0 (wq_Ab b 32)) 0 0 57 [some (.ref (b + 0)), none, some (.int (wq_I y2)), none, none, none, none, none, none] [] S) (y2 : Int) (S : wq_St) (h : b_X9_night_57 kx rec y2 S = some (r0, S0)) : wq_Z p l e (wq_rm 9 0 0) s m args below meth c D (wq_EM Ar b) b 32 9 (wq_Ab b 32) (MQ below (wq_Qc D (wq_EM Ar b) b 32 (some (.int (wq_I r0))) S0) args s 0 0 (wq_Ab b 32)) 0 0 57 [some (.ref (b + 0)), none, some (.int (wq_I y2)), none, none, none, none, none, none] [] S := by
  unfold b_X9_night_57 at h
  refine wq_iload_n F dX9_night_57 rfl rfl rfl ?_
  refine wq_aload_n F dX9_night_58 rfl rfl rfl ?_
  refine wq_g_X9_111 F dX9_night_59 rfl ?_
  refine wq_icmp_ge (tgt := 130) F dX9_night_62 (by decide) rfl (fun hc => ?_) (fun hc => ?_)
  · replace h := wq_ift hc h
    exact wq_lsub [some (.ref (b + 0)), none, none, none, none, none, none, none, none] (by simp [wq_sub]) (hkx S h)
  · replace h := wq_iff hc h
    refine wq_aload_n F dX9_night_65 rfl rfl rfl ?_
    refine wq_g_X9_38 F dX9_night_66 rfl ?_
    refine wq_iload_n F dX9_night_69 rfl rfl rfl ?_
    obtain ⟨t9, ht9, wt9, h⟩ := wq_ix_some h
    refine wq_zald F (Nat.le_of_ble_eq_true rfl) wq_EM_marked ht9 wt9 dX9_night_70 rfl ?_
    refine wq_if_eq (tgt := 124) F dX9_night_71 (by decide) rfl (fun hc => ?_) (fun hc => ?_)
    · replace h := wq_ift hc h
      refine wq_iinc (L' := [some (.ref (b + 0)), none, some (.int (wq_I (y2 + 1))), none, none, none, none, none, none]) F dX9_night_124 rfl (by decide) rfl rfl rfl ?_
      refine wq_goto (tgt := 57) F dX9_night_127 (by decide) ?_
      exact wq_lsub [some (.ref (b + 0)), none, some (.int (wq_I (y2 + 1))), none, none, none, none, none, none] (by simp [wq_sub]) (hrec (y2 + 1) S h)
    · replace h := wq_iff hc h
      refine wq_aload_n F dX9_night_74 rfl rfl rfl ?_
      refine wq_iload_n F dX9_night_75 rfl rfl rfl ?_
      refine wq_aload_n F dX9_night_76 rfl rfl rfl ?_
      refine wq_g_X9_41 F dX9_night_77 rfl ?_
      obtain ⟨r10, S11, h1r10, h⟩ := wq_bd_some h
      refine wq_callV (As := [.int (wq_I y2), .int (wq_I (S 0 11))]) F lk_X9_163 (ct_X9_sample h1r10) ⟨Nat.le_of_ble_eq_true rfl, Nat.le_of_ble_eq_true rfl⟩ ⟨Nat.le_of_ble_eq_true rfl, Nat.le_of_ble_eq_true rfl⟩ (Nat.le_of_ble_eq_true rfl) rfl rfl (fun _ h9 => h9) rfl rfl (Nat.le_of_ble_eq_true rfl) dX9_night_80 rfl ?_
      refine wq_aload_n F dX9_night_83 rfl rfl rfl ?_
      refine wq_g_X9_257 F dX9_night_84 rfl ?_
      refine wq_icmp_gt (tgt := 124) F dX9_night_87 (by decide) rfl (fun hc => ?_) (fun hc => ?_)
      · replace h := wq_ift hc h
        refine wq_iinc (L' := [some (.ref (b + 0)), none, some (.int (wq_I (y2 + 1))), none, none, none, none, none, none]) F dX9_night_124 rfl (by decide) rfl rfl rfl ?_
        refine wq_goto (tgt := 57) F dX9_night_127 (by decide) ?_
        exact wq_lsub [some (.ref (b + 0)), none, some (.int (wq_I (y2 + 1))), none, none, none, none, none, none] (by simp [wq_sub]) (hrec (y2 + 1) S11 h)
      · replace h := wq_iff hc h
        refine wq_aload_n F dX9_night_90 rfl rfl rfl ?_
        refine wq_iload_n F dX9_night_91 rfl rfl rfl ?_
        refine wq_aload_n F dX9_night_92 rfl rfl rfl ?_
        refine wq_g_X9_41 F dX9_night_93 rfl ?_
        obtain ⟨r12, S13, h1r12, h⟩ := wq_bd_some h
        refine wq_callV (As := [.int (wq_I y2), .int (wq_I (S11 0 11))]) F lk_X9_159 (ct_X9_renews h1r12) ⟨Nat.le_of_ble_eq_true rfl, Nat.le_of_ble_eq_true rfl⟩ ⟨Nat.le_of_ble_eq_true rfl, Nat.le_of_ble_eq_true rfl⟩ (Nat.le_of_ble_eq_true rfl) rfl rfl (fun _ h9 => h9) rfl rfl (Nat.le_of_ble_eq_true rfl) dX9_night_96 rfl ?_
        refine wq_aload_n F dX9_night_99 rfl rfl rfl ?_
        refine wq_dup1 F rfl dX9_night_100 rfl ?_
        refine wq_g_X9_257 F dX9_night_101 rfl ?_
        refine wq_aload_n F dX9_night_104 rfl rfl rfl ?_
        refine wq_iload_n F dX9_night_105 rfl rfl rfl ?_
        refine wq_aload_n F dX9_night_106 rfl rfl rfl ?_
        refine wq_g_X9_41 F dX9_night_107 rfl ?_
        obtain ⟨r14, S15, h1r14, h⟩ := wq_bd_some h
        refine wq_callV (As := [.int (wq_I y2), .int (wq_I (S13 0 11))]) F lk_X9_163 (ct_X9_sample h1r14) ⟨Nat.le_of_ble_eq_true rfl, Nat.le_of_ble_eq_true rfl⟩ ⟨Nat.le_of_ble_eq_true rfl, Nat.le_of_ble_eq_true rfl⟩ (Nat.le_of_ble_eq_true rfl) rfl rfl (fun _ h9 => h9) rfl rfl (Nat.le_of_ble_eq_true rfl) dX9_night_110 rfl ?_
        refine wq_isub F dX9_night_113 rfl ?_
        refine wq_p_X9_257 F (fun _ h9 => h9) dX9_night_114 rfl ?_
        obtain ⟨S16, eS16, h⟩ := wq_lt_some h
        refine wq_namS eS16 ?_
        refine wq_aload_n F dX9_night_117 rfl rfl rfl ?_
        refine wq_g_X9_38 F dX9_night_118 rfl ?_
        refine wq_iload_n F dX9_night_121 rfl rfl rfl ?_
        refine wq_iconst (n := 0) F dX9_night_122 rfl ?_
        obtain ⟨t17, ht17, wt17, h⟩ := wq_ix_some h
        refine wq_zast F (by decide) (Nat.le_of_ble_eq_true rfl) wq_EM_marked wq_EM_marked ht17 wt17 ⟨Nat.le_add_right _ _, Nat.add_lt_add_left (Nat.le_of_ble_eq_true rfl) b⟩ dX9_night_123 rfl ?_
        obtain ⟨S18, eS18, h⟩ := wq_lt_some h
        refine wq_namS eS18 ?_
        refine wq_iinc (L' := [some (.ref (b + 0)), none, some (.int (wq_I (y2 + 1))), none, none, none, none, none, none]) F dX9_night_124 rfl (by decide) rfl rfl rfl ?_
        refine wq_goto (tgt := 57) F dX9_night_127 (by decide) ?_
        exact wq_lsub [some (.ref (b + 0)), none, some (.int (wq_I (y2 + 1))), none, none, none, none, none, none] (by simp [wq_sub]) (hrec (y2 + 1) S18 h)
set_option maxHeartbeats 4000000 in
set_option maxRecDepth 100000 in
theorem tl_X9_night_57 {p : Program} {l : Launch} {e : Env} {s : State} {m : MethodId} {args : Array Value} {below : List Frame} {meth : Method} {c : Code} {D : va_G} {Ar : Nat → ClassId} {b : Nat} (F : wq_Fr p s m args meth c cX9_night 9 ((Option.some Jvm.ClassFile.FieldType.int)) "WharfQueryModel" D Ar) {r0 : Int} {S0 : wq_St} {kx : wq_St → Option (Int × wq_St)} (hkx : ∀ (S : wq_St), kx S = some (r0, S0) → wq_Z p l e (wq_rm 9 0 0) s m args below meth c D (wq_EM Ar b) b 32 9 (wq_Ab b 32) (MQ below (wq_Qc D (wq_EM Ar b) b 32 (some (.int (wq_I r0))) S0) args s 0 0 (wq_Ab b 32)) 0 0 130 [some (.ref (b + 0)), none, none, none, none, none, none, none, none] [] S) (n : Nat) (y2 : Int) (S : wq_St) (h : l_X9_night_57 kx n y2 S = some (r0, S0)) : wq_Z p l e (wq_rm 9 0 0) s m args below meth c D (wq_EM Ar b) b 32 9 (wq_Ab b 32) (MQ below (wq_Qc D (wq_EM Ar b) b 32 (some (.int (wq_I r0))) S0) args s 0 0 (wq_Ab b 32)) 0 0 57 [some (.ref (b + 0)), none, some (.int (wq_I y2)), none, none, none, none, none, none] [] S :=
  wq_loop_ind (f := fun (g : Int × wq_St → Option (Int × wq_St)) (x : Int × wq_St) => b_X9_night_57 kx (fun y2 S => g (y2, S)) x.1 x.2) (P := (fun x : Int × wq_St => wq_Z p l e (wq_rm 9 0 0) s m args below meth c D (wq_EM Ar b) b 32 9 (wq_Ab b 32) (MQ below (wq_Qc D (wq_EM Ar b) b 32 (some (.int (wq_I r0))) S0) args s 0 0 (wq_Ab b 32)) 0 0 57 [some (.ref (b + 0)), none, some (.int (wq_I (x.1))), none, none, none, none, none, none] [] x.2)) (fun g hg x hx => tb_X9_night_57 F hkx (fun y2 S h => hg (y2, S) h) x.1 x.2 hx) n (y2, S) h
set_option maxHeartbeats 4000000 in
set_option maxRecDepth 100000 in
theorem tj_X9_night_261 {p : Program} {l : Launch} {e : Env} {s : State} {m : MethodId} {args : Array Value} {below : List Frame} {meth : Method} {c : Code} {D : va_G} {Ar : Nat → ClassId} {b : Nat} (F : wq_Fr p s m args meth c cX9_night 9 ((Option.some Jvm.ClassFile.FieldType.int)) "WharfQueryModel" D Ar) {r0 : Int} {S0 : wq_St} {kx : Int → Int → wq_St → Option (Int × wq_St)} {rec : Int → Int → Int → Int → wq_St → Option (Int × wq_St)} {j2 : Int} {j4 : Int} {j5 : Int} (hkx : ∀ (u2 : Int) (u3 : Int) (S : wq_St), kx u2 u3 S = some (r0, S0) → wq_Z p l e (wq_rm 9 0 0) s m args below meth c D (wq_EM Ar b) b 32 9 (wq_Ab b 32) (MQ below (wq_Qc D (wq_EM Ar b) b 32 (some (.int (wq_I r0))) S0) args s 0 0 (wq_Ab b 32)) 0 0 289 [some (.ref (b + 0)), none, some (.int (wq_I u2)), some (.int (wq_I u3)), none, none, none, none, none] [] S) (hrec : ∀ (y2 : Int) (y3 : Int) (y4 : Int) (y5 : Int) (S : wq_St), rec y2 y3 y4 y5 S = some (r0, S0) → wq_Z p l e (wq_rm 9 0 0) s m args below meth c D (wq_EM Ar b) b 32 9 (wq_Ab b 32) (MQ below (wq_Qc D (wq_EM Ar b) b 32 (some (.int (wq_I r0))) S0) args s 0 0 (wq_Ab b 32)) 0 0 144 [some (.ref (b + 0)), none, some (.int (wq_I y2)), some (.int (wq_I y3)), some (.int (wq_I y4)), some (.int (wq_I y5)), none, none, none] [] S) (z0 : Int) (S : wq_St) (h : j_X9_night_261 kx rec j2 j4 j5 z0 S = some (r0, S0)) : wq_Z p l e (wq_rm 9 0 0) s m args below meth c D (wq_EM Ar b) b 32 9 (wq_Ab b 32) (MQ below (wq_Qc D (wq_EM Ar b) b 32 (some (.int (wq_I r0))) S0) args s 0 0 (wq_Ab b 32)) 0 0 261 [some (.ref (b + 0)), none, some (.int (wq_I j2)), none, some (.int (wq_I j4)), some (.int (wq_I j5)), none, none, none] [.int (wq_I z0)] S := by
  unfold j_X9_night_261 at h
  refine wq_iconst (n := 1) F dX9_night_261 rfl ?_
  refine wq_iload F dX9_night_262 rfl rfl ?_
  refine wq_ishl F dX9_night_264 rfl ?_
  refine wq_goto (tgt := 269) F dX9_night_265 (by decide) ?_
  refine wq_ior F dX9_night_269 rfl ?_
  refine wq_istore_n (L' := [some (.ref (b + 0)), none, some (.int (wq_I j2)), some (.int (wq_I (wq_or z0 (wq_shl 1 j4)))), some (.int (wq_I j4)), some (.int (wq_I j5)), none, none, none]) F dX9_night_270 rfl (by decide) rfl rfl rfl ?_
  refine wq_iload_n F dX9_night_271 rfl rfl rfl ?_
  refine wq_iconst (n := 1) F dX9_night_272 rfl ?_
  refine wq_iload F dX9_night_273 rfl rfl ?_
  refine wq_ishl F dX9_night_275 rfl ?_
  refine wq_ior F dX9_night_276 rfl ?_
  refine wq_istore_n (L' := [some (.ref (b + 0)), none, some (.int (wq_I (wq_or j2 (wq_shl 1 j4)))), some (.int (wq_I (wq_or z0 (wq_shl 1 j4)))), some (.int (wq_I j4)), some (.int (wq_I j5)), none, none, none]) F dX9_night_277 rfl (by decide) rfl rfl rfl ?_
  refine wq_aload_n F dX9_night_278 rfl rfl rfl ?_
  refine wq_iload F dX9_night_279 rfl rfl ?_
  obtain ⟨r33, S34, h1r33, h⟩ := wq_bd_some h
  refine wq_callV (As := [.int (wq_I j4)]) F lk_X9_263 (ct_X9_dueBehind h1r33) ⟨Nat.le_of_ble_eq_true rfl, Nat.le_of_ble_eq_true rfl⟩ ⟨Nat.le_of_ble_eq_true rfl, Nat.le_of_ble_eq_true rfl⟩ (Nat.le_of_ble_eq_true rfl) rfl rfl (fun _ h9 => h9) rfl rfl (Nat.le_of_ble_eq_true rfl) dX9_night_281 rfl ?_
  refine wq_istore (L' := [some (.ref (b + 0)), none, some (.int (wq_I (wq_or j2 (wq_shl 1 j4)))), some (.int (wq_I (wq_or z0 (wq_shl 1 j4)))), some (.int (wq_I r33)), some (.int (wq_I j5)), none, none, none]) F dX9_night_284 (by decide) rfl rfl rfl ?_
  refine wq_goto (tgt := 144) F dX9_night_286 (by decide) ?_
  exact wq_lsub [some (.ref (b + 0)), none, some (.int (wq_I (wq_or j2 (wq_shl 1 j4)))), some (.int (wq_I (wq_or z0 (wq_shl 1 j4)))), some (.int (wq_I r33)), some (.int (wq_I j5)), none, none, none] (by simp [wq_sub]) (hrec (wq_or j2 (wq_shl 1 j4)) (wq_or z0 (wq_shl 1 j4)) r33 j5 S34 h)
set_option maxHeartbeats 4000000 in
set_option maxRecDepth 100000 in
theorem tj_X9_night_185 {p : Program} {l : Launch} {e : Env} {s : State} {m : MethodId} {args : Array Value} {below : List Frame} {meth : Method} {c : Code} {D : va_G} {Ar : Nat → ClassId} {b : Nat} (F : wq_Fr p s m args meth c cX9_night 9 ((Option.some Jvm.ClassFile.FieldType.int)) "WharfQueryModel" D Ar) {r0 : Int} {S0 : wq_St} {kx : Int → Int → wq_St → Option (Int × wq_St)} {rec : Int → Int → Int → Int → wq_St → Option (Int × wq_St)} {j2 : Int} {j3 : Int} {j4 : Int} {j6 : Int} (hkx : ∀ (u2 : Int) (u3 : Int) (S : wq_St), kx u2 u3 S = some (r0, S0) → wq_Z p l e (wq_rm 9 0 0) s m args below meth c D (wq_EM Ar b) b 32 9 (wq_Ab b 32) (MQ below (wq_Qc D (wq_EM Ar b) b 32 (some (.int (wq_I r0))) S0) args s 0 0 (wq_Ab b 32)) 0 0 289 [some (.ref (b + 0)), none, some (.int (wq_I u2)), some (.int (wq_I u3)), none, none, none, none, none] [] S) (hrec : ∀ (y2 : Int) (y3 : Int) (y4 : Int) (y5 : Int) (S : wq_St), rec y2 y3 y4 y5 S = some (r0, S0) → wq_Z p l e (wq_rm 9 0 0) s m args below meth c D (wq_EM Ar b) b 32 9 (wq_Ab b 32) (MQ below (wq_Qc D (wq_EM Ar b) b 32 (some (.int (wq_I r0))) S0) args s 0 0 (wq_Ab b 32)) 0 0 144 [some (.ref (b + 0)), none, some (.int (wq_I y2)), some (.int (wq_I y3)), some (.int (wq_I y4)), some (.int (wq_I y5)), none, none, none] [] S) (z0 : Int) (S : wq_St) (h : j_X9_night_185 kx rec j2 j3 j4 j6 z0 S = some (r0, S0)) : wq_Z p l e (wq_rm 9 0 0) s m args below meth c D (wq_EM Ar b) b 32 9 (wq_Ab b 32) (MQ below (wq_Qc D (wq_EM Ar b) b 32 (some (.int (wq_I r0))) S0) args s 0 0 (wq_Ab b 32)) 0 0 185 [some (.ref (b + 0)), none, some (.int (wq_I j2)), some (.int (wq_I j3)), some (.int (wq_I j4)), none, some (.int (wq_I j6)), none, none] [.int (wq_I z0)] S := by
  unfold j_X9_night_185 at h
  refine wq_istore (L' := [some (.ref (b + 0)), none, some (.int (wq_I j2)), some (.int (wq_I j3)), some (.int (wq_I j4)), some (.int (wq_I z0)), some (.int (wq_I j6)), none, none]) F dX9_night_185 (by decide) rfl rfl rfl ?_
  refine wq_iload F dX9_night_187 rfl rfl ?_
  refine wq_if_ne (tgt := 286) F dX9_night_189 (by decide) rfl (fun hc => ?_) (fun hc => ?_)
  · replace h := wq_iff hc h
    refine wq_goto (tgt := 144) F dX9_night_286 (by decide) ?_
    exact wq_lsub [some (.ref (b + 0)), none, some (.int (wq_I j2)), some (.int (wq_I j3)), some (.int (wq_I j4)), some (.int (wq_I z0)), none, none, none] (by simp [wq_sub]) (hrec j2 j3 j4 z0 S h)
  · replace h := wq_ift hc h
    refine wq_aload_n F dX9_night_192 rfl rfl rfl ?_
    refine wq_dup1 F rfl dX9_night_193 rfl ?_
    refine wq_g_X9_257 F dX9_night_194 rfl ?_
    refine wq_aload_n F dX9_night_197 rfl rfl rfl ?_
    refine wq_g_X9_220 F dX9_night_198 rfl ?_
    refine wq_isub F dX9_night_201 rfl ?_
    refine wq_p_X9_257 F (fun _ h9 => h9) dX9_night_202 rfl ?_
    obtain ⟨S26, eS26, h⟩ := wq_lt_some h
    refine wq_namS eS26 ?_
    refine wq_aload_n F dX9_night_205 rfl rfl rfl ?_
    refine wq_g_X9_84 F dX9_night_206 rfl ?_
    refine wq_iload F dX9_night_209 rfl rfl ?_
    refine wq_aload_n F dX9_night_211 rfl rfl rfl ?_
    refine wq_g_X9_223 F dX9_night_212 rfl ?_
    obtain ⟨t27, ht27, wt27, h⟩ := wq_ix_some h
    refine wq_iast F (Nat.le_of_ble_eq_true rfl) wq_EM_kept wq_EM_kept ht27 wt27 ⟨Nat.le_add_right _ _, Nat.add_lt_add_left (Nat.le_of_ble_eq_true rfl) b⟩ dX9_night_215 rfl ?_
    obtain ⟨S28, eS28, h⟩ := wq_lt_some h
    refine wq_namS eS28 ?_
    refine wq_aload_n F dX9_night_216 rfl rfl rfl ?_
    refine wq_g_X9_87 F dX9_night_217 rfl ?_
    refine wq_iload F dX9_night_220 rfl rfl ?_
    refine wq_aload_n F dX9_night_222 rfl rfl rfl ?_
    refine wq_g_X9_226 F dX9_night_223 rfl ?_
    obtain ⟨t29, ht29, wt29, h⟩ := wq_ix_some h
    refine wq_iast F (Nat.le_of_ble_eq_true rfl) wq_EM_keptSum wq_EM_keptSum ht29 wt29 ⟨Nat.le_add_right _ _, Nat.add_lt_add_left (Nat.le_of_ble_eq_true rfl) b⟩ dX9_night_226 rfl ?_
    obtain ⟨S30, eS30, h⟩ := wq_lt_some h
    refine wq_namS eS30 ?_
    refine wq_aload_n F dX9_night_227 rfl rfl rfl ?_
    refine wq_g_X9_90 F dX9_night_228 rfl ?_
    refine wq_iload F dX9_night_231 rfl rfl ?_
    refine wq_aload_n F dX9_night_233 rfl rfl rfl ?_
    refine wq_g_X9_250 F dX9_night_234 rfl ?_
    obtain ⟨t31, ht31, wt31, h⟩ := wq_ix_some h
    refine wq_iast F (Nat.le_of_ble_eq_true rfl) wq_EM_keptIn wq_EM_keptIn ht31 wt31 ⟨Nat.le_add_right _ _, Nat.add_lt_add_left (Nat.le_of_ble_eq_true rfl) b⟩ dX9_night_237 rfl ?_
    obtain ⟨S32, eS32, h⟩ := wq_lt_some h
    refine wq_namS eS32 ?_
    refine wq_iload_n F dX9_night_238 rfl rfl rfl ?_
    refine wq_aload_n F dX9_night_239 rfl rfl rfl ?_
    refine wq_g_X9_220 F dX9_night_240 rfl ?_
    refine wq_iconst (n := 2) F dX9_night_243 rfl ?_
    refine wq_iload F dX9_night_244 rfl rfl ?_
    refine wq_imul F dX9_night_246 rfl ?_
    refine wq_icmp_gt (tgt := 261) F dX9_night_247 (by decide) rfl (fun hc => ?_) (fun hc => ?_)
    · replace h := wq_ift hc h
      exact wq_lsub [some (.ref (b + 0)), none, some (.int (wq_I j2)), none, some (.int (wq_I j4)), some (.int (wq_I z0)), none, none, none] (by simp [wq_sub]) (tj_X9_night_261 F hkx hrec j3 S32 h)
    · replace h := wq_iff hc h
      refine wq_iload F dX9_night_250 rfl rfl ?_
      refine wq_iconst (n := 2) F dX9_night_252 rfl ?_
      refine wq_aload_n F dX9_night_253 rfl rfl rfl ?_
      refine wq_g_X9_220 F dX9_night_254 rfl ?_
      refine wq_imul F dX9_night_257 rfl ?_
      refine wq_icmp_le (tgt := 268) F dX9_night_258 (by decide) rfl (fun hc => ?_) (fun hc => ?_)
      · replace h := wq_ift hc h
        refine wq_iconst (n := 0) F dX9_night_268 rfl ?_
        refine wq_ior F dX9_night_269 rfl ?_
        refine wq_istore_n (L' := [some (.ref (b + 0)), none, some (.int (wq_I j2)), some (.int (wq_I (wq_or j3 0))), some (.int (wq_I j4)), some (.int (wq_I z0)), some (.int (wq_I j6)), none, none]) F dX9_night_270 rfl (by decide) rfl rfl rfl ?_
        refine wq_iload_n F dX9_night_271 rfl rfl rfl ?_
        refine wq_iconst (n := 1) F dX9_night_272 rfl ?_
        refine wq_iload F dX9_night_273 rfl rfl ?_
        refine wq_ishl F dX9_night_275 rfl ?_
        refine wq_ior F dX9_night_276 rfl ?_
        refine wq_istore_n (L' := [some (.ref (b + 0)), none, some (.int (wq_I (wq_or j2 (wq_shl 1 j4)))), some (.int (wq_I (wq_or j3 0))), some (.int (wq_I j4)), some (.int (wq_I z0)), some (.int (wq_I j6)), none, none]) F dX9_night_277 rfl (by decide) rfl rfl rfl ?_
        refine wq_aload_n F dX9_night_278 rfl rfl rfl ?_
        refine wq_iload F dX9_night_279 rfl rfl ?_
        obtain ⟨r35, S36, h1r35, h⟩ := wq_bd_some h
        refine wq_callV (As := [.int (wq_I j4)]) F lk_X9_263 (ct_X9_dueBehind h1r35) ⟨Nat.le_of_ble_eq_true rfl, Nat.le_of_ble_eq_true rfl⟩ ⟨Nat.le_of_ble_eq_true rfl, Nat.le_of_ble_eq_true rfl⟩ (Nat.le_of_ble_eq_true rfl) rfl rfl (fun _ h9 => h9) rfl rfl (Nat.le_of_ble_eq_true rfl) dX9_night_281 rfl ?_
        refine wq_istore (L' := [some (.ref (b + 0)), none, some (.int (wq_I (wq_or j2 (wq_shl 1 j4)))), some (.int (wq_I (wq_or j3 0))), some (.int (wq_I r35)), some (.int (wq_I z0)), some (.int (wq_I j6)), none, none]) F dX9_night_284 (by decide) rfl rfl rfl ?_
        refine wq_goto (tgt := 144) F dX9_night_286 (by decide) ?_
        exact wq_lsub [some (.ref (b + 0)), none, some (.int (wq_I (wq_or j2 (wq_shl 1 j4)))), some (.int (wq_I (wq_or j3 0))), some (.int (wq_I r35)), some (.int (wq_I z0)), none, none, none] (by simp [wq_sub]) (hrec (wq_or j2 (wq_shl 1 j4)) (wq_or j3 0) r35 z0 S36 h)
      · replace h := wq_iff hc h
        exact wq_lsub [some (.ref (b + 0)), none, some (.int (wq_I j2)), none, some (.int (wq_I j4)), some (.int (wq_I z0)), none, none, none] (by simp [wq_sub]) (tj_X9_night_261 F hkx hrec j3 S32 h)
set_option maxHeartbeats 4000000 in
set_option maxRecDepth 100000 in
theorem tb_X9_night_144 {p : Program} {l : Launch} {e : Env} {s : State} {m : MethodId} {args : Array Value} {below : List Frame} {meth : Method} {c : Code} {D : va_G} {Ar : Nat → ClassId} {b : Nat} (F : wq_Fr p s m args meth c cX9_night 9 ((Option.some Jvm.ClassFile.FieldType.int)) "WharfQueryModel" D Ar) {r0 : Int} {S0 : wq_St} {kx : Int → Int → wq_St → Option (Int × wq_St)} (hkx : ∀ (u2 : Int) (u3 : Int) (S : wq_St), kx u2 u3 S = some (r0, S0) → wq_Z p l e (wq_rm 9 0 0) s m args below meth c D (wq_EM Ar b) b 32 9 (wq_Ab b 32) (MQ below (wq_Qc D (wq_EM Ar b) b 32 (some (.int (wq_I r0))) S0) args s 0 0 (wq_Ab b 32)) 0 0 289 [some (.ref (b + 0)), none, some (.int (wq_I u2)), some (.int (wq_I u3)), none, none, none, none, none] [] S) {rec : Int → Int → Int → Int → wq_St → Option (Int × wq_St)} (hrec : ∀ (y2 : Int) (y3 : Int) (y4 : Int) (y5 : Int) (S : wq_St), rec y2 y3 y4 y5 S = some (r0, S0) → wq_Z p l e (wq_rm 9 0 0) s m args below meth c D (wq_EM Ar b) b 32 9 (wq_Ab b 32) (MQ below (wq_Qc D (wq_EM Ar b) b 32 (some (.int (wq_I r0))) S0) args s 0 0 (wq_Ab b 32)) 0 0 144 [some (.ref (b + 0)), none, some (.int (wq_I y2)), some (.int (wq_I y3)), some (.int (wq_I y4)), some (.int (wq_I y5)), none, none, none] [] S) (y2 : Int) (y3 : Int) (y4 : Int) (y5 : Int) (S : wq_St) (h : b_X9_night_144 kx rec y2 y3 y4 y5 S = some (r0, S0)) : wq_Z p l e (wq_rm 9 0 0) s m args below meth c D (wq_EM Ar b) b 32 9 (wq_Ab b 32) (MQ below (wq_Qc D (wq_EM Ar b) b 32 (some (.int (wq_I r0))) S0) args s 0 0 (wq_Ab b 32)) 0 0 144 [some (.ref (b + 0)), none, some (.int (wq_I y2)), some (.int (wq_I y3)), some (.int (wq_I y4)), some (.int (wq_I y5)), none, none, none] [] S := by
  unfold b_X9_night_144 at h
  refine wq_iload F dX9_night_144 rfl rfl ?_
  refine wq_iconst (n := -1) F dX9_night_146 rfl ?_
  refine wq_icmp_eq (tgt := 289) F dX9_night_147 (by decide) rfl (fun hc => ?_) (fun hc => ?_)
  · replace h := wq_ift hc h
    exact wq_lsub [some (.ref (b + 0)), none, some (.int (wq_I y2)), some (.int (wq_I y3)), none, none, none, none, none] (by simp [wq_sub]) (hkx y2 y3 S h)
  · replace h := wq_iff hc h
    refine wq_iload F dX9_night_150 rfl rfl ?_
    refine wq_if_ne (tgt := 289) F dX9_night_152 (by decide) rfl (fun hc => ?_) (fun hc => ?_)
    · replace h := wq_iff hc h
      exact wq_lsub [some (.ref (b + 0)), none, some (.int (wq_I y2)), some (.int (wq_I y3)), none, none, none, none, none] (by simp [wq_sub]) (hkx y2 y3 S h)
    · replace h := wq_ift hc h
      refine wq_aload_n F dX9_night_155 rfl rfl rfl ?_
      refine wq_iload F dX9_night_156 rfl rfl ?_
      obtain ⟨r22, S23, h1r22, h⟩ := wq_bd_some h
      refine wq_callV (As := [.int (wq_I y4)]) F lk_X9_235 (ct_X9_foretells h1r22) ⟨Nat.le_of_ble_eq_true rfl, Nat.le_of_ble_eq_true rfl⟩ ⟨Nat.le_of_ble_eq_true rfl, Nat.le_of_ble_eq_true rfl⟩ (Nat.le_of_ble_eq_true rfl) rfl rfl (fun _ h9 => h9) rfl rfl (Nat.le_of_ble_eq_true rfl) dX9_night_158 rfl ?_
      refine wq_istore (L' := [some (.ref (b + 0)), none, some (.int (wq_I y2)), some (.int (wq_I y3)), some (.int (wq_I y4)), some (.int (wq_I y5)), some (.int (wq_I r22)), none, none]) F dX9_night_161 (by decide) rfl rfl rfl ?_
      refine wq_aload_n F dX9_night_163 rfl rfl rfl ?_
      refine wq_iload F dX9_night_164 rfl rfl ?_
      obtain ⟨r24, S25, h1r24, h⟩ := wq_bd_some h
      refine wq_callV (As := [.int (wq_I y4)]) F lk_X9_238 (ct_X9_runs h1r24) ⟨Nat.le_of_ble_eq_true rfl, Nat.le_of_ble_eq_true rfl⟩ ⟨Nat.le_of_ble_eq_true rfl, Nat.le_of_ble_eq_true rfl⟩ (Nat.le_of_ble_eq_true rfl) rfl rfl (fun _ h9 => h9) rfl rfl (Nat.le_of_ble_eq_true rfl) dX9_night_166 rfl ?_
      refine wq_aload_n F dX9_night_169 rfl rfl rfl ?_
      refine wq_g_X9_220 F dX9_night_170 rfl ?_
      refine wq_aload_n F dX9_night_173 rfl rfl rfl ?_
      refine wq_g_X9_257 F dX9_night_174 rfl ?_
      refine wq_icmp_le (tgt := 184) F dX9_night_177 (by decide) rfl (fun hc => ?_) (fun hc => ?_)
      · replace h := wq_ift hc h
        refine wq_iconst (n := 0) F dX9_night_184 rfl ?_
        exact wq_lsub [some (.ref (b + 0)), none, some (.int (wq_I y2)), some (.int (wq_I y3)), some (.int (wq_I y4)), none, some (.int (wq_I r22)), none, none] (by simp [wq_sub]) (tj_X9_night_185 F hkx hrec 0 S25 h)
      · replace h := wq_iff hc h
        refine wq_iconst (n := 1) F dX9_night_180 rfl ?_
        refine wq_goto (tgt := 185) F dX9_night_181 (by decide) ?_
        exact wq_lsub [some (.ref (b + 0)), none, some (.int (wq_I y2)), some (.int (wq_I y3)), some (.int (wq_I y4)), none, some (.int (wq_I r22)), none, none] (by simp [wq_sub]) (tj_X9_night_185 F hkx hrec 1 S25 h)
set_option maxHeartbeats 4000000 in
set_option maxRecDepth 100000 in
theorem tl_X9_night_144 {p : Program} {l : Launch} {e : Env} {s : State} {m : MethodId} {args : Array Value} {below : List Frame} {meth : Method} {c : Code} {D : va_G} {Ar : Nat → ClassId} {b : Nat} (F : wq_Fr p s m args meth c cX9_night 9 ((Option.some Jvm.ClassFile.FieldType.int)) "WharfQueryModel" D Ar) {r0 : Int} {S0 : wq_St} {kx : Int → Int → wq_St → Option (Int × wq_St)} (hkx : ∀ (u2 : Int) (u3 : Int) (S : wq_St), kx u2 u3 S = some (r0, S0) → wq_Z p l e (wq_rm 9 0 0) s m args below meth c D (wq_EM Ar b) b 32 9 (wq_Ab b 32) (MQ below (wq_Qc D (wq_EM Ar b) b 32 (some (.int (wq_I r0))) S0) args s 0 0 (wq_Ab b 32)) 0 0 289 [some (.ref (b + 0)), none, some (.int (wq_I u2)), some (.int (wq_I u3)), none, none, none, none, none] [] S) (n : Nat) (y2 : Int) (y3 : Int) (y4 : Int) (y5 : Int) (S : wq_St) (h : l_X9_night_144 kx n y2 y3 y4 y5 S = some (r0, S0)) : wq_Z p l e (wq_rm 9 0 0) s m args below meth c D (wq_EM Ar b) b 32 9 (wq_Ab b 32) (MQ below (wq_Qc D (wq_EM Ar b) b 32 (some (.int (wq_I r0))) S0) args s 0 0 (wq_Ab b 32)) 0 0 144 [some (.ref (b + 0)), none, some (.int (wq_I y2)), some (.int (wq_I y3)), some (.int (wq_I y4)), some (.int (wq_I y5)), none, none, none] [] S :=
  wq_loop_ind (f := fun (g : Int × Int × Int × Int × wq_St → Option (Int × wq_St)) (x : Int × Int × Int × Int × wq_St) => b_X9_night_144 kx (fun y2 y3 y4 y5 S => g (y2, y3, y4, y5, S)) x.1 x.2.1 x.2.2.1 x.2.2.2.1 x.2.2.2.2) (P := (fun x : Int × Int × Int × Int × wq_St => wq_Z p l e (wq_rm 9 0 0) s m args below meth c D (wq_EM Ar b) b 32 9 (wq_Ab b 32) (MQ below (wq_Qc D (wq_EM Ar b) b 32 (some (.int (wq_I r0))) S0) args s 0 0 (wq_Ab b 32)) 0 0 144 [some (.ref (b + 0)), none, some (.int (wq_I (x.1))), some (.int (wq_I (x.2.1))), some (.int (wq_I (x.2.2.1))), some (.int (wq_I (x.2.2.2.1))), none, none, none] [] x.2.2.2.2)) (fun g hg x hx => tb_X9_night_144 F hkx (fun y2 y3 y4 y5 S h => hg (y2, y3, y4, y5, S) h) x.1 x.2.1 x.2.2.1 x.2.2.2.1 x.2.2.2.2 hx) n (y2, y3, y4, y5, S) h
set_option maxHeartbeats 4000000 in
set_option maxRecDepth 100000 in
theorem tj_X9_night_402 {p : Program} {l : Launch} {e : Env} {s : State} {m : MethodId} {args : Array Value} {below : List Frame} {meth : Method} {c : Code} {D : va_G} {Ar : Nat → ClassId} {b : Nat} (F : wq_Fr p s m args meth c cX9_night 9 ((Option.some Jvm.ClassFile.FieldType.int)) "WharfQueryModel" D Ar) {r0 : Int} {S0 : wq_St} {kx : Int → wq_St → Option (Int × wq_St)} {rec : Int → Int → wq_St → Option (Int × wq_St)} {j2 : Int} {j3 : Int} {j6 : Int} {j7 : Int} {j8 : Int} (hkx : ∀ (u6 : Int) (S : wq_St), kx u6 S = some (r0, S0) → wq_Z p l e (wq_rm 9 0 0) s m args below meth c D (wq_EM Ar b) b 32 9 (wq_Ab b 32) (MQ below (wq_Qc D (wq_EM Ar b) b 32 (some (.int (wq_I r0))) S0) args s 0 0 (wq_Ab b 32)) 0 0 435 [some (.ref (b + 0)), none, none, none, none, none, some (.int (wq_I u6)), none, none] [] S) (hrec : ∀ (y6 : Int) (y7 : Int) (S : wq_St), rec y6 y7 S = some (r0, S0) → wq_Z p l e (wq_rm 9 0 0) s m args below meth c D (wq_EM Ar b) b 32 9 (wq_Ab b 32) (MQ below (wq_Qc D (wq_EM Ar b) b 32 (some (.int (wq_I r0))) S0) args s 0 0 (wq_Ab b 32)) 0 0 295 [some (.ref (b + 0)), none, some (.int (wq_I j2)), some (.int (wq_I j3)), none, none, some (.int (wq_I y6)), some (.int (wq_I y7)), none] [] S) (S : wq_St) (h : j_X9_night_402 kx rec j2 j3 j6 j7 j8 S = some (r0, S0)) : wq_Z p l e (wq_rm 9 0 0) s m args below meth c D (wq_EM Ar b) b 32 9 (wq_Ab b 32) (MQ below (wq_Qc D (wq_EM Ar b) b 32 (some (.int (wq_I r0))) S0) args s 0 0 (wq_Ab b 32)) 0 0 402 [some (.ref (b + 0)), none, some (.int (wq_I j2)), some (.int (wq_I j3)), none, none, some (.int (wq_I j6)), some (.int (wq_I j7)), some (.int (wq_I j8))] [] S := by
  unfold j_X9_night_402 at h
  refine wq_aload_n F dX9_night_402 rfl rfl rfl ?_
  refine wq_g_X9_48 F dX9_night_403 rfl ?_
  refine wq_iload F dX9_night_406 rfl rfl ?_
  refine wq_aload_n F dX9_night_408 rfl rfl rfl ?_
  refine wq_g_X9_48 F dX9_night_409 rfl ?_
  refine wq_iload F dX9_night_412 rfl rfl ?_
  obtain ⟨t43, ht43, wt43, h⟩ := wq_ix_some h
  refine wq_zald F (Nat.le_of_ble_eq_true rfl) wq_EM_due ht43 wt43 dX9_night_414 rfl ?_
  refine wq_if_eq (tgt := 427) F dX9_night_415 (by decide) rfl (fun hc => ?_) (fun hc => ?_)
  · replace h := wq_ift hc h
    refine wq_iconst (n := 0) F dX9_night_427 rfl ?_
    obtain ⟨t44, ht44, wt44, h⟩ := wq_ix_some h
    refine wq_zast F (by decide) (Nat.le_of_ble_eq_true rfl) wq_EM_due wq_EM_due ht44 wt44 ⟨Nat.le_add_right _ _, Nat.add_lt_add_left (Nat.le_of_ble_eq_true rfl) b⟩ dX9_night_428 rfl ?_
    obtain ⟨S45, eS45, h⟩ := wq_lt_some h
    refine wq_namS eS45 ?_
    refine wq_iinc (L' := [some (.ref (b + 0)), none, some (.int (wq_I j2)), some (.int (wq_I j3)), none, none, some (.int (wq_I j6)), some (.int (wq_I (j7 + 1))), some (.int (wq_I j8))]) F dX9_night_429 rfl (by decide) rfl rfl rfl ?_
    refine wq_goto (tgt := 295) F dX9_night_432 (by decide) ?_
    exact wq_lsub [some (.ref (b + 0)), none, some (.int (wq_I j2)), some (.int (wq_I j3)), none, none, some (.int (wq_I j6)), some (.int (wq_I (j7 + 1))), none] (by simp [wq_sub]) (hrec j6 (j7 + 1) S45 h)
  · replace h := wq_iff hc h
    refine wq_iload F dX9_night_418 rfl rfl ?_
    refine wq_if_ne (tgt := 427) F dX9_night_420 (by decide) rfl (fun hc => ?_) (fun hc => ?_)
    · replace h := wq_iff hc h
      refine wq_iconst (n := 0) F dX9_night_427 rfl ?_
      obtain ⟨t46, ht46, wt46, h⟩ := wq_ix_some h
      refine wq_zast F (by decide) (Nat.le_of_ble_eq_true rfl) wq_EM_due wq_EM_due ht46 wt46 ⟨Nat.le_add_right _ _, Nat.add_lt_add_left (Nat.le_of_ble_eq_true rfl) b⟩ dX9_night_428 rfl ?_
      obtain ⟨S47, eS47, h⟩ := wq_lt_some h
      refine wq_namS eS47 ?_
      refine wq_iinc (L' := [some (.ref (b + 0)), none, some (.int (wq_I j2)), some (.int (wq_I j3)), none, none, some (.int (wq_I j6)), some (.int (wq_I (j7 + 1))), some (.int (wq_I j8))]) F dX9_night_429 rfl (by decide) rfl rfl rfl ?_
      refine wq_goto (tgt := 295) F dX9_night_432 (by decide) ?_
      exact wq_lsub [some (.ref (b + 0)), none, some (.int (wq_I j2)), some (.int (wq_I j3)), none, none, some (.int (wq_I j6)), some (.int (wq_I (j7 + 1))), none] (by simp [wq_sub]) (hrec j6 (j7 + 1) S47 h)
    · replace h := wq_ift hc h
      refine wq_iconst (n := 1) F dX9_night_423 rfl ?_
      refine wq_goto (tgt := 428) F dX9_night_424 (by decide) ?_
      obtain ⟨t48, ht48, wt48, h⟩ := wq_ix_some h
      refine wq_zast F (by decide) (Nat.le_of_ble_eq_true rfl) wq_EM_due wq_EM_due ht48 wt48 ⟨Nat.le_add_right _ _, Nat.add_lt_add_left (Nat.le_of_ble_eq_true rfl) b⟩ dX9_night_428 rfl ?_
      obtain ⟨S49, eS49, h⟩ := wq_lt_some h
      refine wq_namS eS49 ?_
      refine wq_iinc (L' := [some (.ref (b + 0)), none, some (.int (wq_I j2)), some (.int (wq_I j3)), none, none, some (.int (wq_I j6)), some (.int (wq_I (j7 + 1))), some (.int (wq_I j8))]) F dX9_night_429 rfl (by decide) rfl rfl rfl ?_
      refine wq_goto (tgt := 295) F dX9_night_432 (by decide) ?_
      exact wq_lsub [some (.ref (b + 0)), none, some (.int (wq_I j2)), some (.int (wq_I j3)), none, none, some (.int (wq_I j6)), some (.int (wq_I (j7 + 1))), none] (by simp [wq_sub]) (hrec j6 (j7 + 1) S49 h)
set_option maxHeartbeats 4000000 in
set_option maxRecDepth 100000 in
theorem tj_X9_night_396 {p : Program} {l : Launch} {e : Env} {s : State} {m : MethodId} {args : Array Value} {below : List Frame} {meth : Method} {c : Code} {D : va_G} {Ar : Nat → ClassId} {b : Nat} (F : wq_Fr p s m args meth c cX9_night 9 ((Option.some Jvm.ClassFile.FieldType.int)) "WharfQueryModel" D Ar) {r0 : Int} {S0 : wq_St} {kx : Int → wq_St → Option (Int × wq_St)} {rec : Int → Int → wq_St → Option (Int × wq_St)} {j2 : Int} {j3 : Int} {j6 : Int} {j7 : Int} {j8 : Int} (hkx : ∀ (u6 : Int) (S : wq_St), kx u6 S = some (r0, S0) → wq_Z p l e (wq_rm 9 0 0) s m args below meth c D (wq_EM Ar b) b 32 9 (wq_Ab b 32) (MQ below (wq_Qc D (wq_EM Ar b) b 32 (some (.int (wq_I r0))) S0) args s 0 0 (wq_Ab b 32)) 0 0 435 [some (.ref (b + 0)), none, none, none, none, none, some (.int (wq_I u6)), none, none] [] S) (hrec : ∀ (y6 : Int) (y7 : Int) (S : wq_St), rec y6 y7 S = some (r0, S0) → wq_Z p l e (wq_rm 9 0 0) s m args below meth c D (wq_EM Ar b) b 32 9 (wq_Ab b 32) (MQ below (wq_Qc D (wq_EM Ar b) b 32 (some (.int (wq_I r0))) S0) args s 0 0 (wq_Ab b 32)) 0 0 295 [some (.ref (b + 0)), none, some (.int (wq_I j2)), some (.int (wq_I j3)), none, none, some (.int (wq_I y6)), some (.int (wq_I y7)), none] [] S) (S : wq_St) (h : j_X9_night_396 kx rec j2 j3 j6 j7 j8 S = some (r0, S0)) : wq_Z p l e (wq_rm 9 0 0) s m args below meth c D (wq_EM Ar b) b 32 9 (wq_Ab b 32) (MQ below (wq_Qc D (wq_EM Ar b) b 32 (some (.int (wq_I r0))) S0) args s 0 0 (wq_Ab b 32)) 0 0 396 [some (.ref (b + 0)), none, some (.int (wq_I j2)), some (.int (wq_I j3)), none, none, some (.int (wq_I j6)), some (.int (wq_I j7)), some (.int (wq_I j8))] [] S := by
  unfold j_X9_night_396 at h
  refine wq_aload_n F dX9_night_396 rfl rfl rfl ?_
  refine wq_iload F dX9_night_397 rfl rfl ?_
  obtain ⟨r50, S51, h1r50, h⟩ := wq_bd_some h
  refine wq_callV (As := [.int (wq_I j7)]) F lk_X9_269 (ct_X9_marks h1r50) ⟨Nat.le_of_ble_eq_true rfl, Nat.le_of_ble_eq_true rfl⟩ ⟨Nat.le_of_ble_eq_true rfl, Nat.le_of_ble_eq_true rfl⟩ (Nat.le_of_ble_eq_true rfl) rfl rfl (fun _ h9 => h9) rfl rfl (Nat.le_of_ble_eq_true rfl) dX9_night_399 rfl ?_
  exact wq_lsub [some (.ref (b + 0)), none, some (.int (wq_I j2)), some (.int (wq_I j3)), none, none, some (.int (wq_I j6)), some (.int (wq_I j7)), some (.int (wq_I j8))] (by simp [wq_sub]) (tj_X9_night_402 F hkx hrec S51 h)
set_option maxHeartbeats 4000000 in
set_option maxRecDepth 100000 in
theorem tj_X9_night_386 {p : Program} {l : Launch} {e : Env} {s : State} {m : MethodId} {args : Array Value} {below : List Frame} {meth : Method} {c : Code} {D : va_G} {Ar : Nat → ClassId} {b : Nat} (F : wq_Fr p s m args meth c cX9_night 9 ((Option.some Jvm.ClassFile.FieldType.int)) "WharfQueryModel" D Ar) {r0 : Int} {S0 : wq_St} {kx : Int → wq_St → Option (Int × wq_St)} {rec : Int → Int → wq_St → Option (Int × wq_St)} {j2 : Int} {j3 : Int} {j6 : Int} {j7 : Int} {j8 : Int} (hkx : ∀ (u6 : Int) (S : wq_St), kx u6 S = some (r0, S0) → wq_Z p l e (wq_rm 9 0 0) s m args below meth c D (wq_EM Ar b) b 32 9 (wq_Ab b 32) (MQ below (wq_Qc D (wq_EM Ar b) b 32 (some (.int (wq_I r0))) S0) args s 0 0 (wq_Ab b 32)) 0 0 435 [some (.ref (b + 0)), none, none, none, none, none, some (.int (wq_I u6)), none, none] [] S) (hrec : ∀ (y6 : Int) (y7 : Int) (S : wq_St), rec y6 y7 S = some (r0, S0) → wq_Z p l e (wq_rm 9 0 0) s m args below meth c D (wq_EM Ar b) b 32 9 (wq_Ab b 32) (MQ below (wq_Qc D (wq_EM Ar b) b 32 (some (.int (wq_I r0))) S0) args s 0 0 (wq_Ab b 32)) 0 0 295 [some (.ref (b + 0)), none, some (.int (wq_I j2)), some (.int (wq_I j3)), none, none, some (.int (wq_I y6)), some (.int (wq_I y7)), none] [] S) (S : wq_St) (h : j_X9_night_386 kx rec j2 j3 j6 j7 j8 S = some (r0, S0)) : wq_Z p l e (wq_rm 9 0 0) s m args below meth c D (wq_EM Ar b) b 32 9 (wq_Ab b 32) (MQ below (wq_Qc D (wq_EM Ar b) b 32 (some (.int (wq_I r0))) S0) args s 0 0 (wq_Ab b 32)) 0 0 386 [some (.ref (b + 0)), none, some (.int (wq_I j2)), some (.int (wq_I j3)), none, none, some (.int (wq_I j6)), some (.int (wq_I j7)), some (.int (wq_I j8))] [] S := by
  unfold j_X9_night_386 at h
  refine wq_iload_n F dX9_night_386 rfl rfl rfl ?_
  refine wq_iload F dX9_night_387 rfl rfl ?_
  refine wq_ishr F dX9_night_389 rfl ?_
  refine wq_iconst (n := 1) F dX9_night_390 rfl ?_
  refine wq_iand F dX9_night_391 rfl ?_
  refine wq_iconst (n := 1) F dX9_night_392 rfl ?_
  refine wq_icmp_ne (tgt := 402) F dX9_night_393 (by decide) rfl (fun hc => ?_) (fun hc => ?_)
  · replace h := wq_iff hc h
    exact wq_lsub [some (.ref (b + 0)), none, some (.int (wq_I j2)), some (.int (wq_I j3)), none, none, some (.int (wq_I j6)), some (.int (wq_I j7)), some (.int (wq_I j8))] (by simp [wq_sub]) (tj_X9_night_402 F hkx hrec S h)
  · replace h := wq_ift hc h
    exact wq_lsub [some (.ref (b + 0)), none, some (.int (wq_I j2)), some (.int (wq_I j3)), none, none, some (.int (wq_I j6)), some (.int (wq_I j7)), some (.int (wq_I j8))] (by simp [wq_sub]) (tj_X9_night_396 F hkx hrec S h)
set_option maxHeartbeats 4000000 in
set_option maxRecDepth 100000 in
theorem tj_X9_night_367 {p : Program} {l : Launch} {e : Env} {s : State} {m : MethodId} {args : Array Value} {below : List Frame} {meth : Method} {c : Code} {D : va_G} {Ar : Nat → ClassId} {b : Nat} (F : wq_Fr p s m args meth c cX9_night 9 ((Option.some Jvm.ClassFile.FieldType.int)) "WharfQueryModel" D Ar) {r0 : Int} {S0 : wq_St} {kx : Int → wq_St → Option (Int × wq_St)} {rec : Int → Int → wq_St → Option (Int × wq_St)} {j2 : Int} {j3 : Int} {j6 : Int} {j7 : Int} {j8 : Int} (hkx : ∀ (u6 : Int) (S : wq_St), kx u6 S = some (r0, S0) → wq_Z p l e (wq_rm 9 0 0) s m args below meth c D (wq_EM Ar b) b 32 9 (wq_Ab b 32) (MQ below (wq_Qc D (wq_EM Ar b) b 32 (some (.int (wq_I r0))) S0) args s 0 0 (wq_Ab b 32)) 0 0 435 [some (.ref (b + 0)), none, none, none, none, none, some (.int (wq_I u6)), none, none] [] S) (hrec : ∀ (y6 : Int) (y7 : Int) (S : wq_St), rec y6 y7 S = some (r0, S0) → wq_Z p l e (wq_rm 9 0 0) s m args below meth c D (wq_EM Ar b) b 32 9 (wq_Ab b 32) (MQ below (wq_Qc D (wq_EM Ar b) b 32 (some (.int (wq_I r0))) S0) args s 0 0 (wq_Ab b 32)) 0 0 295 [some (.ref (b + 0)), none, some (.int (wq_I j2)), some (.int (wq_I j3)), none, none, some (.int (wq_I y6)), some (.int (wq_I y7)), none] [] S) (z0 : Int) (z1 : Int) (S : wq_St) (h : j_X9_night_367 kx rec j2 j3 j6 j7 j8 z0 z1 S = some (r0, S0)) : wq_Z p l e (wq_rm 9 0 0) s m args below meth c D (wq_EM Ar b) b 32 9 (wq_Ab b 32) (MQ below (wq_Qc D (wq_EM Ar b) b 32 (some (.int (wq_I r0))) S0) args s 0 0 (wq_Ab b 32)) 0 0 367 [some (.ref (b + 0)), none, some (.int (wq_I j2)), some (.int (wq_I j3)), none, none, some (.int (wq_I j6)), some (.int (wq_I j7)), some (.int (wq_I j8))] [.int (wq_I z0), .int (wq_I z1), .ref (b + 0)] S := by
  unfold j_X9_night_367 at h
  refine wq_iadd F dX9_night_367 rfl ?_
  refine wq_p_X9_266 F (fun _ h9 => h9) dX9_night_368 rfl ?_
  obtain ⟨S41, eS41, h⟩ := wq_lt_some h
  refine wq_namS eS41 ?_
  refine wq_aload_n F dX9_night_371 rfl rfl rfl ?_
  refine wq_g_X9_48 F dX9_night_372 rfl ?_
  refine wq_iload F dX9_night_375 rfl rfl ?_
  obtain ⟨t42, ht42, wt42, h⟩ := wq_ix_some h
  refine wq_zald F (Nat.le_of_ble_eq_true rfl) wq_EM_due ht42 wt42 dX9_night_377 rfl ?_
  refine wq_if_eq (tgt := 386) F dX9_night_378 (by decide) rfl (fun hc => ?_) (fun hc => ?_)
  · replace h := wq_ift hc h
    exact wq_lsub [some (.ref (b + 0)), none, some (.int (wq_I j2)), some (.int (wq_I j3)), none, none, some (.int (wq_I j6)), some (.int (wq_I j7)), some (.int (wq_I j8))] (by simp [wq_sub]) (tj_X9_night_386 F hkx hrec S41 h)
  · replace h := wq_iff hc h
    refine wq_iload F dX9_night_381 rfl rfl ?_
    refine wq_if_eq (tgt := 396) F dX9_night_383 (by decide) rfl (fun hc => ?_) (fun hc => ?_)
    · replace h := wq_ift hc h
      exact wq_lsub [some (.ref (b + 0)), none, some (.int (wq_I j2)), some (.int (wq_I j3)), none, none, some (.int (wq_I j6)), some (.int (wq_I j7)), some (.int (wq_I j8))] (by simp [wq_sub]) (tj_X9_night_396 F hkx hrec S41 h)
    · replace h := wq_iff hc h
      exact wq_lsub [some (.ref (b + 0)), none, some (.int (wq_I j2)), some (.int (wq_I j3)), none, none, some (.int (wq_I j6)), some (.int (wq_I j7)), some (.int (wq_I j8))] (by simp [wq_sub]) (tj_X9_night_386 F hkx hrec S41 h)
set_option maxHeartbeats 4000000 in
set_option maxRecDepth 100000 in
theorem tj_X9_night_366 {p : Program} {l : Launch} {e : Env} {s : State} {m : MethodId} {args : Array Value} {below : List Frame} {meth : Method} {c : Code} {D : va_G} {Ar : Nat → ClassId} {b : Nat} (F : wq_Fr p s m args meth c cX9_night 9 ((Option.some Jvm.ClassFile.FieldType.int)) "WharfQueryModel" D Ar) {r0 : Int} {S0 : wq_St} {kx : Int → wq_St → Option (Int × wq_St)} {rec : Int → Int → wq_St → Option (Int × wq_St)} {j2 : Int} {j3 : Int} {j6 : Int} {j7 : Int} {j8 : Int} (hkx : ∀ (u6 : Int) (S : wq_St), kx u6 S = some (r0, S0) → wq_Z p l e (wq_rm 9 0 0) s m args below meth c D (wq_EM Ar b) b 32 9 (wq_Ab b 32) (MQ below (wq_Qc D (wq_EM Ar b) b 32 (some (.int (wq_I r0))) S0) args s 0 0 (wq_Ab b 32)) 0 0 435 [some (.ref (b + 0)), none, none, none, none, none, some (.int (wq_I u6)), none, none] [] S) (hrec : ∀ (y6 : Int) (y7 : Int) (S : wq_St), rec y6 y7 S = some (r0, S0) → wq_Z p l e (wq_rm 9 0 0) s m args below meth c D (wq_EM Ar b) b 32 9 (wq_Ab b 32) (MQ below (wq_Qc D (wq_EM Ar b) b 32 (some (.int (wq_I r0))) S0) args s 0 0 (wq_Ab b 32)) 0 0 295 [some (.ref (b + 0)), none, some (.int (wq_I j2)), some (.int (wq_I j3)), none, none, some (.int (wq_I y6)), some (.int (wq_I y7)), none] [] S) (z0 : Int) (S : wq_St) (h : j_X9_night_366 kx rec j2 j3 j6 j7 j8 z0 S = some (r0, S0)) : wq_Z p l e (wq_rm 9 0 0) s m args below meth c D (wq_EM Ar b) b 32 9 (wq_Ab b 32) (MQ below (wq_Qc D (wq_EM Ar b) b 32 (some (.int (wq_I r0))) S0) args s 0 0 (wq_Ab b 32)) 0 0 366 [some (.ref (b + 0)), none, some (.int (wq_I j2)), some (.int (wq_I j3)), none, none, some (.int (wq_I j6)), some (.int (wq_I j7)), some (.int (wq_I j8))] [.int (wq_I z0), .ref (b + 0)] S := by
  unfold j_X9_night_366 at h
  refine wq_iconst (n := 0) F dX9_night_366 rfl ?_
  exact wq_lsub [some (.ref (b + 0)), none, some (.int (wq_I j2)), some (.int (wq_I j3)), none, none, some (.int (wq_I j6)), some (.int (wq_I j7)), some (.int (wq_I j8))] (by simp [wq_sub]) (tj_X9_night_367 F hkx hrec 0 z0 S h)
set_option maxHeartbeats 4000000 in
set_option maxRecDepth 100000 in
theorem tj_X9_night_333 {p : Program} {l : Launch} {e : Env} {s : State} {m : MethodId} {args : Array Value} {below : List Frame} {meth : Method} {c : Code} {D : va_G} {Ar : Nat → ClassId} {b : Nat} (F : wq_Fr p s m args meth c cX9_night 9 ((Option.some Jvm.ClassFile.FieldType.int)) "WharfQueryModel" D Ar) {r0 : Int} {S0 : wq_St} {kx : Int → wq_St → Option (Int × wq_St)} {rec : Int → Int → wq_St → Option (Int × wq_St)} {j2 : Int} {j3 : Int} {j7 : Int} {j8 : Int} (hkx : ∀ (u6 : Int) (S : wq_St), kx u6 S = some (r0, S0) → wq_Z p l e (wq_rm 9 0 0) s m args below meth c D (wq_EM Ar b) b 32 9 (wq_Ab b 32) (MQ below (wq_Qc D (wq_EM Ar b) b 32 (some (.int (wq_I r0))) S0) args s 0 0 (wq_Ab b 32)) 0 0 435 [some (.ref (b + 0)), none, none, none, none, none, some (.int (wq_I u6)), none, none] [] S) (hrec : ∀ (y6 : Int) (y7 : Int) (S : wq_St), rec y6 y7 S = some (r0, S0) → wq_Z p l e (wq_rm 9 0 0) s m args below meth c D (wq_EM Ar b) b 32 9 (wq_Ab b 32) (MQ below (wq_Qc D (wq_EM Ar b) b 32 (some (.int (wq_I r0))) S0) args s 0 0 (wq_Ab b 32)) 0 0 295 [some (.ref (b + 0)), none, some (.int (wq_I j2)), some (.int (wq_I j3)), none, none, some (.int (wq_I y6)), some (.int (wq_I y7)), none] [] S) (z0 : Int) (z1 : Int) (S : wq_St) (h : j_X9_night_333 kx rec j2 j3 j7 j8 z0 z1 S = some (r0, S0)) : wq_Z p l e (wq_rm 9 0 0) s m args below meth c D (wq_EM Ar b) b 32 9 (wq_Ab b 32) (MQ below (wq_Qc D (wq_EM Ar b) b 32 (some (.int (wq_I r0))) S0) args s 0 0 (wq_Ab b 32)) 0 0 333 [some (.ref (b + 0)), none, some (.int (wq_I j2)), some (.int (wq_I j3)), none, none, none, some (.int (wq_I j7)), some (.int (wq_I j8))] [.int (wq_I z0), .int (wq_I z1)] S := by
  unfold j_X9_night_333 at h
  refine wq_iadd F dX9_night_333 rfl ?_
  refine wq_istore (L' := [some (.ref (b + 0)), none, some (.int (wq_I j2)), some (.int (wq_I j3)), none, none, some (.int (wq_I (z1 + z0))), some (.int (wq_I j7)), some (.int (wq_I j8))]) F dX9_night_334 (by decide) rfl rfl rfl ?_
  refine wq_aload_n F dX9_night_336 rfl rfl rfl ?_
  refine wq_dup1 F rfl dX9_night_337 rfl ?_
  refine wq_g_X9_266 F dX9_night_338 rfl ?_
  refine wq_aload_n F dX9_night_341 rfl rfl rfl ?_
  refine wq_g_X9_48 F dX9_night_342 rfl ?_
  refine wq_iload F dX9_night_345 rfl rfl ?_
  obtain ⟨t40, ht40, wt40, h⟩ := wq_ix_some h
  refine wq_zald F (Nat.le_of_ble_eq_true rfl) wq_EM_due ht40 wt40 dX9_night_347 rfl ?_
  refine wq_if_eq (tgt := 366) F dX9_night_348 (by decide) rfl (fun hc => ?_) (fun hc => ?_)
  · replace h := wq_ift hc h
    exact wq_lsub [some (.ref (b + 0)), none, some (.int (wq_I j2)), some (.int (wq_I j3)), none, none, some (.int (wq_I (z1 + z0))), some (.int (wq_I j7)), some (.int (wq_I j8))] (by simp [wq_sub]) (tj_X9_night_366 F hkx hrec (S 0 32) S h)
  · replace h := wq_iff hc h
    refine wq_iload F dX9_night_351 rfl rfl ?_
    refine wq_if_ne (tgt := 366) F dX9_night_353 (by decide) rfl (fun hc => ?_) (fun hc => ?_)
    · replace h := wq_iff hc h
      exact wq_lsub [some (.ref (b + 0)), none, some (.int (wq_I j2)), some (.int (wq_I j3)), none, none, some (.int (wq_I (z1 + z0))), some (.int (wq_I j7)), some (.int (wq_I j8))] (by simp [wq_sub]) (tj_X9_night_366 F hkx hrec (S 0 32) S h)
    · replace h := wq_ift hc h
      refine wq_aload_n F dX9_night_356 rfl rfl rfl ?_
      refine wq_g_X9_45 F dX9_night_357 rfl ?_
      refine wq_iload F dX9_night_360 rfl rfl ?_
      obtain ⟨t52, ht52, wt52, h⟩ := wq_ix_some h
      refine wq_iald F (Nat.le_of_ble_eq_true rfl) wq_EM_penalty ht52 wt52 dX9_night_362 rfl ?_
      refine wq_goto (tgt := 367) F dX9_night_363 (by decide) ?_
      exact wq_lsub [some (.ref (b + 0)), none, some (.int (wq_I j2)), some (.int (wq_I j3)), none, none, some (.int (wq_I (z1 + z0))), some (.int (wq_I j7)), some (.int (wq_I j8))] (by simp [wq_sub]) (tj_X9_night_367 F hkx hrec (S 11 t52) (S 0 32) S h)
set_option maxHeartbeats 4000000 in
set_option maxRecDepth 100000 in
theorem tj_X9_night_319 {p : Program} {l : Launch} {e : Env} {s : State} {m : MethodId} {args : Array Value} {below : List Frame} {meth : Method} {c : Code} {D : va_G} {Ar : Nat → ClassId} {b : Nat} (F : wq_Fr p s m args meth c cX9_night 9 ((Option.some Jvm.ClassFile.FieldType.int)) "WharfQueryModel" D Ar) {r0 : Int} {S0 : wq_St} {kx : Int → wq_St → Option (Int × wq_St)} {rec : Int → Int → wq_St → Option (Int × wq_St)} {j2 : Int} {j3 : Int} {j6 : Int} {j7 : Int} (hkx : ∀ (u6 : Int) (S : wq_St), kx u6 S = some (r0, S0) → wq_Z p l e (wq_rm 9 0 0) s m args below meth c D (wq_EM Ar b) b 32 9 (wq_Ab b 32) (MQ below (wq_Qc D (wq_EM Ar b) b 32 (some (.int (wq_I r0))) S0) args s 0 0 (wq_Ab b 32)) 0 0 435 [some (.ref (b + 0)), none, none, none, none, none, some (.int (wq_I u6)), none, none] [] S) (hrec : ∀ (y6 : Int) (y7 : Int) (S : wq_St), rec y6 y7 S = some (r0, S0) → wq_Z p l e (wq_rm 9 0 0) s m args below meth c D (wq_EM Ar b) b 32 9 (wq_Ab b 32) (MQ below (wq_Qc D (wq_EM Ar b) b 32 (some (.int (wq_I r0))) S0) args s 0 0 (wq_Ab b 32)) 0 0 295 [some (.ref (b + 0)), none, some (.int (wq_I j2)), some (.int (wq_I j3)), none, none, some (.int (wq_I y6)), some (.int (wq_I y7)), none] [] S) (z0 : Int) (S : wq_St) (h : j_X9_night_319 kx rec j2 j3 j6 j7 z0 S = some (r0, S0)) : wq_Z p l e (wq_rm 9 0 0) s m args below meth c D (wq_EM Ar b) b 32 9 (wq_Ab b 32) (MQ below (wq_Qc D (wq_EM Ar b) b 32 (some (.int (wq_I r0))) S0) args s 0 0 (wq_Ab b 32)) 0 0 319 [some (.ref (b + 0)), none, some (.int (wq_I j2)), some (.int (wq_I j3)), none, none, some (.int (wq_I j6)), some (.int (wq_I j7)), none] [.int (wq_I z0)] S := by
  unfold j_X9_night_319 at h
  refine wq_istore (L' := [some (.ref (b + 0)), none, some (.int (wq_I j2)), some (.int (wq_I j3)), none, none, some (.int (wq_I j6)), some (.int (wq_I j7)), some (.int (wq_I z0))]) F dX9_night_319 (by decide) rfl rfl rfl ?_
  refine wq_iload F dX9_night_321 rfl rfl ?_
  refine wq_iload F dX9_night_323 rfl rfl ?_
  refine wq_if_eq (tgt := 332) F dX9_night_325 (by decide) rfl (fun hc => ?_) (fun hc => ?_)
  · replace h := wq_ift hc h
    refine wq_iconst (n := 0) F dX9_night_332 rfl ?_
    exact wq_lsub [some (.ref (b + 0)), none, some (.int (wq_I j2)), some (.int (wq_I j3)), none, none, none, some (.int (wq_I j7)), some (.int (wq_I z0))] (by simp [wq_sub]) (tj_X9_night_333 F hkx hrec 0 j6 S h)
  · replace h := wq_iff hc h
    refine wq_iconst (n := 1) F dX9_night_328 rfl ?_
    refine wq_goto (tgt := 333) F dX9_night_329 (by decide) ?_
    exact wq_lsub [some (.ref (b + 0)), none, some (.int (wq_I j2)), some (.int (wq_I j3)), none, none, none, some (.int (wq_I j7)), some (.int (wq_I z0))] (by simp [wq_sub]) (tj_X9_night_333 F hkx hrec 1 j6 S h)
set_option maxHeartbeats 4000000 in
set_option maxRecDepth 100000 in
theorem tb_X9_night_295 {p : Program} {l : Launch} {e : Env} {s : State} {m : MethodId} {args : Array Value} {below : List Frame} {meth : Method} {c : Code} {D : va_G} {Ar : Nat → ClassId} {b : Nat} (F : wq_Fr p s m args meth c cX9_night 9 ((Option.some Jvm.ClassFile.FieldType.int)) "WharfQueryModel" D Ar) {r0 : Int} {S0 : wq_St} {c2 : Int} {c3 : Int} {kx : Int → wq_St → Option (Int × wq_St)} (hkx : ∀ (u6 : Int) (S : wq_St), kx u6 S = some (r0, S0) → wq_Z p l e (wq_rm 9 0 0) s m args below meth c D (wq_EM Ar b) b 32 9 (wq_Ab b 32) (MQ below (wq_Qc D (wq_EM Ar b) b 32 (some (.int (wq_I r0))) S0) args s 0 0 (wq_Ab b 32)) 0 0 435 [some (.ref (b + 0)), none, none, none, none, none, some (.int (wq_I u6)), none, none] [] S) {rec : Int → Int → wq_St → Option (Int × wq_St)} (hrec : ∀ (y6 : Int) (y7 : Int) (S : wq_St), rec y6 y7 S = some (r0, S0) → wq_Z p l e (wq_rm 9 0 0) s m args below meth c D (wq_EM Ar b) b 32 9 (wq_Ab b 32) (MQ below (wq_Qc D (wq_EM Ar b) b 32 (some (.int (wq_I r0))) S0) args s 0 0 (wq_Ab b 32)) 0 0 295 [some (.ref (b + 0)), none, some (.int (wq_I c2)), some (.int (wq_I c3)), none, none, some (.int (wq_I y6)), some (.int (wq_I y7)), none] [] S) (y6 : Int) (y7 : Int) (S : wq_St) (h : b_X9_night_295 c2 c3 kx rec y6 y7 S = some (r0, S0)) : wq_Z p l e (wq_rm 9 0 0) s m args below meth c D (wq_EM Ar b) b 32 9 (wq_Ab b 32) (MQ below (wq_Qc D (wq_EM Ar b) b 32 (some (.int (wq_I r0))) S0) args s 0 0 (wq_Ab b 32)) 0 0 295 [some (.ref (b + 0)), none, some (.int (wq_I c2)), some (.int (wq_I c3)), none, none, some (.int (wq_I y6)), some (.int (wq_I y7)), none] [] S := by
  unfold b_X9_night_295 at h
  refine wq_iload F dX9_night_295 rfl rfl ?_
  refine wq_aload_n F dX9_night_297 rfl rfl rfl ?_
  refine wq_g_X9_122 F dX9_night_298 rfl ?_
  refine wq_icmp_ge (tgt := 435) F dX9_night_301 (by decide) rfl (fun hc => ?_) (fun hc => ?_)
  · replace h := wq_ift hc h
    exact wq_lsub [some (.ref (b + 0)), none, none, none, none, none, some (.int (wq_I y6)), none, none] (by simp [wq_sub]) (hkx y6 S h)
  · replace h := wq_iff hc h
    refine wq_iload_n F dX9_night_304 rfl rfl rfl ?_
    refine wq_iload F dX9_night_305 rfl rfl ?_
    refine wq_ishr F dX9_night_307 rfl ?_
    refine wq_iconst (n := 1) F dX9_night_308 rfl ?_
    refine wq_iand F dX9_night_309 rfl ?_
    refine wq_iconst (n := 1) F dX9_night_310 rfl ?_
    refine wq_icmp_ne (tgt := 318) F dX9_night_311 (by decide) rfl (fun hc => ?_) (fun hc => ?_)
    · replace h := wq_iff hc h
      refine wq_iconst (n := 0) F dX9_night_318 rfl ?_
      exact wq_lsub [some (.ref (b + 0)), none, some (.int (wq_I c2)), some (.int (wq_I c3)), none, none, some (.int (wq_I y6)), some (.int (wq_I y7)), none] (by simp [wq_sub]) (tj_X9_night_319 F hkx hrec 0 S h)
    · replace h := wq_ift hc h
      refine wq_iconst (n := 1) F dX9_night_314 rfl ?_
      refine wq_goto (tgt := 319) F dX9_night_315 (by decide) ?_
      exact wq_lsub [some (.ref (b + 0)), none, some (.int (wq_I c2)), some (.int (wq_I c3)), none, none, some (.int (wq_I y6)), some (.int (wq_I y7)), none] (by simp [wq_sub]) (tj_X9_night_319 F hkx hrec 1 S h)
set_option maxHeartbeats 4000000 in
set_option maxRecDepth 100000 in
theorem tl_X9_night_295 {p : Program} {l : Launch} {e : Env} {s : State} {m : MethodId} {args : Array Value} {below : List Frame} {meth : Method} {c : Code} {D : va_G} {Ar : Nat → ClassId} {b : Nat} (F : wq_Fr p s m args meth c cX9_night 9 ((Option.some Jvm.ClassFile.FieldType.int)) "WharfQueryModel" D Ar) {r0 : Int} {S0 : wq_St} {c2 : Int} {c3 : Int} {kx : Int → wq_St → Option (Int × wq_St)} (hkx : ∀ (u6 : Int) (S : wq_St), kx u6 S = some (r0, S0) → wq_Z p l e (wq_rm 9 0 0) s m args below meth c D (wq_EM Ar b) b 32 9 (wq_Ab b 32) (MQ below (wq_Qc D (wq_EM Ar b) b 32 (some (.int (wq_I r0))) S0) args s 0 0 (wq_Ab b 32)) 0 0 435 [some (.ref (b + 0)), none, none, none, none, none, some (.int (wq_I u6)), none, none] [] S) (n : Nat) (y6 : Int) (y7 : Int) (S : wq_St) (h : l_X9_night_295 c2 c3 kx n y6 y7 S = some (r0, S0)) : wq_Z p l e (wq_rm 9 0 0) s m args below meth c D (wq_EM Ar b) b 32 9 (wq_Ab b 32) (MQ below (wq_Qc D (wq_EM Ar b) b 32 (some (.int (wq_I r0))) S0) args s 0 0 (wq_Ab b 32)) 0 0 295 [some (.ref (b + 0)), none, some (.int (wq_I c2)), some (.int (wq_I c3)), none, none, some (.int (wq_I y6)), some (.int (wq_I y7)), none] [] S :=
  wq_loop_ind (f := fun (g : Int × Int × wq_St → Option (Int × wq_St)) (x : Int × Int × wq_St) => b_X9_night_295 c2 c3 kx (fun y6 y7 S => g (y6, y7, S)) x.1 x.2.1 x.2.2) (P := (fun x : Int × Int × wq_St => wq_Z p l e (wq_rm 9 0 0) s m args below meth c D (wq_EM Ar b) b 32 9 (wq_Ab b 32) (MQ below (wq_Qc D (wq_EM Ar b) b 32 (some (.int (wq_I r0))) S0) args s 0 0 (wq_Ab b 32)) 0 0 295 [some (.ref (b + 0)), none, some (.int (wq_I c2)), some (.int (wq_I c3)), none, none, some (.int (wq_I (x.1))), some (.int (wq_I (x.2.1))), none] [] x.2.2)) (fun g hg x hx => tb_X9_night_295 F hkx (fun y6 y7 S h => hg (y6, y7, S) h) x.1 x.2.1 x.2.2 hx) n (y6, y7, S) h
set_option maxHeartbeats 4000000 in
set_option maxRecDepth 100000 in
theorem tj_X9_night_289 {p : Program} {l : Launch} {e : Env} {s : State} {m : MethodId} {args : Array Value} {below : List Frame} {meth : Method} {c : Code} {D : va_G} {Ar : Nat → ClassId} {b : Nat} (F : wq_Fr p s m args meth c cX9_night 9 ((Option.some Jvm.ClassFile.FieldType.int)) "WharfQueryModel" D Ar) {r0 : Int} {S0 : wq_St} {j2 : Int} {j3 : Int} (S : wq_St) (h : j_X9_night_289 j2 j3 S = some (r0, S0)) : wq_Z p l e (wq_rm 9 0 0) s m args below meth c D (wq_EM Ar b) b 32 9 (wq_Ab b 32) (MQ below (wq_Qc D (wq_EM Ar b) b 32 (some (.int (wq_I r0))) S0) args s 0 0 (wq_Ab b 32)) 0 0 289 [some (.ref (b + 0)), none, some (.int (wq_I j2)), some (.int (wq_I j3)), none, none, none, none, none] [] S := by
  unfold j_X9_night_289 at h
  refine wq_iconst (n := 0) F dX9_night_289 rfl ?_
  refine wq_istore (L' := [some (.ref (b + 0)), none, some (.int (wq_I j2)), some (.int (wq_I j3)), none, none, some (.int (wq_I 0)), none, none]) F dX9_night_290 (by decide) rfl rfl rfl ?_
  refine wq_iconst (n := 0) F dX9_night_292 rfl ?_
  refine wq_istore (L' := [some (.ref (b + 0)), none, some (.int (wq_I j2)), some (.int (wq_I j3)), none, none, some (.int (wq_I 0)), some (.int (wq_I 0)), none]) F dX9_night_293 (by decide) rfl rfl rfl ?_
  refine wq_lsub [some (.ref (b + 0)), none, some (.int (wq_I j2)), some (.int (wq_I j3)), none, none, some (.int (wq_I 0)), some (.int (wq_I 0)), none] (by simp [wq_sub]) (tl_X9_night_295 F (fun u53 S54 h => ?_) wq_fu 0 0 S h)
  refine wq_aload_n F dX9_night_435 rfl rfl rfl ?_
  refine wq_dup1 F rfl dX9_night_436 rfl ?_
  refine wq_g_X9_250 F dX9_night_437 rfl ?_
  refine wq_iconst (n := 1) F dX9_night_440 rfl ?_
  refine wq_iadd F dX9_night_441 rfl ?_
  refine wq_p_X9_250 F (fun _ h9 => h9) dX9_night_442 rfl ?_
  obtain ⟨S55, eS55, h⟩ := wq_lt_some h
  refine wq_namS eS55 ?_
  refine wq_iload F dX9_night_445 rfl rfl ?_
  cases h
  exact wq_iret F rfl rfl dX9_night_447
set_option maxHeartbeats 4000000 in
set_option maxRecDepth 100000 in
theorem tj_X9_night_24 {p : Program} {l : Launch} {e : Env} {s : State} {m : MethodId} {args : Array Value} {below : List Frame} {meth : Method} {c : Code} {D : va_G} {Ar : Nat → ClassId} {b : Nat} (F : wq_Fr p s m args meth c cX9_night 9 ((Option.some Jvm.ClassFile.FieldType.int)) "WharfQueryModel" D Ar) {r0 : Int} {S0 : wq_St} {j1 : Int} (z0 : Int) (z1 : Int) (S : wq_St) (h : j_X9_night_24 j1 z0 z1 S = some (r0, S0)) : wq_Z p l e (wq_rm 9 0 0) s m args below meth c D (wq_EM Ar b) b 32 9 (wq_Ab b 32) (MQ below (wq_Qc D (wq_EM Ar b) b 32 (some (.int (wq_I r0))) S0) args s 0 0 (wq_Ab b 32)) 0 0 24 [some (.ref (b + 0)), some (.int (wq_I j1)), none, none, none, none, none, none, none] [.int (wq_I z0), .int (wq_I z1), .ref (b + 0)] S := by
  unfold j_X9_night_24 at h
  obtain ⟨r3, S4, h1r3, h⟩ := wq_bd_some h
  refine wq_callV (As := [.int (wq_I z1), .int (wq_I z0)]) F lk_X9_135 (ct_X9_asked_ h1r3) ⟨Nat.le_of_ble_eq_true rfl, Nat.le_of_ble_eq_true rfl⟩ ⟨Nat.le_of_ble_eq_true rfl, Nat.le_of_ble_eq_true rfl⟩ (Nat.le_of_ble_eq_true rfl) rfl rfl (fun _ h9 => h9) rfl rfl (Nat.le_of_ble_eq_true rfl) dX9_night_24 rfl ?_
  refine wq_if_ne (tgt := 32) F dX9_night_27 (by decide) rfl (fun hc => ?_) (fun hc => ?_)
  · replace h := wq_iff hc h
    refine wq_aload_n F dX9_night_32 rfl rfl rfl ?_
    refine wq_aload_n F dX9_night_33 rfl rfl rfl ?_
    obtain ⟨r5, S6, h1r5, h⟩ := wq_bd_some h
    refine wq_callV (As := []) F lk_X9_253 (ct_X9_dusk h1r5) ⟨Nat.le_of_ble_eq_true rfl, Nat.le_of_ble_eq_true rfl⟩ ⟨Nat.le_of_ble_eq_true rfl, Nat.le_of_ble_eq_true rfl⟩ (Nat.le_of_ble_eq_true rfl) rfl rfl (fun _ h9 => h9) rfl rfl (Nat.le_of_ble_eq_true rfl) dX9_night_34 rfl ?_
    refine wq_iload_n F dX9_night_37 rfl rfl rfl ?_
    refine wq_iadd F dX9_night_38 rfl ?_
    refine wq_p_X9_257 F (fun _ h9 => h9) dX9_night_39 rfl ?_
    obtain ⟨S7, eS7, h⟩ := wq_lt_some h
    refine wq_namS eS7 ?_
    refine wq_aload_n F dX9_night_42 rfl rfl rfl ?_
    refine wq_dup1 F rfl dX9_night_43 rfl ?_
    refine wq_g_X9_260 F dX9_night_44 rfl ?_
    refine wq_aload_n F dX9_night_47 rfl rfl rfl ?_
    refine wq_g_X9_257 F dX9_night_48 rfl ?_
    refine wq_iadd F dX9_night_51 rfl ?_
    refine wq_p_X9_260 F (fun _ h9 => h9) dX9_night_52 rfl ?_
    obtain ⟨S8, eS8, h⟩ := wq_lt_some h
    refine wq_namS eS8 ?_
    refine wq_iconst (n := 0) F dX9_night_55 rfl ?_
    refine wq_istore_n (L' := [some (.ref (b + 0)), some (.int (wq_I j1)), some (.int (wq_I 0)), none, none, none, none, none, none]) F dX9_night_56 rfl (by decide) rfl rfl rfl ?_
    refine wq_lsub [some (.ref (b + 0)), none, some (.int (wq_I 0)), none, none, none, none, none, none] (by simp [wq_sub]) (tl_X9_night_57 F (fun S19 h => ?_) wq_fu 0 S8 h)
    refine wq_iconst (n := 0) F dX9_night_130 rfl ?_
    refine wq_istore_n (L' := [some (.ref (b + 0)), none, some (.int (wq_I 0)), none, none, none, none, none, none]) F dX9_night_131 rfl (by decide) rfl rfl rfl ?_
    refine wq_iconst (n := 0) F dX9_night_132 rfl ?_
    refine wq_istore_n (L' := [some (.ref (b + 0)), none, some (.int (wq_I 0)), some (.int (wq_I 0)), none, none, none, none, none]) F dX9_night_133 rfl (by decide) rfl rfl rfl ?_
    refine wq_aload_n F dX9_night_134 rfl rfl rfl ?_
    refine wq_iconst (n := -1) F dX9_night_135 rfl ?_
    obtain ⟨r20, S21, h1r20, h⟩ := wq_bd_some h
    refine wq_callV (As := [.int (wq_I (-1))]) F lk_X9_263 (ct_X9_dueBehind h1r20) ⟨Nat.le_of_ble_eq_true rfl, Nat.le_of_ble_eq_true rfl⟩ ⟨Nat.le_of_ble_eq_true rfl, Nat.le_of_ble_eq_true rfl⟩ (Nat.le_of_ble_eq_true rfl) rfl rfl (fun _ h9 => h9) rfl rfl (Nat.le_of_ble_eq_true rfl) dX9_night_136 rfl ?_
    refine wq_istore (L' := [some (.ref (b + 0)), none, some (.int (wq_I 0)), some (.int (wq_I 0)), some (.int (wq_I r20)), none, none, none, none]) F dX9_night_139 (by decide) rfl rfl rfl ?_
    refine wq_iconst (n := 0) F dX9_night_141 rfl ?_
    refine wq_istore (L' := [some (.ref (b + 0)), none, some (.int (wq_I 0)), some (.int (wq_I 0)), some (.int (wq_I r20)), some (.int (wq_I 0)), none, none, none]) F dX9_night_142 (by decide) rfl rfl rfl ?_
    refine wq_lsub [some (.ref (b + 0)), none, some (.int (wq_I 0)), some (.int (wq_I 0)), some (.int (wq_I r20)), some (.int (wq_I 0)), none, none, none] (by simp [wq_sub]) (tl_X9_night_144 F (fun u37 u38 S39 h => ?_) wq_fu 0 0 r20 0 S21 h)
    exact wq_lsub [some (.ref (b + 0)), none, some (.int (wq_I u37)), some (.int (wq_I u38)), none, none, none, none, none] (by simp [wq_sub]) (tj_X9_night_289 F S39 h)
  · replace h := wq_ift hc h
    refine wq_iconst (n := 0) F dX9_night_30 rfl ?_
    cases h
    exact wq_iret F rfl rfl dX9_night_31
set_option maxHeartbeats 4000000 in
set_option maxRecDepth 100000 in
theorem ct_X9_night {l : Launch} {D : va_G} {Ar : Nat → ClassId} {b : Nat} {x1 : Int} {S S0 : wq_St} {r0 : Int} (h : f_X9_night x1 S = some (r0, S0)) : wq_Ct l yX9_night (.code yX9_night cX9_night 9 ((Option.some Jvm.ClassFile.FieldType.int))) 9 D Ar (wq_EM Ar b) b 32 [.ref (b + 0), .int (wq_I x1)] S (some (.int (wq_I r0))) S0 := by
  refine wq_start "WharfQueryModel" [some (.ref (b + 0)), some (.int (wq_I x1)), none, none, none, none, none, none, none] (by decide +kernel) rfl (Nat.le_of_ble_eq_true rfl) rfl ?_
  intro p e s m args below meth c F
  unfold f_X9_night at h
  refine wq_aload_n F dX9_night_0 rfl rfl rfl ?_
  refine wq_iload_n F dX9_night_1 rfl rfl rfl ?_
  refine wq_iconst (n := 0) F dX9_night_2 rfl ?_
  refine wq_sipush (n := 1000) F dX9_night_3 (by decide) rfl ?_
  obtain ⟨r1, S2, h1r1, h⟩ := wq_bd_some h
  refine wq_callS (As := [.int (wq_I x1), .int (wq_I 0), .int (wq_I 1000)]) F lk_X9_114 (ct_X9_in h1r1) ⟨Nat.le_of_ble_eq_true rfl, Nat.le_of_ble_eq_true rfl⟩ ⟨Nat.le_of_ble_eq_true rfl, Nat.le_of_ble_eq_true rfl⟩ (fun _ h9 => h9) rfl rfl (Nat.le_of_ble_eq_true rfl) dX9_night_6 rfl ?_
  refine wq_aload_n F dX9_night_9 rfl rfl rfl ?_
  refine wq_g_X9_250 F dX9_night_10 rfl ?_
  refine wq_sipush (n := 500) F dX9_night_13 (by decide) rfl ?_
  refine wq_icmp_ge (tgt := 23) F dX9_night_16 (by decide) rfl (fun hc => ?_) (fun hc => ?_)
  · replace h := wq_ift hc h
    refine wq_iconst (n := 0) F dX9_night_23 rfl ?_
    exact wq_lsub [some (.ref (b + 0)), some (.int (wq_I x1)), none, none, none, none, none, none, none] (by simp [wq_sub]) (tj_X9_night_24 F 0 r1 S2 h)
  · replace h := wq_iff hc h
    refine wq_iconst (n := 1) F dX9_night_19 rfl ?_
    refine wq_goto (tgt := 24) F dX9_night_20 (by decide) ?_
    exact wq_lsub [some (.ref (b + 0)), some (.int (wq_I x1)), none, none, none, none, none, none, none] (by simp [wq_sub]) (tj_X9_night_24 F 1 r1 S2 h)
set_option maxHeartbeats 4000000 in
set_option maxRecDepth 100000 in
theorem ct_X9_nights {l : Launch} {D : va_G} {Ar : Nat → ClassId} {b : Nat} {S S0 : wq_St} {r0 : Int} (h : f_X9_nights S = some (r0, S0)) : wq_Ct l yX9_nights (.code yX9_nights cX9_nights 1 ((Option.some Jvm.ClassFile.FieldType.int))) 2 D Ar (wq_EM Ar b) b 32 [.ref (b + 0)] S (some (.int (wq_I r0))) S0 := by
  refine wq_start "WharfQueryModel" [some (.ref (b + 0))] (by decide +kernel) rfl (Nat.le_of_ble_eq_true rfl) rfl ?_
  intro p e s m args below meth c F
  unfold f_X9_nights at h
  refine wq_aload_n F dX9_nights_0 rfl rfl rfl ?_
  refine wq_aload_n F dX9_nights_1 rfl rfl rfl ?_
  refine wq_g_X9_250 F dX9_nights_2 rfl ?_
  obtain ⟨r1, S2, h1r1, h⟩ := wq_bd_some h
  refine wq_callV (As := [.int (wq_I (S 0 29))]) F lk_X9_272 (ct_X9_told h1r1) ⟨Nat.le_of_ble_eq_true rfl, Nat.le_of_ble_eq_true rfl⟩ ⟨Nat.le_of_ble_eq_true rfl, Nat.le_of_ble_eq_true rfl⟩ (Nat.le_of_ble_eq_true rfl) rfl rfl (fun _ h9 => h9) rfl rfl (Nat.le_of_ble_eq_true rfl) dX9_nights_5 rfl ?_
  cases h
  exact wq_iret F rfl rfl dX9_nights_8
set_option maxHeartbeats 4000000 in
set_option maxRecDepth 100000 in
theorem ct_X9_paid {l : Launch} {D : va_G} {Ar : Nat → ClassId} {b : Nat} {S S0 : wq_St} {r0 : Int} (h : f_X9_paid S = some (r0, S0)) : wq_Ct l yX9_paid (.code yX9_paid cX9_paid 1 ((Option.some Jvm.ClassFile.FieldType.int))) 2 D Ar (wq_EM Ar b) b 32 [.ref (b + 0)] S (some (.int (wq_I r0))) S0 := by
  refine wq_start "WharfQueryModel" [some (.ref (b + 0))] (by decide +kernel) rfl (Nat.le_of_ble_eq_true rfl) rfl ?_
  intro p e s m args below meth c F
  unfold f_X9_paid at h
  refine wq_aload_n F dX9_paid_0 rfl rfl rfl ?_
  refine wq_aload_n F dX9_paid_1 rfl rfl rfl ?_
  refine wq_g_X9_260 F dX9_paid_2 rfl ?_
  obtain ⟨r1, S2, h1r1, h⟩ := wq_bd_some h
  refine wq_callV (As := [.int (wq_I (S 0 30))]) F lk_X9_272 (ct_X9_told h1r1) ⟨Nat.le_of_ble_eq_true rfl, Nat.le_of_ble_eq_true rfl⟩ ⟨Nat.le_of_ble_eq_true rfl, Nat.le_of_ble_eq_true rfl⟩ (Nat.le_of_ble_eq_true rfl) rfl rfl (fun _ h9 => h9) rfl rfl (Nat.le_of_ble_eq_true rfl) dX9_paid_5 rfl ?_
  cases h
  exact wq_iret F rfl rfl dX9_paid_8
set_option maxHeartbeats 4000000 in
set_option maxRecDepth 100000 in
theorem ct_X9_left {l : Launch} {D : va_G} {Ar : Nat → ClassId} {b : Nat} {S S0 : wq_St} {r0 : Int} (h : f_X9_left S = some (r0, S0)) : wq_Ct l yX9_left (.code yX9_left cX9_left 1 ((Option.some Jvm.ClassFile.FieldType.int))) 2 D Ar (wq_EM Ar b) b 32 [.ref (b + 0)] S (some (.int (wq_I r0))) S0 := by
  refine wq_start "WharfQueryModel" [some (.ref (b + 0))] (by decide +kernel) rfl (Nat.le_of_ble_eq_true rfl) rfl ?_
  intro p e s m args below meth c F
  unfold f_X9_left at h
  refine wq_aload_n F dX9_left_0 rfl rfl rfl ?_
  refine wq_aload_n F dX9_left_1 rfl rfl rfl ?_
  refine wq_g_X9_257 F dX9_left_2 rfl ?_
  obtain ⟨r1, S2, h1r1, h⟩ := wq_bd_some h
  refine wq_callV (As := [.int (wq_I (S 0 31))]) F lk_X9_272 (ct_X9_told h1r1) ⟨Nat.le_of_ble_eq_true rfl, Nat.le_of_ble_eq_true rfl⟩ ⟨Nat.le_of_ble_eq_true rfl, Nat.le_of_ble_eq_true rfl⟩ (Nat.le_of_ble_eq_true rfl) rfl rfl (fun _ h9 => h9) rfl rfl (Nat.le_of_ble_eq_true rfl) dX9_left_5 rfl ?_
  cases h
  exact wq_iret F rfl rfl dX9_left_8
set_option maxHeartbeats 4000000 in
set_option maxRecDepth 100000 in
theorem ct_X9_owed {l : Launch} {D : va_G} {Ar : Nat → ClassId} {b : Nat} {S S0 : wq_St} {r0 : Int} (h : f_X9_owed S = some (r0, S0)) : wq_Ct l yX9_owed (.code yX9_owed cX9_owed 1 ((Option.some Jvm.ClassFile.FieldType.int))) 2 D Ar (wq_EM Ar b) b 32 [.ref (b + 0)] S (some (.int (wq_I r0))) S0 := by
  refine wq_start "WharfQueryModel" [some (.ref (b + 0))] (by decide +kernel) rfl (Nat.le_of_ble_eq_true rfl) rfl ?_
  intro p e s m args below meth c F
  unfold f_X9_owed at h
  refine wq_aload_n F dX9_owed_0 rfl rfl rfl ?_
  refine wq_aload_n F dX9_owed_1 rfl rfl rfl ?_
  refine wq_g_X9_266 F dX9_owed_2 rfl ?_
  obtain ⟨r1, S2, h1r1, h⟩ := wq_bd_some h
  refine wq_callV (As := [.int (wq_I (S 0 32))]) F lk_X9_272 (ct_X9_told h1r1) ⟨Nat.le_of_ble_eq_true rfl, Nat.le_of_ble_eq_true rfl⟩ ⟨Nat.le_of_ble_eq_true rfl, Nat.le_of_ble_eq_true rfl⟩ (Nat.le_of_ble_eq_true rfl) rfl rfl (fun _ h9 => h9) rfl rfl (Nat.le_of_ble_eq_true rfl) dX9_owed_5 rfl ?_
  cases h
  exact wq_iret F rfl rfl dX9_owed_8
set_option maxHeartbeats 4000000 in
set_option maxRecDepth 100000 in
theorem ct_X9_kept {l : Launch} {D : va_G} {Ar : Nat → ClassId} {b : Nat} {x1 : Int} {S S0 : wq_St} {r0 : Int} (h : f_X9_kept x1 S = some (r0, S0)) : wq_Ct l yX9_kept (.code yX9_kept cX9_kept 2 ((Option.some Jvm.ClassFile.FieldType.int))) 3 D Ar (wq_EM Ar b) b 32 [.ref (b + 0), .int (wq_I x1)] S (some (.int (wq_I r0))) S0 := by
  refine wq_start "WharfQueryModel" [some (.ref (b + 0)), some (.int (wq_I x1))] (by decide +kernel) rfl (Nat.le_of_ble_eq_true rfl) rfl ?_
  intro p e s m args below meth c F
  unfold f_X9_kept at h
  refine wq_aload_n F dX9_kept_0 rfl rfl rfl ?_
  refine wq_aload_n F dX9_kept_1 rfl rfl rfl ?_
  refine wq_iload_n F dX9_kept_2 rfl rfl rfl ?_
  obtain ⟨r1, S2, h1r1, h⟩ := wq_bd_some h
  refine wq_callV (As := [.int (wq_I x1)]) F lk_X9_125 (ct_X9_isReport h1r1) ⟨Nat.le_of_ble_eq_true rfl, Nat.le_of_ble_eq_true rfl⟩ ⟨Nat.le_of_ble_eq_true rfl, Nat.le_of_ble_eq_true rfl⟩ (Nat.le_of_ble_eq_true rfl) rfl rfl (fun _ h9 => h9) rfl rfl (Nat.le_of_ble_eq_true rfl) dX9_kept_3 rfl ?_
  obtain ⟨r3, S4, h1r3, h⟩ := wq_bd_some h
  refine wq_callV (As := [.int (wq_I r1)]) F lk_X9_145 (ct_X9_asked h1r3) ⟨Nat.le_of_ble_eq_true rfl, Nat.le_of_ble_eq_true rfl⟩ ⟨Nat.le_of_ble_eq_true rfl, Nat.le_of_ble_eq_true rfl⟩ (Nat.le_of_ble_eq_true rfl) rfl rfl (fun _ h9 => h9) rfl rfl (Nat.le_of_ble_eq_true rfl) dX9_kept_6 rfl ?_
  refine wq_if_eq (tgt := 21) F dX9_kept_9 (by decide) rfl (fun hc => ?_) (fun hc => ?_)
  · replace h := wq_ift hc h
    refine wq_iconst (n := 0) F dX9_kept_21 rfl ?_
    cases h
    exact wq_iret F rfl rfl dX9_kept_22
  · replace h := wq_iff hc h
    refine wq_aload_n F dX9_kept_12 rfl rfl rfl ?_
    refine wq_g_X9_84 F dX9_kept_13 rfl ?_
    refine wq_iload_n F dX9_kept_16 rfl rfl rfl ?_
    obtain ⟨t5, ht5, wt5, h⟩ := wq_ix_some h
    refine wq_iald F (Nat.le_of_ble_eq_true rfl) wq_EM_kept ht5 wt5 dX9_kept_17 rfl ?_
    refine wq_goto (tgt := 22) F dX9_kept_18 (by decide) ?_
    cases h
    exact wq_iret F rfl rfl dX9_kept_22
set_option maxHeartbeats 4000000 in
set_option maxRecDepth 100000 in
theorem ct_X9_keptSum {l : Launch} {D : va_G} {Ar : Nat → ClassId} {b : Nat} {x1 : Int} {S S0 : wq_St} {r0 : Int} (h : f_X9_keptSum x1 S = some (r0, S0)) : wq_Ct l yX9_keptSum (.code yX9_keptSum cX9_keptSum 2 ((Option.some Jvm.ClassFile.FieldType.int))) 3 D Ar (wq_EM Ar b) b 32 [.ref (b + 0), .int (wq_I x1)] S (some (.int (wq_I r0))) S0 := by
  refine wq_start "WharfQueryModel" [some (.ref (b + 0)), some (.int (wq_I x1))] (by decide +kernel) rfl (Nat.le_of_ble_eq_true rfl) rfl ?_
  intro p e s m args below meth c F
  unfold f_X9_keptSum at h
  refine wq_aload_n F dX9_keptSum_0 rfl rfl rfl ?_
  refine wq_aload_n F dX9_keptSum_1 rfl rfl rfl ?_
  refine wq_iload_n F dX9_keptSum_2 rfl rfl rfl ?_
  obtain ⟨r1, S2, h1r1, h⟩ := wq_bd_some h
  refine wq_callV (As := [.int (wq_I x1)]) F lk_X9_125 (ct_X9_isReport h1r1) ⟨Nat.le_of_ble_eq_true rfl, Nat.le_of_ble_eq_true rfl⟩ ⟨Nat.le_of_ble_eq_true rfl, Nat.le_of_ble_eq_true rfl⟩ (Nat.le_of_ble_eq_true rfl) rfl rfl (fun _ h9 => h9) rfl rfl (Nat.le_of_ble_eq_true rfl) dX9_keptSum_3 rfl ?_
  obtain ⟨r3, S4, h1r3, h⟩ := wq_bd_some h
  refine wq_callV (As := [.int (wq_I r1)]) F lk_X9_145 (ct_X9_asked h1r3) ⟨Nat.le_of_ble_eq_true rfl, Nat.le_of_ble_eq_true rfl⟩ ⟨Nat.le_of_ble_eq_true rfl, Nat.le_of_ble_eq_true rfl⟩ (Nat.le_of_ble_eq_true rfl) rfl rfl (fun _ h9 => h9) rfl rfl (Nat.le_of_ble_eq_true rfl) dX9_keptSum_6 rfl ?_
  refine wq_if_eq (tgt := 21) F dX9_keptSum_9 (by decide) rfl (fun hc => ?_) (fun hc => ?_)
  · replace h := wq_ift hc h
    refine wq_iconst (n := 0) F dX9_keptSum_21 rfl ?_
    cases h
    exact wq_iret F rfl rfl dX9_keptSum_22
  · replace h := wq_iff hc h
    refine wq_aload_n F dX9_keptSum_12 rfl rfl rfl ?_
    refine wq_g_X9_87 F dX9_keptSum_13 rfl ?_
    refine wq_iload_n F dX9_keptSum_16 rfl rfl rfl ?_
    obtain ⟨t5, ht5, wt5, h⟩ := wq_ix_some h
    refine wq_iald F (Nat.le_of_ble_eq_true rfl) wq_EM_keptSum ht5 wt5 dX9_keptSum_17 rfl ?_
    refine wq_goto (tgt := 22) F dX9_keptSum_18 (by decide) ?_
    cases h
    exact wq_iret F rfl rfl dX9_keptSum_22
set_option maxHeartbeats 4000000 in
set_option maxRecDepth 100000 in
theorem ct_X9_keptIn {l : Launch} {D : va_G} {Ar : Nat → ClassId} {b : Nat} {x1 : Int} {S S0 : wq_St} {r0 : Int} (h : f_X9_keptIn x1 S = some (r0, S0)) : wq_Ct l yX9_keptIn (.code yX9_keptIn cX9_keptIn 2 ((Option.some Jvm.ClassFile.FieldType.int))) 3 D Ar (wq_EM Ar b) b 32 [.ref (b + 0), .int (wq_I x1)] S (some (.int (wq_I r0))) S0 := by
  refine wq_start "WharfQueryModel" [some (.ref (b + 0)), some (.int (wq_I x1))] (by decide +kernel) rfl (Nat.le_of_ble_eq_true rfl) rfl ?_
  intro p e s m args below meth c F
  unfold f_X9_keptIn at h
  refine wq_aload_n F dX9_keptIn_0 rfl rfl rfl ?_
  refine wq_aload_n F dX9_keptIn_1 rfl rfl rfl ?_
  refine wq_iload_n F dX9_keptIn_2 rfl rfl rfl ?_
  obtain ⟨r1, S2, h1r1, h⟩ := wq_bd_some h
  refine wq_callV (As := [.int (wq_I x1)]) F lk_X9_125 (ct_X9_isReport h1r1) ⟨Nat.le_of_ble_eq_true rfl, Nat.le_of_ble_eq_true rfl⟩ ⟨Nat.le_of_ble_eq_true rfl, Nat.le_of_ble_eq_true rfl⟩ (Nat.le_of_ble_eq_true rfl) rfl rfl (fun _ h9 => h9) rfl rfl (Nat.le_of_ble_eq_true rfl) dX9_keptIn_3 rfl ?_
  obtain ⟨r3, S4, h1r3, h⟩ := wq_bd_some h
  refine wq_callV (As := [.int (wq_I r1)]) F lk_X9_145 (ct_X9_asked h1r3) ⟨Nat.le_of_ble_eq_true rfl, Nat.le_of_ble_eq_true rfl⟩ ⟨Nat.le_of_ble_eq_true rfl, Nat.le_of_ble_eq_true rfl⟩ (Nat.le_of_ble_eq_true rfl) rfl rfl (fun _ h9 => h9) rfl rfl (Nat.le_of_ble_eq_true rfl) dX9_keptIn_6 rfl ?_
  refine wq_if_eq (tgt := 21) F dX9_keptIn_9 (by decide) rfl (fun hc => ?_) (fun hc => ?_)
  · replace h := wq_ift hc h
    refine wq_iconst (n := 0) F dX9_keptIn_21 rfl ?_
    cases h
    exact wq_iret F rfl rfl dX9_keptIn_22
  · replace h := wq_iff hc h
    refine wq_aload_n F dX9_keptIn_12 rfl rfl rfl ?_
    refine wq_g_X9_90 F dX9_keptIn_13 rfl ?_
    refine wq_iload_n F dX9_keptIn_16 rfl rfl rfl ?_
    obtain ⟨t5, ht5, wt5, h⟩ := wq_ix_some h
    refine wq_iald F (Nat.le_of_ble_eq_true rfl) wq_EM_keptIn ht5 wt5 dX9_keptIn_17 rfl ?_
    refine wq_goto (tgt := 22) F dX9_keptIn_18 (by decide) ?_
    cases h
    exact wq_iret F rfl rfl dX9_keptIn_22
