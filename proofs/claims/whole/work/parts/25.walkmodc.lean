set_option maxHeartbeats 4000000 in
set_option maxRecDepth 100000 in
theorem tj_X9_triesWays_110 {p : Program} {l : Launch} {e : Env} {s : State} {m : MethodId} {args : Array Value} {below : List Frame} {meth : Method} {c : Code} {D : va_G} {Ar : Nat → ClassId} {b : Nat} (F : wq_Fr p s m args meth c cX9_triesWays 9 ((Option.none : Option Jvm.ClassFile.FieldType)) "WharfQueryModel" D Ar) {r0 : Int} {S0 : wq_St} {kx : wq_St → Option (Int × wq_St)} {rec : Int → wq_St → Option (Int × wq_St)} {j1 : Int} {j2 : Int} {j3 : Int} {j4 : Int} {j5 : Int} {j6 : Int} (hkx : ∀ (S : wq_St), kx S = some (r0, S0) → wq_Z p l e (wq_rm 5 0 0) s m args below meth c D (wq_EM Ar b) b 32 9 (wq_Ab b 32) (MQ below (wq_Qc D (wq_EM Ar b) b 32 none S0) args s 0 0 (wq_Ab b 32)) 0 0 165 [some (.ref (b + 0)), some (.int (wq_I j1)), some (.int (wq_I j2)), some (.int (wq_I j3)), some (.int (wq_I j4)), none, none, none, none] [] S) (hrec : ∀ (y5 : Int) (S : wq_St), rec y5 S = some (r0, S0) → wq_Z p l e (wq_rm 5 0 0) s m args below meth c D (wq_EM Ar b) b 32 9 (wq_Ab b 32) (MQ below (wq_Qc D (wq_EM Ar b) b 32 none S0) args s 0 0 (wq_Ab b 32)) 0 0 35 [some (.ref (b + 0)), some (.int (wq_I j1)), some (.int (wq_I j2)), some (.int (wq_I j3)), some (.int (wq_I j4)), some (.int (wq_I y5)), none, none, none] [] S) (S : wq_St) (h : j_X9_triesWays_110 kx rec j1 j2 j3 j4 j5 j6 S = some (r0, S0)) : wq_Z p l e (wq_rm 5 0 0) s m args below meth c D (wq_EM Ar b) b 32 9 (wq_Ab b 32) (MQ below (wq_Qc D (wq_EM Ar b) b 32 none S0) args s 0 0 (wq_Ab b 32)) 0 0 110 [some (.ref (b + 0)), some (.int (wq_I j1)), some (.int (wq_I j2)), some (.int (wq_I j3)), some (.int (wq_I j4)), some (.int (wq_I j5)), some (.long (wq_J j6)), none, none] [] S := by
  unfold j_X9_triesWays_110 at h
  refine wq_aload_n F dX9_triesWays_110 rfl rfl rfl ?_
  refine wq_lload F dX9_triesWays_111 rfl rfl ?_
  refine wq_p_X9_201 F (fun _ h9 => h9) dX9_triesWays_113 rfl ?_
  obtain ⟨S10, eS10, h⟩ := wq_lt_some h
  refine wq_namS eS10 ?_
  refine wq_iconst (n := 0) F dX9_triesWays_116 rfl ?_
  refine wq_istore (L' := [some (.ref (b + 0)), some (.int (wq_I j1)), some (.int (wq_I j2)), some (.int (wq_I j3)), some (.int (wq_I j4)), some (.int (wq_I j5)), some (.long (wq_J j6)), none, some (.int (wq_I 0))]) F dX9_triesWays_117 (by decide) rfl rfl rfl ?_
  refine wq_lsub [some (.ref (b + 0)), some (.int (wq_I j1)), some (.int (wq_I j2)), some (.int (wq_I j3)), some (.int (wq_I j4)), some (.int (wq_I j5)), none, none, some (.int (wq_I 0))] (by simp [wq_sub]) (tl_X9_triesWays_119 F (fun S17 h => ?_) wq_fu 0 S10 h)
  refine wq_iinc (L' := [some (.ref (b + 0)), some (.int (wq_I j1)), some (.int (wq_I j2)), some (.int (wq_I j3)), some (.int (wq_I j4)), some (.int (wq_I (j5 + 1))), none, none, none]) F dX9_triesWays_159 rfl (by decide) rfl rfl rfl ?_
  refine wq_goto (tgt := 35) F dX9_triesWays_162 (by decide) ?_
  exact wq_lsub [some (.ref (b + 0)), some (.int (wq_I j1)), some (.int (wq_I j2)), some (.int (wq_I j3)), some (.int (wq_I j4)), some (.int (wq_I (j5 + 1))), none, none, none] (by simp [wq_sub]) (hrec (j5 + 1) S17 h)
set_option maxHeartbeats 4000000 in
set_option maxRecDepth 100000 in
theorem tj_X9_triesWays_47 {p : Program} {l : Launch} {e : Env} {s : State} {m : MethodId} {args : Array Value} {below : List Frame} {meth : Method} {c : Code} {D : va_G} {Ar : Nat → ClassId} {b : Nat} (F : wq_Fr p s m args meth c cX9_triesWays 9 ((Option.none : Option Jvm.ClassFile.FieldType)) "WharfQueryModel" D Ar) {r0 : Int} {S0 : wq_St} {kx : wq_St → Option (Int × wq_St)} {rec : Int → wq_St → Option (Int × wq_St)} {j1 : Int} {j2 : Int} {j3 : Int} {j4 : Int} {j5 : Int} (hkx : ∀ (S : wq_St), kx S = some (r0, S0) → wq_Z p l e (wq_rm 5 0 0) s m args below meth c D (wq_EM Ar b) b 32 9 (wq_Ab b 32) (MQ below (wq_Qc D (wq_EM Ar b) b 32 none S0) args s 0 0 (wq_Ab b 32)) 0 0 165 [some (.ref (b + 0)), some (.int (wq_I j1)), some (.int (wq_I j2)), some (.int (wq_I j3)), some (.int (wq_I j4)), none, none, none, none] [] S) (hrec : ∀ (y5 : Int) (S : wq_St), rec y5 S = some (r0, S0) → wq_Z p l e (wq_rm 5 0 0) s m args below meth c D (wq_EM Ar b) b 32 9 (wq_Ab b 32) (MQ below (wq_Qc D (wq_EM Ar b) b 32 none S0) args s 0 0 (wq_Ab b 32)) 0 0 35 [some (.ref (b + 0)), some (.int (wq_I j1)), some (.int (wq_I j2)), some (.int (wq_I j3)), some (.int (wq_I j4)), some (.int (wq_I y5)), none, none, none] [] S) (z0 : Int) (z1 : Int) (S : wq_St) (h : j_X9_triesWays_47 kx rec j1 j2 j3 j4 j5 z0 z1 S = some (r0, S0)) : wq_Z p l e (wq_rm 5 0 0) s m args below meth c D (wq_EM Ar b) b 32 9 (wq_Ab b 32) (MQ below (wq_Qc D (wq_EM Ar b) b 32 none S0) args s 0 0 (wq_Ab b 32)) 0 0 47 [some (.ref (b + 0)), some (.int (wq_I j1)), some (.int (wq_I j2)), some (.int (wq_I j3)), some (.int (wq_I j4)), some (.int (wq_I j5)), none, none, none] [.int (wq_I z0), .int (wq_I z1)] S := by
  unfold j_X9_triesWays_47 at h
  refine wq_icmp_ge (tgt := 165) F dX9_triesWays_47 (by decide) rfl (fun hc => ?_) (fun hc => ?_)
  · replace h := wq_ift hc h
    exact wq_lsub [some (.ref (b + 0)), some (.int (wq_I j1)), some (.int (wq_I j2)), some (.int (wq_I j3)), some (.int (wq_I j4)), none, none, none, none] (by simp [wq_sub]) (hkx S h)
  · replace h := wq_iff hc h
    refine wq_aload_n F dX9_triesWays_50 rfl rfl rfl ?_
    refine wq_g_X9_96 F dX9_triesWays_51 rfl ?_
    refine wq_iconst (n := 0) F dX9_triesWays_54 rfl ?_
    refine wq_iload_n F dX9_triesWays_55 rfl rfl rfl ?_
    obtain ⟨t2, ht2, wt2, h⟩ := wq_ix_some h
    refine wq_iast F (Nat.le_of_ble_eq_true rfl) wq_EM_way wq_EM_way ht2 wt2 ⟨Nat.le_add_right _ _, Nat.add_lt_add_left (Nat.le_of_ble_eq_true rfl) b⟩ dX9_triesWays_56 rfl ?_
    obtain ⟨S3, eS3, h⟩ := wq_lt_some h
    refine wq_namS eS3 ?_
    refine wq_aload_n F dX9_triesWays_57 rfl rfl rfl ?_
    refine wq_g_X9_96 F dX9_triesWays_58 rfl ?_
    refine wq_iconst (n := 1) F dX9_triesWays_61 rfl ?_
    refine wq_iload F dX9_triesWays_62 rfl rfl ?_
    obtain ⟨t4, ht4, wt4, h⟩ := wq_ix_some h
    refine wq_iast F (Nat.le_of_ble_eq_true rfl) wq_EM_way wq_EM_way ht4 wt4 ⟨Nat.le_add_right _ _, Nat.add_lt_add_left (Nat.le_of_ble_eq_true rfl) b⟩ dX9_triesWays_64 rfl ?_
    obtain ⟨S5, eS5, h⟩ := wq_lt_some h
    refine wq_namS eS5 ?_
    refine wq_aload_n F dX9_triesWays_65 rfl rfl rfl ?_
    refine wq_g_X9_96 F dX9_triesWays_66 rfl ?_
    refine wq_iconst (n := 2) F dX9_triesWays_69 rfl ?_
    refine wq_iload F dX9_triesWays_70 rfl rfl ?_
    obtain ⟨t6, ht6, wt6, h⟩ := wq_ix_some h
    refine wq_iast F (Nat.le_of_ble_eq_true rfl) wq_EM_way wq_EM_way ht6 wt6 ⟨Nat.le_add_right _ _, Nat.add_lt_add_left (Nat.le_of_ble_eq_true rfl) b⟩ dX9_triesWays_72 rfl ?_
    obtain ⟨S7, eS7, h⟩ := wq_lt_some h
    refine wq_namS eS7 ?_
    refine wq_aload_n F dX9_triesWays_73 rfl rfl rfl ?_
    refine wq_iload_n F dX9_triesWays_74 rfl rfl rfl ?_
    obtain ⟨r8, S9, h1r8, h⟩ := wq_bd_some h
    refine wq_callV (As := [.int (wq_I j1)]) F lk_X9_197 (ct_X9_cost h1r8) ⟨Nat.le_of_ble_eq_true rfl, Nat.le_of_ble_eq_true rfl⟩ ⟨Nat.le_of_ble_eq_true rfl, Nat.le_of_ble_eq_true rfl⟩ (Nat.le_of_ble_eq_true rfl) rfl rfl (fun _ h9 => h9) rfl rfl (Nat.le_of_ble_eq_true rfl) dX9_triesWays_75 rfl ?_
    refine wq_lstore (L' := [some (.ref (b + 0)), some (.int (wq_I j1)), some (.int (wq_I j2)), some (.int (wq_I j3)), some (.int (wq_I j4)), some (.int (wq_I j5)), some (.long (wq_J r8)), none, none]) F dX9_triesWays_78 (by decide) rfl rfl rfl ?_
    refine wq_lload F dX9_triesWays_80 rfl rfl ?_
    refine wq_ldc2 (v := -1) F dX9_triesWays_82 aw_1270 (by decide) rfl ?_
    refine wq_lcmp F dX9_triesWays_85 rfl ?_
    refine wq_if_eq (tgt := 159) F dX9_triesWays_86 (by decide) rfl (fun hc => ?_) (fun hc => ?_)
    · replace h := wq_ift hc h
      refine wq_iinc (L' := [some (.ref (b + 0)), some (.int (wq_I j1)), some (.int (wq_I j2)), some (.int (wq_I j3)), some (.int (wq_I j4)), some (.int (wq_I (j5 + 1))), some (.long (wq_J r8)), none, none]) F dX9_triesWays_159 rfl (by decide) rfl rfl rfl ?_
      refine wq_goto (tgt := 35) F dX9_triesWays_162 (by decide) ?_
      exact wq_lsub [some (.ref (b + 0)), some (.int (wq_I j1)), some (.int (wq_I j2)), some (.int (wq_I j3)), some (.int (wq_I j4)), some (.int (wq_I (j5 + 1))), none, none, none] (by simp [wq_sub]) (hrec (j5 + 1) S9 h)
    · replace h := wq_iff hc h
      refine wq_aload_n F dX9_triesWays_89 rfl rfl rfl ?_
      refine wq_g_X9_201 F dX9_triesWays_90 rfl ?_
      refine wq_ldc2 (v := -1) F dX9_triesWays_93 aw_1270 (by decide) rfl ?_
      refine wq_lcmp F dX9_triesWays_96 rfl ?_
      refine wq_if_eq (tgt := 110) F dX9_triesWays_97 (by decide) rfl (fun hc => ?_) (fun hc => ?_)
      · replace h := wq_ift hc h
        exact wq_lsub [some (.ref (b + 0)), some (.int (wq_I j1)), some (.int (wq_I j2)), some (.int (wq_I j3)), some (.int (wq_I j4)), some (.int (wq_I j5)), some (.long (wq_J r8)), none, none] (by simp [wq_sub]) (tj_X9_triesWays_110 F hkx hrec S9 h)
      · replace h := wq_iff hc h
        refine wq_lload F dX9_triesWays_100 rfl rfl ?_
        refine wq_aload_n F dX9_triesWays_102 rfl rfl rfl ?_
        refine wq_g_X9_201 F dX9_triesWays_103 rfl ?_
        refine wq_lcmp F dX9_triesWays_106 rfl ?_
        refine wq_if_ge (tgt := 159) F dX9_triesWays_107 (by decide) rfl (fun hc => ?_) (fun hc => ?_)
        · replace h := wq_ift hc h
          refine wq_iinc (L' := [some (.ref (b + 0)), some (.int (wq_I j1)), some (.int (wq_I j2)), some (.int (wq_I j3)), some (.int (wq_I j4)), some (.int (wq_I (j5 + 1))), some (.long (wq_J r8)), none, none]) F dX9_triesWays_159 rfl (by decide) rfl rfl rfl ?_
          refine wq_goto (tgt := 35) F dX9_triesWays_162 (by decide) ?_
          exact wq_lsub [some (.ref (b + 0)), some (.int (wq_I j1)), some (.int (wq_I j2)), some (.int (wq_I j3)), some (.int (wq_I j4)), some (.int (wq_I (j5 + 1))), none, none, none] (by simp [wq_sub]) (hrec (j5 + 1) S9 h)
        · replace h := wq_iff hc h
          exact wq_lsub [some (.ref (b + 0)), some (.int (wq_I j1)), some (.int (wq_I j2)), some (.int (wq_I j3)), some (.int (wq_I j4)), some (.int (wq_I j5)), some (.long (wq_J r8)), none, none] (by simp [wq_sub]) (tj_X9_triesWays_110 F hkx hrec S9 h)
set_option maxHeartbeats 4000000 in
set_option maxRecDepth 100000 in
theorem tb_X9_triesWays_35 {p : Program} {l : Launch} {e : Env} {s : State} {m : MethodId} {args : Array Value} {below : List Frame} {meth : Method} {c : Code} {D : va_G} {Ar : Nat → ClassId} {b : Nat} (F : wq_Fr p s m args meth c cX9_triesWays 9 ((Option.none : Option Jvm.ClassFile.FieldType)) "WharfQueryModel" D Ar) {r0 : Int} {S0 : wq_St} {c1 : Int} {c2 : Int} {c3 : Int} {c4 : Int} {kx : wq_St → Option (Int × wq_St)} (hkx : ∀ (S : wq_St), kx S = some (r0, S0) → wq_Z p l e (wq_rm 5 0 0) s m args below meth c D (wq_EM Ar b) b 32 9 (wq_Ab b 32) (MQ below (wq_Qc D (wq_EM Ar b) b 32 none S0) args s 0 0 (wq_Ab b 32)) 0 0 165 [some (.ref (b + 0)), some (.int (wq_I c1)), some (.int (wq_I c2)), some (.int (wq_I c3)), some (.int (wq_I c4)), none, none, none, none] [] S) {rec : Int → wq_St → Option (Int × wq_St)} (hrec : ∀ (y5 : Int) (S : wq_St), rec y5 S = some (r0, S0) → wq_Z p l e (wq_rm 5 0 0) s m args below meth c D (wq_EM Ar b) b 32 9 (wq_Ab b 32) (MQ below (wq_Qc D (wq_EM Ar b) b 32 none S0) args s 0 0 (wq_Ab b 32)) 0 0 35 [some (.ref (b + 0)), some (.int (wq_I c1)), some (.int (wq_I c2)), some (.int (wq_I c3)), some (.int (wq_I c4)), some (.int (wq_I y5)), none, none, none] [] S) (y5 : Int) (S : wq_St) (h : b_X9_triesWays_35 c1 c2 c3 c4 kx rec y5 S = some (r0, S0)) : wq_Z p l e (wq_rm 5 0 0) s m args below meth c D (wq_EM Ar b) b 32 9 (wq_Ab b 32) (MQ below (wq_Qc D (wq_EM Ar b) b 32 none S0) args s 0 0 (wq_Ab b 32)) 0 0 35 [some (.ref (b + 0)), some (.int (wq_I c1)), some (.int (wq_I c2)), some (.int (wq_I c3)), some (.int (wq_I c4)), some (.int (wq_I y5)), none, none, none] [] S := by
  unfold b_X9_triesWays_35 at h
  refine wq_iload F dX9_triesWays_35 rfl rfl ?_
  refine wq_iload_n F dX9_triesWays_37 rfl rfl rfl ?_
  refine wq_iconst (n := 2) F dX9_triesWays_38 rfl ?_
  refine wq_icmp_le (tgt := 46) F dX9_triesWays_39 (by decide) rfl (fun hc => ?_) (fun hc => ?_)
  · replace h := wq_ift hc h
    refine wq_iconst (n := 0) F dX9_triesWays_46 rfl ?_
    exact wq_lsub [some (.ref (b + 0)), some (.int (wq_I c1)), some (.int (wq_I c2)), some (.int (wq_I c3)), some (.int (wq_I c4)), some (.int (wq_I y5)), none, none, none] (by simp [wq_sub]) (tj_X9_triesWays_47 F hkx hrec 0 y5 S h)
  · replace h := wq_iff hc h
    refine wq_iconst (n := 3) F dX9_triesWays_42 rfl ?_
    refine wq_goto (tgt := 47) F dX9_triesWays_43 (by decide) ?_
    exact wq_lsub [some (.ref (b + 0)), some (.int (wq_I c1)), some (.int (wq_I c2)), some (.int (wq_I c3)), some (.int (wq_I c4)), some (.int (wq_I y5)), none, none, none] (by simp [wq_sub]) (tj_X9_triesWays_47 F hkx hrec 3 y5 S h)
set_option maxHeartbeats 4000000 in
set_option maxRecDepth 100000 in
theorem tl_X9_triesWays_35 {p : Program} {l : Launch} {e : Env} {s : State} {m : MethodId} {args : Array Value} {below : List Frame} {meth : Method} {c : Code} {D : va_G} {Ar : Nat → ClassId} {b : Nat} (F : wq_Fr p s m args meth c cX9_triesWays 9 ((Option.none : Option Jvm.ClassFile.FieldType)) "WharfQueryModel" D Ar) {r0 : Int} {S0 : wq_St} {c1 : Int} {c2 : Int} {c3 : Int} {c4 : Int} {kx : wq_St → Option (Int × wq_St)} (hkx : ∀ (S : wq_St), kx S = some (r0, S0) → wq_Z p l e (wq_rm 5 0 0) s m args below meth c D (wq_EM Ar b) b 32 9 (wq_Ab b 32) (MQ below (wq_Qc D (wq_EM Ar b) b 32 none S0) args s 0 0 (wq_Ab b 32)) 0 0 165 [some (.ref (b + 0)), some (.int (wq_I c1)), some (.int (wq_I c2)), some (.int (wq_I c3)), some (.int (wq_I c4)), none, none, none, none] [] S) (n : Nat) (y5 : Int) (S : wq_St) (h : l_X9_triesWays_35 c1 c2 c3 c4 kx n y5 S = some (r0, S0)) : wq_Z p l e (wq_rm 5 0 0) s m args below meth c D (wq_EM Ar b) b 32 9 (wq_Ab b 32) (MQ below (wq_Qc D (wq_EM Ar b) b 32 none S0) args s 0 0 (wq_Ab b 32)) 0 0 35 [some (.ref (b + 0)), some (.int (wq_I c1)), some (.int (wq_I c2)), some (.int (wq_I c3)), some (.int (wq_I c4)), some (.int (wq_I y5)), none, none, none] [] S :=
  wq_loop_ind (f := fun (g : Int × wq_St → Option (Int × wq_St)) (x : Int × wq_St) => b_X9_triesWays_35 c1 c2 c3 c4 kx (fun y5 S => g (y5, S)) x.1 x.2) (P := (fun x : Int × wq_St => wq_Z p l e (wq_rm 5 0 0) s m args below meth c D (wq_EM Ar b) b 32 9 (wq_Ab b 32) (MQ below (wq_Qc D (wq_EM Ar b) b 32 none S0) args s 0 0 (wq_Ab b 32)) 0 0 35 [some (.ref (b + 0)), some (.int (wq_I c1)), some (.int (wq_I c2)), some (.int (wq_I c3)), some (.int (wq_I c4)), some (.int (wq_I (x.1))), none, none, none] [] x.2)) (fun g hg x hx => tb_X9_triesWays_35 F hkx (fun y5 S h => hg (y5, S) h) x.1 x.2 hx) n (y5, S) h
set_option maxHeartbeats 4000000 in
set_option maxRecDepth 100000 in
theorem tj_X9_triesWays_29 {p : Program} {l : Launch} {e : Env} {s : State} {m : MethodId} {args : Array Value} {below : List Frame} {meth : Method} {c : Code} {D : va_G} {Ar : Nat → ClassId} {b : Nat} (F : wq_Fr p s m args meth c cX9_triesWays 9 ((Option.none : Option Jvm.ClassFile.FieldType)) "WharfQueryModel" D Ar) {r0 : Int} {S0 : wq_St} {kx : wq_St → Option (Int × wq_St)} {rec : Int → wq_St → Option (Int × wq_St)} {j1 : Int} {j2 : Int} {j3 : Int} {j4 : Int} (hkx : ∀ (S : wq_St), kx S = some (r0, S0) → wq_Z p l e (wq_rm 5 0 0) s m args below meth c D (wq_EM Ar b) b 32 9 (wq_Ab b 32) (MQ below (wq_Qc D (wq_EM Ar b) b 32 none S0) args s 0 0 (wq_Ab b 32)) 0 0 171 [some (.ref (b + 0)), some (.int (wq_I j1)), some (.int (wq_I j2)), some (.int (wq_I j3)), none, none, none, none, none] [] S) (hrec : ∀ (y4 : Int) (S : wq_St), rec y4 S = some (r0, S0) → wq_Z p l e (wq_rm 5 0 0) s m args below meth c D (wq_EM Ar b) b 32 9 (wq_Ab b 32) (MQ below (wq_Qc D (wq_EM Ar b) b 32 none S0) args s 0 0 (wq_Ab b 32)) 0 0 17 [some (.ref (b + 0)), some (.int (wq_I j1)), some (.int (wq_I j2)), some (.int (wq_I j3)), some (.int (wq_I y4)), none, none, none, none] [] S) (z0 : Int) (z1 : Int) (S : wq_St) (h : j_X9_triesWays_29 kx rec j1 j2 j3 j4 z0 z1 S = some (r0, S0)) : wq_Z p l e (wq_rm 5 0 0) s m args below meth c D (wq_EM Ar b) b 32 9 (wq_Ab b 32) (MQ below (wq_Qc D (wq_EM Ar b) b 32 none S0) args s 0 0 (wq_Ab b 32)) 0 0 29 [some (.ref (b + 0)), some (.int (wq_I j1)), some (.int (wq_I j2)), some (.int (wq_I j3)), some (.int (wq_I j4)), none, none, none, none] [.int (wq_I z0), .int (wq_I z1)] S := by
  unfold j_X9_triesWays_29 at h
  refine wq_icmp_ge (tgt := 171) F dX9_triesWays_29 (by decide) rfl (fun hc => ?_) (fun hc => ?_)
  · replace h := wq_ift hc h
    exact wq_lsub [some (.ref (b + 0)), some (.int (wq_I j1)), some (.int (wq_I j2)), some (.int (wq_I j3)), none, none, none, none, none] (by simp [wq_sub]) (hkx S h)
  · replace h := wq_iff hc h
    refine wq_iconst (n := -1) F dX9_triesWays_32 rfl ?_
    refine wq_istore (L' := [some (.ref (b + 0)), some (.int (wq_I j1)), some (.int (wq_I j2)), some (.int (wq_I j3)), some (.int (wq_I j4)), some (.int (wq_I (-1))), none, none, none]) F dX9_triesWays_33 (by decide) rfl rfl rfl ?_
    refine wq_lsub [some (.ref (b + 0)), some (.int (wq_I j1)), some (.int (wq_I j2)), some (.int (wq_I j3)), some (.int (wq_I j4)), some (.int (wq_I (-1))), none, none, none] (by simp [wq_sub]) (tl_X9_triesWays_35 F (fun S18 h => ?_) wq_fu (-1) S h)
    refine wq_iinc (L' := [some (.ref (b + 0)), some (.int (wq_I j1)), some (.int (wq_I j2)), some (.int (wq_I j3)), some (.int (wq_I (j4 + 1))), none, none, none, none]) F dX9_triesWays_165 rfl (by decide) rfl rfl rfl ?_
    refine wq_goto (tgt := 17) F dX9_triesWays_168 (by decide) ?_
    exact wq_lsub [some (.ref (b + 0)), some (.int (wq_I j1)), some (.int (wq_I j2)), some (.int (wq_I j3)), some (.int (wq_I (j4 + 1))), none, none, none, none] (by simp [wq_sub]) (hrec (j4 + 1) S18 h)
set_option maxHeartbeats 4000000 in
set_option maxRecDepth 100000 in
theorem tb_X9_triesWays_17 {p : Program} {l : Launch} {e : Env} {s : State} {m : MethodId} {args : Array Value} {below : List Frame} {meth : Method} {c : Code} {D : va_G} {Ar : Nat → ClassId} {b : Nat} (F : wq_Fr p s m args meth c cX9_triesWays 9 ((Option.none : Option Jvm.ClassFile.FieldType)) "WharfQueryModel" D Ar) {r0 : Int} {S0 : wq_St} {c1 : Int} {c2 : Int} {c3 : Int} {kx : wq_St → Option (Int × wq_St)} (hkx : ∀ (S : wq_St), kx S = some (r0, S0) → wq_Z p l e (wq_rm 5 0 0) s m args below meth c D (wq_EM Ar b) b 32 9 (wq_Ab b 32) (MQ below (wq_Qc D (wq_EM Ar b) b 32 none S0) args s 0 0 (wq_Ab b 32)) 0 0 171 [some (.ref (b + 0)), some (.int (wq_I c1)), some (.int (wq_I c2)), some (.int (wq_I c3)), none, none, none, none, none] [] S) {rec : Int → wq_St → Option (Int × wq_St)} (hrec : ∀ (y4 : Int) (S : wq_St), rec y4 S = some (r0, S0) → wq_Z p l e (wq_rm 5 0 0) s m args below meth c D (wq_EM Ar b) b 32 9 (wq_Ab b 32) (MQ below (wq_Qc D (wq_EM Ar b) b 32 none S0) args s 0 0 (wq_Ab b 32)) 0 0 17 [some (.ref (b + 0)), some (.int (wq_I c1)), some (.int (wq_I c2)), some (.int (wq_I c3)), some (.int (wq_I y4)), none, none, none, none] [] S) (y4 : Int) (S : wq_St) (h : b_X9_triesWays_17 c1 c2 c3 kx rec y4 S = some (r0, S0)) : wq_Z p l e (wq_rm 5 0 0) s m args below meth c D (wq_EM Ar b) b 32 9 (wq_Ab b 32) (MQ below (wq_Qc D (wq_EM Ar b) b 32 none S0) args s 0 0 (wq_Ab b 32)) 0 0 17 [some (.ref (b + 0)), some (.int (wq_I c1)), some (.int (wq_I c2)), some (.int (wq_I c3)), some (.int (wq_I y4)), none, none, none, none] [] S := by
  unfold b_X9_triesWays_17 at h
  refine wq_iload F dX9_triesWays_17 rfl rfl ?_
  refine wq_iload_n F dX9_triesWays_19 rfl rfl rfl ?_
  refine wq_iconst (n := 1) F dX9_triesWays_20 rfl ?_
  refine wq_icmp_le (tgt := 28) F dX9_triesWays_21 (by decide) rfl (fun hc => ?_) (fun hc => ?_)
  · replace h := wq_ift hc h
    refine wq_iconst (n := 0) F dX9_triesWays_28 rfl ?_
    exact wq_lsub [some (.ref (b + 0)), some (.int (wq_I c1)), some (.int (wq_I c2)), some (.int (wq_I c3)), some (.int (wq_I y4)), none, none, none, none] (by simp [wq_sub]) (tj_X9_triesWays_29 F hkx hrec 0 y4 S h)
  · replace h := wq_iff hc h
    refine wq_iconst (n := 3) F dX9_triesWays_24 rfl ?_
    refine wq_goto (tgt := 29) F dX9_triesWays_25 (by decide) ?_
    exact wq_lsub [some (.ref (b + 0)), some (.int (wq_I c1)), some (.int (wq_I c2)), some (.int (wq_I c3)), some (.int (wq_I y4)), none, none, none, none] (by simp [wq_sub]) (tj_X9_triesWays_29 F hkx hrec 3 y4 S h)
set_option maxHeartbeats 4000000 in
set_option maxRecDepth 100000 in
theorem tl_X9_triesWays_17 {p : Program} {l : Launch} {e : Env} {s : State} {m : MethodId} {args : Array Value} {below : List Frame} {meth : Method} {c : Code} {D : va_G} {Ar : Nat → ClassId} {b : Nat} (F : wq_Fr p s m args meth c cX9_triesWays 9 ((Option.none : Option Jvm.ClassFile.FieldType)) "WharfQueryModel" D Ar) {r0 : Int} {S0 : wq_St} {c1 : Int} {c2 : Int} {c3 : Int} {kx : wq_St → Option (Int × wq_St)} (hkx : ∀ (S : wq_St), kx S = some (r0, S0) → wq_Z p l e (wq_rm 5 0 0) s m args below meth c D (wq_EM Ar b) b 32 9 (wq_Ab b 32) (MQ below (wq_Qc D (wq_EM Ar b) b 32 none S0) args s 0 0 (wq_Ab b 32)) 0 0 171 [some (.ref (b + 0)), some (.int (wq_I c1)), some (.int (wq_I c2)), some (.int (wq_I c3)), none, none, none, none, none] [] S) (n : Nat) (y4 : Int) (S : wq_St) (h : l_X9_triesWays_17 c1 c2 c3 kx n y4 S = some (r0, S0)) : wq_Z p l e (wq_rm 5 0 0) s m args below meth c D (wq_EM Ar b) b 32 9 (wq_Ab b 32) (MQ below (wq_Qc D (wq_EM Ar b) b 32 none S0) args s 0 0 (wq_Ab b 32)) 0 0 17 [some (.ref (b + 0)), some (.int (wq_I c1)), some (.int (wq_I c2)), some (.int (wq_I c3)), some (.int (wq_I y4)), none, none, none, none] [] S :=
  wq_loop_ind (f := fun (g : Int × wq_St → Option (Int × wq_St)) (x : Int × wq_St) => b_X9_triesWays_17 c1 c2 c3 kx (fun y4 S => g (y4, S)) x.1 x.2) (P := (fun x : Int × wq_St => wq_Z p l e (wq_rm 5 0 0) s m args below meth c D (wq_EM Ar b) b 32 9 (wq_Ab b 32) (MQ below (wq_Qc D (wq_EM Ar b) b 32 none S0) args s 0 0 (wq_Ab b 32)) 0 0 17 [some (.ref (b + 0)), some (.int (wq_I c1)), some (.int (wq_I c2)), some (.int (wq_I c3)), some (.int (wq_I (x.1))), none, none, none, none] [] x.2)) (fun g hg x hx => tb_X9_triesWays_17 F hkx (fun y4 S h => hg (y4, S) h) x.1 x.2 hx) n (y4, S) h
set_option maxHeartbeats 4000000 in
set_option maxRecDepth 100000 in
theorem tb_X9_triesWays_9 {p : Program} {l : Launch} {e : Env} {s : State} {m : MethodId} {args : Array Value} {below : List Frame} {meth : Method} {c : Code} {D : va_G} {Ar : Nat → ClassId} {b : Nat} (F : wq_Fr p s m args meth c cX9_triesWays 9 ((Option.none : Option Jvm.ClassFile.FieldType)) "WharfQueryModel" D Ar) {r0 : Int} {S0 : wq_St} {c1 : Int} {c2 : Int} {kx : wq_St → Option (Int × wq_St)} (hkx : ∀ (S : wq_St), kx S = some (r0, S0) → wq_Z p l e (wq_rm 5 0 0) s m args below meth c D (wq_EM Ar b) b 32 9 (wq_Ab b 32) (MQ below (wq_Qc D (wq_EM Ar b) b 32 none S0) args s 0 0 (wq_Ab b 32)) 0 0 177 [none, none, none, none, none, none, none, none, none] [] S) {rec : Int → wq_St → Option (Int × wq_St)} (hrec : ∀ (y3 : Int) (S : wq_St), rec y3 S = some (r0, S0) → wq_Z p l e (wq_rm 5 0 0) s m args below meth c D (wq_EM Ar b) b 32 9 (wq_Ab b 32) (MQ below (wq_Qc D (wq_EM Ar b) b 32 none S0) args s 0 0 (wq_Ab b 32)) 0 0 9 [some (.ref (b + 0)), some (.int (wq_I c1)), some (.int (wq_I c2)), some (.int (wq_I y3)), none, none, none, none, none] [] S) (y3 : Int) (S : wq_St) (h : b_X9_triesWays_9 c1 c2 kx rec y3 S = some (r0, S0)) : wq_Z p l e (wq_rm 5 0 0) s m args below meth c D (wq_EM Ar b) b 32 9 (wq_Ab b 32) (MQ below (wq_Qc D (wq_EM Ar b) b 32 none S0) args s 0 0 (wq_Ab b 32)) 0 0 9 [some (.ref (b + 0)), some (.int (wq_I c1)), some (.int (wq_I c2)), some (.int (wq_I y3)), none, none, none, none, none] [] S := by
  unfold b_X9_triesWays_9 at h
  refine wq_iload_n F dX9_triesWays_9 rfl rfl rfl ?_
  refine wq_iconst (n := 3) F dX9_triesWays_10 rfl ?_
  refine wq_icmp_ge (tgt := 177) F dX9_triesWays_11 (by decide) rfl (fun hc => ?_) (fun hc => ?_)
  · replace h := wq_ift hc h
    exact wq_lsub [none, none, none, none, none, none, none, none, none] (by simp [wq_sub]) (hkx S h)
  · replace h := wq_iff hc h
    refine wq_iconst (n := -1) F dX9_triesWays_14 rfl ?_
    refine wq_istore (L' := [some (.ref (b + 0)), some (.int (wq_I c1)), some (.int (wq_I c2)), some (.int (wq_I y3)), some (.int (wq_I (-1))), none, none, none, none]) F dX9_triesWays_15 (by decide) rfl rfl rfl ?_
    refine wq_lsub [some (.ref (b + 0)), some (.int (wq_I c1)), some (.int (wq_I c2)), some (.int (wq_I y3)), some (.int (wq_I (-1))), none, none, none, none] (by simp [wq_sub]) (tl_X9_triesWays_17 F (fun S19 h => ?_) wq_fu (-1) S h)
    refine wq_iinc (L' := [some (.ref (b + 0)), some (.int (wq_I c1)), some (.int (wq_I c2)), some (.int (wq_I (y3 + 1))), none, none, none, none, none]) F dX9_triesWays_171 rfl (by decide) rfl rfl rfl ?_
    refine wq_goto (tgt := 9) F dX9_triesWays_174 (by decide) ?_
    exact wq_lsub [some (.ref (b + 0)), some (.int (wq_I c1)), some (.int (wq_I c2)), some (.int (wq_I (y3 + 1))), none, none, none, none, none] (by simp [wq_sub]) (hrec (y3 + 1) S19 h)
set_option maxHeartbeats 4000000 in
set_option maxRecDepth 100000 in
theorem tl_X9_triesWays_9 {p : Program} {l : Launch} {e : Env} {s : State} {m : MethodId} {args : Array Value} {below : List Frame} {meth : Method} {c : Code} {D : va_G} {Ar : Nat → ClassId} {b : Nat} (F : wq_Fr p s m args meth c cX9_triesWays 9 ((Option.none : Option Jvm.ClassFile.FieldType)) "WharfQueryModel" D Ar) {r0 : Int} {S0 : wq_St} {c1 : Int} {c2 : Int} {kx : wq_St → Option (Int × wq_St)} (hkx : ∀ (S : wq_St), kx S = some (r0, S0) → wq_Z p l e (wq_rm 5 0 0) s m args below meth c D (wq_EM Ar b) b 32 9 (wq_Ab b 32) (MQ below (wq_Qc D (wq_EM Ar b) b 32 none S0) args s 0 0 (wq_Ab b 32)) 0 0 177 [none, none, none, none, none, none, none, none, none] [] S) (n : Nat) (y3 : Int) (S : wq_St) (h : l_X9_triesWays_9 c1 c2 kx n y3 S = some (r0, S0)) : wq_Z p l e (wq_rm 5 0 0) s m args below meth c D (wq_EM Ar b) b 32 9 (wq_Ab b 32) (MQ below (wq_Qc D (wq_EM Ar b) b 32 none S0) args s 0 0 (wq_Ab b 32)) 0 0 9 [some (.ref (b + 0)), some (.int (wq_I c1)), some (.int (wq_I c2)), some (.int (wq_I y3)), none, none, none, none, none] [] S :=
  wq_loop_ind (f := fun (g : Int × wq_St → Option (Int × wq_St)) (x : Int × wq_St) => b_X9_triesWays_9 c1 c2 kx (fun y3 S => g (y3, S)) x.1 x.2) (P := (fun x : Int × wq_St => wq_Z p l e (wq_rm 5 0 0) s m args below meth c D (wq_EM Ar b) b 32 9 (wq_Ab b 32) (MQ below (wq_Qc D (wq_EM Ar b) b 32 none S0) args s 0 0 (wq_Ab b 32)) 0 0 9 [some (.ref (b + 0)), some (.int (wq_I c1)), some (.int (wq_I c2)), some (.int (wq_I (x.1))), none, none, none, none, none] [] x.2)) (fun g hg x hx => tb_X9_triesWays_9 F hkx (fun y3 S h => hg (y3, S) h) x.1 x.2 hx) n (y3, S) h
set_option maxHeartbeats 4000000 in
set_option maxRecDepth 100000 in
theorem ct_X9_triesWays {l : Launch} {D : va_G} {Ar : Nat → ClassId} {b : Nat} {x1 : Int} {S S0 : wq_St} {r0 : Int} (h : f_X9_triesWays x1 S = some (r0, S0)) : wq_Ct l yX9_triesWays (.code yX9_triesWays cX9_triesWays 9 ((Option.none : Option Jvm.ClassFile.FieldType))) 5 D Ar (wq_EM Ar b) b 32 [.ref (b + 0), .int (wq_I x1)] S none S0 := by
  refine wq_start "WharfQueryModel" [some (.ref (b + 0)), some (.int (wq_I x1)), none, none, none, none, none, none, none] (by decide +kernel) rfl (Nat.le_of_ble_eq_true rfl) rfl ?_
  intro p e s m args below meth c F
  unfold f_X9_triesWays at h
  refine wq_aload_n F dX9_triesWays_0 rfl rfl rfl ?_
  refine wq_g_X9_51 F dX9_triesWays_1 rfl ?_
  refine wq_iload_n F dX9_triesWays_4 rfl rfl rfl ?_
  obtain ⟨t1, ht1, wt1, h⟩ := wq_ix_some h
  refine wq_iald F (Nat.le_of_ble_eq_true rfl) wq_EM_sources ht1 wt1 dX9_triesWays_5 rfl ?_
  refine wq_istore_n (L' := [some (.ref (b + 0)), some (.int (wq_I x1)), some (.int (wq_I (S 13 t1))), none, none, none, none, none, none]) F dX9_triesWays_6 rfl (by decide) rfl rfl rfl ?_
  refine wq_iconst (n := -1) F dX9_triesWays_7 rfl ?_
  refine wq_istore_n (L' := [some (.ref (b + 0)), some (.int (wq_I x1)), some (.int (wq_I (S 13 t1))), some (.int (wq_I (-1))), none, none, none, none, none]) F dX9_triesWays_8 rfl (by decide) rfl rfl rfl ?_
  refine wq_lsub [some (.ref (b + 0)), some (.int (wq_I x1)), some (.int (wq_I (S 13 t1))), some (.int (wq_I (-1))), none, none, none, none, none] (by simp [wq_sub]) (tl_X9_triesWays_9 F (fun S20 h => ?_) wq_fu (-1) S h)
  cases h
  exact wq_vret F rfl rfl dX9_triesWays_177
set_option maxHeartbeats 4000000 in
set_option maxRecDepth 100000 in
theorem tj_X9_plans_114 {p : Program} {l : Launch} {e : Env} {s : State} {m : MethodId} {args : Array Value} {below : List Frame} {meth : Method} {c : Code} {D : va_G} {Ar : Nat → ClassId} {b : Nat} (F : wq_Fr p s m args meth c cX9_plans 6 ((Option.none : Option Jvm.ClassFile.FieldType)) "WharfQueryModel" D Ar) {r0 : Int} {S0 : wq_St} {kx : wq_St → Option (Int × wq_St)} {rec : Int → wq_St → Option (Int × wq_St)} {j1 : Int} {j2 : Int} {j3 : Int} (hkx : ∀ (S : wq_St), kx S = some (r0, S0) → wq_Z p l e (wq_rm 6 0 0) s m args below meth c D (wq_EM Ar b) b 32 6 (wq_Ab b 32) (MQ below (wq_Qc D (wq_EM Ar b) b 32 none S0) args s 0 0 (wq_Ab b 32)) 0 0 174 [some (.ref (b + 0)), none, none, none, none, none] [] S) (hrec : ∀ (y3 : Int) (S : wq_St), rec y3 S = some (r0, S0) → wq_Z p l e (wq_rm 6 0 0) s m args below meth c D (wq_EM Ar b) b 32 6 (wq_Ab b 32) (MQ below (wq_Qc D (wq_EM Ar b) b 32 none S0) args s 0 0 (wq_Ab b 32)) 0 0 24 [some (.ref (b + 0)), some (.int (wq_I j1)), some (.int (wq_I j2)), some (.int (wq_I y3)), none, none] [] S) (z0 : Int) (S : wq_St) (h : j_X9_plans_114 kx rec j1 j2 j3 z0 S = some (r0, S0)) : wq_Z p l e (wq_rm 6 0 0) s m args below meth c D (wq_EM Ar b) b 32 6 (wq_Ab b 32) (MQ below (wq_Qc D (wq_EM Ar b) b 32 none S0) args s 0 0 (wq_Ab b 32)) 0 0 114 [some (.ref (b + 0)), some (.int (wq_I j1)), some (.int (wq_I j2)), some (.int (wq_I j3)), none, none] [.int (wq_I z0)] S := by
  unfold j_X9_plans_114 at h
  refine wq_istore (L' := [some (.ref (b + 0)), some (.int (wq_I j1)), some (.int (wq_I j2)), some (.int (wq_I j3)), some (.int (wq_I z0)), none]) F dX9_plans_114 (by decide) rfl rfl rfl ?_
  refine wq_iload_n F dX9_plans_116 rfl rfl rfl ?_
  refine wq_iconst (n := 3) F dX9_plans_117 rfl ?_
  refine wq_icmp_eq (tgt := 146) F dX9_plans_118 (by decide) rfl (fun hc => ?_) (fun hc => ?_)
  · replace h := wq_ift hc h
    refine wq_iconst (n := 1) F dX9_plans_146 rfl ?_
    refine wq_goto (tgt := 151) F dX9_plans_147 (by decide) ?_
    refine wq_istore (L' := [some (.ref (b + 0)), some (.int (wq_I j1)), some (.int (wq_I j2)), some (.int (wq_I j3)), some (.int (wq_I z0)), some (.int (wq_I 1))]) F dX9_plans_151 (by decide) rfl rfl rfl ?_
    refine wq_iload F dX9_plans_153 rfl rfl ?_
    refine wq_if_eq (tgt := 168) F dX9_plans_155 (by decide) rfl (fun hc => ?_) (fun hc => ?_)
    · replace h := wq_ift hc h
      refine wq_iinc (L' := [some (.ref (b + 0)), some (.int (wq_I j1)), some (.int (wq_I j2)), some (.int (wq_I (j3 + 1))), some (.int (wq_I z0)), some (.int (wq_I 1))]) F dX9_plans_168 rfl (by decide) rfl rfl rfl ?_
      refine wq_goto (tgt := 24) F dX9_plans_171 (by decide) ?_
      exact wq_lsub [some (.ref (b + 0)), some (.int (wq_I j1)), some (.int (wq_I j2)), some (.int (wq_I (j3 + 1))), none, none] (by simp [wq_sub]) (hrec (j3 + 1) S h)
    · replace h := wq_iff hc h
      refine wq_iload F dX9_plans_158 rfl rfl ?_
      refine wq_if_eq (tgt := 168) F dX9_plans_160 (by decide) rfl (fun hc => ?_) (fun hc => ?_)
      · replace h := wq_ift hc h
        refine wq_iinc (L' := [some (.ref (b + 0)), some (.int (wq_I j1)), some (.int (wq_I j2)), some (.int (wq_I (j3 + 1))), some (.int (wq_I z0)), some (.int (wq_I 1))]) F dX9_plans_168 rfl (by decide) rfl rfl rfl ?_
        refine wq_goto (tgt := 24) F dX9_plans_171 (by decide) ?_
        exact wq_lsub [some (.ref (b + 0)), some (.int (wq_I j1)), some (.int (wq_I j2)), some (.int (wq_I (j3 + 1))), none, none] (by simp [wq_sub]) (hrec (j3 + 1) S h)
      · replace h := wq_iff hc h
        refine wq_aload_n F dX9_plans_163 rfl rfl rfl ?_
        refine wq_iload_n F dX9_plans_164 rfl rfl rfl ?_
        obtain ⟨r11, S12, h1r11, h⟩ := wq_bd_some h
        refine wq_callV (As := [.int (wq_I j1)]) F lk_X9_205 (ct_X9_triesWays h1r11) ⟨Nat.le_of_ble_eq_true rfl, Nat.le_of_ble_eq_true rfl⟩ ⟨Nat.le_of_ble_eq_true rfl, Nat.le_of_ble_eq_true rfl⟩ (Nat.le_of_ble_eq_true rfl) rfl rfl (fun _ h9 => h9) rfl rfl (Nat.le_of_ble_eq_true rfl) dX9_plans_165 rfl ?_
        refine wq_iinc (L' := [some (.ref (b + 0)), some (.int (wq_I j1)), some (.int (wq_I j2)), some (.int (wq_I (j3 + 1))), some (.int (wq_I z0)), some (.int (wq_I 1))]) F dX9_plans_168 rfl (by decide) rfl rfl rfl ?_
        refine wq_goto (tgt := 24) F dX9_plans_171 (by decide) ?_
        exact wq_lsub [some (.ref (b + 0)), some (.int (wq_I j1)), some (.int (wq_I j2)), some (.int (wq_I (j3 + 1))), none, none] (by simp [wq_sub]) (hrec (j3 + 1) S12 h)
  · replace h := wq_iff hc h
    refine wq_aload_n F dX9_plans_121 rfl rfl rfl ?_
    refine wq_g_X9_93 F dX9_plans_122 rfl ?_
    refine wq_iconst (n := 2) F dX9_plans_125 rfl ?_
    obtain ⟨t13, ht13, wt13, h⟩ := wq_ix_some h
    refine wq_iald F (Nat.le_of_ble_eq_true rfl) wq_EM_order ht13 wt13 dX9_plans_126 rfl ?_
    refine wq_iconst (n := 2) F dX9_plans_127 rfl ?_
    refine wq_icmp_ne (tgt := 150) F dX9_plans_128 (by decide) rfl (fun hc => ?_) (fun hc => ?_)
    · replace h := wq_iff hc h
      refine wq_iconst (n := 0) F dX9_plans_150 rfl ?_
      refine wq_istore (L' := [some (.ref (b + 0)), some (.int (wq_I j1)), some (.int (wq_I j2)), some (.int (wq_I j3)), some (.int (wq_I z0)), some (.int (wq_I 0))]) F dX9_plans_151 (by decide) rfl rfl rfl ?_
      refine wq_iload F dX9_plans_153 rfl rfl ?_
      refine wq_if_eq (tgt := 168) F dX9_plans_155 (by decide) rfl (fun hc => ?_) (fun hc => ?_)
      · replace h := wq_ift hc h
        refine wq_iinc (L' := [some (.ref (b + 0)), some (.int (wq_I j1)), some (.int (wq_I j2)), some (.int (wq_I (j3 + 1))), some (.int (wq_I z0)), some (.int (wq_I 0))]) F dX9_plans_168 rfl (by decide) rfl rfl rfl ?_
        refine wq_goto (tgt := 24) F dX9_plans_171 (by decide) ?_
        exact wq_lsub [some (.ref (b + 0)), some (.int (wq_I j1)), some (.int (wq_I j2)), some (.int (wq_I (j3 + 1))), none, none] (by simp [wq_sub]) (hrec (j3 + 1) S h)
      · replace h := wq_iff hc h
        refine wq_iload F dX9_plans_158 rfl rfl ?_
        refine wq_if_eq (tgt := 168) F dX9_plans_160 (by decide) rfl (fun hc => ?_) (fun hc => ?_)
        · replace h := wq_ift hc h
          refine wq_iinc (L' := [some (.ref (b + 0)), some (.int (wq_I j1)), some (.int (wq_I j2)), some (.int (wq_I (j3 + 1))), some (.int (wq_I z0)), some (.int (wq_I 0))]) F dX9_plans_168 rfl (by decide) rfl rfl rfl ?_
          refine wq_goto (tgt := 24) F dX9_plans_171 (by decide) ?_
          exact wq_lsub [some (.ref (b + 0)), some (.int (wq_I j1)), some (.int (wq_I j2)), some (.int (wq_I (j3 + 1))), none, none] (by simp [wq_sub]) (hrec (j3 + 1) S h)
        · replace h := wq_iff hc h
          refine wq_aload_n F dX9_plans_163 rfl rfl rfl ?_
          refine wq_iload_n F dX9_plans_164 rfl rfl rfl ?_
          obtain ⟨r14, S15, h1r14, h⟩ := wq_bd_some h
          refine wq_callV (As := [.int (wq_I j1)]) F lk_X9_205 (ct_X9_triesWays h1r14) ⟨Nat.le_of_ble_eq_true rfl, Nat.le_of_ble_eq_true rfl⟩ ⟨Nat.le_of_ble_eq_true rfl, Nat.le_of_ble_eq_true rfl⟩ (Nat.le_of_ble_eq_true rfl) rfl rfl (fun _ h9 => h9) rfl rfl (Nat.le_of_ble_eq_true rfl) dX9_plans_165 rfl ?_
          refine wq_iinc (L' := [some (.ref (b + 0)), some (.int (wq_I j1)), some (.int (wq_I j2)), some (.int (wq_I (j3 + 1))), some (.int (wq_I z0)), some (.int (wq_I 0))]) F dX9_plans_168 rfl (by decide) rfl rfl rfl ?_
          refine wq_goto (tgt := 24) F dX9_plans_171 (by decide) ?_
          exact wq_lsub [some (.ref (b + 0)), some (.int (wq_I j1)), some (.int (wq_I j2)), some (.int (wq_I (j3 + 1))), none, none] (by simp [wq_sub]) (hrec (j3 + 1) S15 h)
    · replace h := wq_ift hc h
      refine wq_iload_n F dX9_plans_131 rfl rfl rfl ?_
      refine wq_iconst (n := 2) F dX9_plans_132 rfl ?_
      refine wq_icmp_eq (tgt := 146) F dX9_plans_133 (by decide) rfl (fun hc => ?_) (fun hc => ?_)
      · replace h := wq_ift hc h
        refine wq_iconst (n := 1) F dX9_plans_146 rfl ?_
        refine wq_goto (tgt := 151) F dX9_plans_147 (by decide) ?_
        refine wq_istore (L' := [some (.ref (b + 0)), some (.int (wq_I j1)), some (.int (wq_I j2)), some (.int (wq_I j3)), some (.int (wq_I z0)), some (.int (wq_I 1))]) F dX9_plans_151 (by decide) rfl rfl rfl ?_
        refine wq_iload F dX9_plans_153 rfl rfl ?_
        refine wq_if_eq (tgt := 168) F dX9_plans_155 (by decide) rfl (fun hc => ?_) (fun hc => ?_)
        · replace h := wq_ift hc h
          refine wq_iinc (L' := [some (.ref (b + 0)), some (.int (wq_I j1)), some (.int (wq_I j2)), some (.int (wq_I (j3 + 1))), some (.int (wq_I z0)), some (.int (wq_I 1))]) F dX9_plans_168 rfl (by decide) rfl rfl rfl ?_
          refine wq_goto (tgt := 24) F dX9_plans_171 (by decide) ?_
          exact wq_lsub [some (.ref (b + 0)), some (.int (wq_I j1)), some (.int (wq_I j2)), some (.int (wq_I (j3 + 1))), none, none] (by simp [wq_sub]) (hrec (j3 + 1) S h)
        · replace h := wq_iff hc h
          refine wq_iload F dX9_plans_158 rfl rfl ?_
          refine wq_if_eq (tgt := 168) F dX9_plans_160 (by decide) rfl (fun hc => ?_) (fun hc => ?_)
          · replace h := wq_ift hc h
            refine wq_iinc (L' := [some (.ref (b + 0)), some (.int (wq_I j1)), some (.int (wq_I j2)), some (.int (wq_I (j3 + 1))), some (.int (wq_I z0)), some (.int (wq_I 1))]) F dX9_plans_168 rfl (by decide) rfl rfl rfl ?_
            refine wq_goto (tgt := 24) F dX9_plans_171 (by decide) ?_
            exact wq_lsub [some (.ref (b + 0)), some (.int (wq_I j1)), some (.int (wq_I j2)), some (.int (wq_I (j3 + 1))), none, none] (by simp [wq_sub]) (hrec (j3 + 1) S h)
          · replace h := wq_iff hc h
            refine wq_aload_n F dX9_plans_163 rfl rfl rfl ?_
            refine wq_iload_n F dX9_plans_164 rfl rfl rfl ?_
            obtain ⟨r16, S17, h1r16, h⟩ := wq_bd_some h
            refine wq_callV (As := [.int (wq_I j1)]) F lk_X9_205 (ct_X9_triesWays h1r16) ⟨Nat.le_of_ble_eq_true rfl, Nat.le_of_ble_eq_true rfl⟩ ⟨Nat.le_of_ble_eq_true rfl, Nat.le_of_ble_eq_true rfl⟩ (Nat.le_of_ble_eq_true rfl) rfl rfl (fun _ h9 => h9) rfl rfl (Nat.le_of_ble_eq_true rfl) dX9_plans_165 rfl ?_
            refine wq_iinc (L' := [some (.ref (b + 0)), some (.int (wq_I j1)), some (.int (wq_I j2)), some (.int (wq_I (j3 + 1))), some (.int (wq_I z0)), some (.int (wq_I 1))]) F dX9_plans_168 rfl (by decide) rfl rfl rfl ?_
            refine wq_goto (tgt := 24) F dX9_plans_171 (by decide) ?_
            exact wq_lsub [some (.ref (b + 0)), some (.int (wq_I j1)), some (.int (wq_I j2)), some (.int (wq_I (j3 + 1))), none, none] (by simp [wq_sub]) (hrec (j3 + 1) S17 h)
      · replace h := wq_iff hc h
        refine wq_aload_n F dX9_plans_136 rfl rfl rfl ?_
        refine wq_g_X9_93 F dX9_plans_137 rfl ?_
        refine wq_iconst (n := 1) F dX9_plans_140 rfl ?_
        obtain ⟨t18, ht18, wt18, h⟩ := wq_ix_some h
        refine wq_iald F (Nat.le_of_ble_eq_true rfl) wq_EM_order ht18 wt18 dX9_plans_141 rfl ?_
        refine wq_iconst (n := 1) F dX9_plans_142 rfl ?_
        refine wq_icmp_ne (tgt := 150) F dX9_plans_143 (by decide) rfl (fun hc => ?_) (fun hc => ?_)
        · replace h := wq_iff hc h
          refine wq_iconst (n := 0) F dX9_plans_150 rfl ?_
          refine wq_istore (L' := [some (.ref (b + 0)), some (.int (wq_I j1)), some (.int (wq_I j2)), some (.int (wq_I j3)), some (.int (wq_I z0)), some (.int (wq_I 0))]) F dX9_plans_151 (by decide) rfl rfl rfl ?_
          refine wq_iload F dX9_plans_153 rfl rfl ?_
          refine wq_if_eq (tgt := 168) F dX9_plans_155 (by decide) rfl (fun hc => ?_) (fun hc => ?_)
          · replace h := wq_ift hc h
            refine wq_iinc (L' := [some (.ref (b + 0)), some (.int (wq_I j1)), some (.int (wq_I j2)), some (.int (wq_I (j3 + 1))), some (.int (wq_I z0)), some (.int (wq_I 0))]) F dX9_plans_168 rfl (by decide) rfl rfl rfl ?_
            refine wq_goto (tgt := 24) F dX9_plans_171 (by decide) ?_
            exact wq_lsub [some (.ref (b + 0)), some (.int (wq_I j1)), some (.int (wq_I j2)), some (.int (wq_I (j3 + 1))), none, none] (by simp [wq_sub]) (hrec (j3 + 1) S h)
          · replace h := wq_iff hc h
            refine wq_iload F dX9_plans_158 rfl rfl ?_
            refine wq_if_eq (tgt := 168) F dX9_plans_160 (by decide) rfl (fun hc => ?_) (fun hc => ?_)
            · replace h := wq_ift hc h
              refine wq_iinc (L' := [some (.ref (b + 0)), some (.int (wq_I j1)), some (.int (wq_I j2)), some (.int (wq_I (j3 + 1))), some (.int (wq_I z0)), some (.int (wq_I 0))]) F dX9_plans_168 rfl (by decide) rfl rfl rfl ?_
              refine wq_goto (tgt := 24) F dX9_plans_171 (by decide) ?_
              exact wq_lsub [some (.ref (b + 0)), some (.int (wq_I j1)), some (.int (wq_I j2)), some (.int (wq_I (j3 + 1))), none, none] (by simp [wq_sub]) (hrec (j3 + 1) S h)
            · replace h := wq_iff hc h
              refine wq_aload_n F dX9_plans_163 rfl rfl rfl ?_
              refine wq_iload_n F dX9_plans_164 rfl rfl rfl ?_
              obtain ⟨r19, S20, h1r19, h⟩ := wq_bd_some h
              refine wq_callV (As := [.int (wq_I j1)]) F lk_X9_205 (ct_X9_triesWays h1r19) ⟨Nat.le_of_ble_eq_true rfl, Nat.le_of_ble_eq_true rfl⟩ ⟨Nat.le_of_ble_eq_true rfl, Nat.le_of_ble_eq_true rfl⟩ (Nat.le_of_ble_eq_true rfl) rfl rfl (fun _ h9 => h9) rfl rfl (Nat.le_of_ble_eq_true rfl) dX9_plans_165 rfl ?_
              refine wq_iinc (L' := [some (.ref (b + 0)), some (.int (wq_I j1)), some (.int (wq_I j2)), some (.int (wq_I (j3 + 1))), some (.int (wq_I z0)), some (.int (wq_I 0))]) F dX9_plans_168 rfl (by decide) rfl rfl rfl ?_
              refine wq_goto (tgt := 24) F dX9_plans_171 (by decide) ?_
              exact wq_lsub [some (.ref (b + 0)), some (.int (wq_I j1)), some (.int (wq_I j2)), some (.int (wq_I (j3 + 1))), none, none] (by simp [wq_sub]) (hrec (j3 + 1) S20 h)
        · replace h := wq_ift hc h
          refine wq_iconst (n := 1) F dX9_plans_146 rfl ?_
          refine wq_goto (tgt := 151) F dX9_plans_147 (by decide) ?_
          refine wq_istore (L' := [some (.ref (b + 0)), some (.int (wq_I j1)), some (.int (wq_I j2)), some (.int (wq_I j3)), some (.int (wq_I z0)), some (.int (wq_I 1))]) F dX9_plans_151 (by decide) rfl rfl rfl ?_
          refine wq_iload F dX9_plans_153 rfl rfl ?_
          refine wq_if_eq (tgt := 168) F dX9_plans_155 (by decide) rfl (fun hc => ?_) (fun hc => ?_)
          · replace h := wq_ift hc h
            refine wq_iinc (L' := [some (.ref (b + 0)), some (.int (wq_I j1)), some (.int (wq_I j2)), some (.int (wq_I (j3 + 1))), some (.int (wq_I z0)), some (.int (wq_I 1))]) F dX9_plans_168 rfl (by decide) rfl rfl rfl ?_
            refine wq_goto (tgt := 24) F dX9_plans_171 (by decide) ?_
            exact wq_lsub [some (.ref (b + 0)), some (.int (wq_I j1)), some (.int (wq_I j2)), some (.int (wq_I (j3 + 1))), none, none] (by simp [wq_sub]) (hrec (j3 + 1) S h)
          · replace h := wq_iff hc h
            refine wq_iload F dX9_plans_158 rfl rfl ?_
            refine wq_if_eq (tgt := 168) F dX9_plans_160 (by decide) rfl (fun hc => ?_) (fun hc => ?_)
            · replace h := wq_ift hc h
              refine wq_iinc (L' := [some (.ref (b + 0)), some (.int (wq_I j1)), some (.int (wq_I j2)), some (.int (wq_I (j3 + 1))), some (.int (wq_I z0)), some (.int (wq_I 1))]) F dX9_plans_168 rfl (by decide) rfl rfl rfl ?_
              refine wq_goto (tgt := 24) F dX9_plans_171 (by decide) ?_
              exact wq_lsub [some (.ref (b + 0)), some (.int (wq_I j1)), some (.int (wq_I j2)), some (.int (wq_I (j3 + 1))), none, none] (by simp [wq_sub]) (hrec (j3 + 1) S h)
            · replace h := wq_iff hc h
              refine wq_aload_n F dX9_plans_163 rfl rfl rfl ?_
              refine wq_iload_n F dX9_plans_164 rfl rfl rfl ?_
              obtain ⟨r21, S22, h1r21, h⟩ := wq_bd_some h
              refine wq_callV (As := [.int (wq_I j1)]) F lk_X9_205 (ct_X9_triesWays h1r21) ⟨Nat.le_of_ble_eq_true rfl, Nat.le_of_ble_eq_true rfl⟩ ⟨Nat.le_of_ble_eq_true rfl, Nat.le_of_ble_eq_true rfl⟩ (Nat.le_of_ble_eq_true rfl) rfl rfl (fun _ h9 => h9) rfl rfl (Nat.le_of_ble_eq_true rfl) dX9_plans_165 rfl ?_
              refine wq_iinc (L' := [some (.ref (b + 0)), some (.int (wq_I j1)), some (.int (wq_I j2)), some (.int (wq_I (j3 + 1))), some (.int (wq_I z0)), some (.int (wq_I 1))]) F dX9_plans_168 rfl (by decide) rfl rfl rfl ?_
              refine wq_goto (tgt := 24) F dX9_plans_171 (by decide) ?_
              exact wq_lsub [some (.ref (b + 0)), some (.int (wq_I j1)), some (.int (wq_I j2)), some (.int (wq_I (j3 + 1))), none, none] (by simp [wq_sub]) (hrec (j3 + 1) S22 h)
set_option maxHeartbeats 4000000 in
set_option maxRecDepth 100000 in
theorem tj_X9_plans_113 {p : Program} {l : Launch} {e : Env} {s : State} {m : MethodId} {args : Array Value} {below : List Frame} {meth : Method} {c : Code} {D : va_G} {Ar : Nat → ClassId} {b : Nat} (F : wq_Fr p s m args meth c cX9_plans 6 ((Option.none : Option Jvm.ClassFile.FieldType)) "WharfQueryModel" D Ar) {r0 : Int} {S0 : wq_St} {kx : wq_St → Option (Int × wq_St)} {rec : Int → wq_St → Option (Int × wq_St)} {j1 : Int} {j2 : Int} {j3 : Int} (hkx : ∀ (S : wq_St), kx S = some (r0, S0) → wq_Z p l e (wq_rm 6 0 0) s m args below meth c D (wq_EM Ar b) b 32 6 (wq_Ab b 32) (MQ below (wq_Qc D (wq_EM Ar b) b 32 none S0) args s 0 0 (wq_Ab b 32)) 0 0 174 [some (.ref (b + 0)), none, none, none, none, none] [] S) (hrec : ∀ (y3 : Int) (S : wq_St), rec y3 S = some (r0, S0) → wq_Z p l e (wq_rm 6 0 0) s m args below meth c D (wq_EM Ar b) b 32 6 (wq_Ab b 32) (MQ below (wq_Qc D (wq_EM Ar b) b 32 none S0) args s 0 0 (wq_Ab b 32)) 0 0 24 [some (.ref (b + 0)), some (.int (wq_I j1)), some (.int (wq_I j2)), some (.int (wq_I y3)), none, none] [] S) (S : wq_St) (h : j_X9_plans_113 kx rec j1 j2 j3 S = some (r0, S0)) : wq_Z p l e (wq_rm 6 0 0) s m args below meth c D (wq_EM Ar b) b 32 6 (wq_Ab b 32) (MQ below (wq_Qc D (wq_EM Ar b) b 32 none S0) args s 0 0 (wq_Ab b 32)) 0 0 113 [some (.ref (b + 0)), some (.int (wq_I j1)), some (.int (wq_I j2)), some (.int (wq_I j3)), none, none] [] S := by
  unfold j_X9_plans_113 at h
  refine wq_iconst (n := 0) F dX9_plans_113 rfl ?_
  exact wq_lsub [some (.ref (b + 0)), some (.int (wq_I j1)), some (.int (wq_I j2)), some (.int (wq_I j3)), none, none] (by simp [wq_sub]) (tj_X9_plans_114 F hkx hrec 0 S h)
set_option maxHeartbeats 4000000 in
set_option maxRecDepth 100000 in
theorem tb_X9_plans_24 {p : Program} {l : Launch} {e : Env} {s : State} {m : MethodId} {args : Array Value} {below : List Frame} {meth : Method} {c : Code} {D : va_G} {Ar : Nat → ClassId} {b : Nat} (F : wq_Fr p s m args meth c cX9_plans 6 ((Option.none : Option Jvm.ClassFile.FieldType)) "WharfQueryModel" D Ar) {r0 : Int} {S0 : wq_St} {c1 : Int} {c2 : Int} {kx : wq_St → Option (Int × wq_St)} (hkx : ∀ (S : wq_St), kx S = some (r0, S0) → wq_Z p l e (wq_rm 6 0 0) s m args below meth c D (wq_EM Ar b) b 32 6 (wq_Ab b 32) (MQ below (wq_Qc D (wq_EM Ar b) b 32 none S0) args s 0 0 (wq_Ab b 32)) 0 0 174 [some (.ref (b + 0)), none, none, none, none, none] [] S) {rec : Int → wq_St → Option (Int × wq_St)} (hrec : ∀ (y3 : Int) (S : wq_St), rec y3 S = some (r0, S0) → wq_Z p l e (wq_rm 6 0 0) s m args below meth c D (wq_EM Ar b) b 32 6 (wq_Ab b 32) (MQ below (wq_Qc D (wq_EM Ar b) b 32 none S0) args s 0 0 (wq_Ab b 32)) 0 0 24 [some (.ref (b + 0)), some (.int (wq_I c1)), some (.int (wq_I c2)), some (.int (wq_I y3)), none, none] [] S) (y3 : Int) (S : wq_St) (h : b_X9_plans_24 c1 c2 kx rec y3 S = some (r0, S0)) : wq_Z p l e (wq_rm 6 0 0) s m args below meth c D (wq_EM Ar b) b 32 6 (wq_Ab b 32) (MQ below (wq_Qc D (wq_EM Ar b) b 32 none S0) args s 0 0 (wq_Ab b 32)) 0 0 24 [some (.ref (b + 0)), some (.int (wq_I c1)), some (.int (wq_I c2)), some (.int (wq_I y3)), none, none] [] S := by
  unfold b_X9_plans_24 at h
  refine wq_iload_n F dX9_plans_24 rfl rfl rfl ?_
  refine wq_bipush (n := 27) F dX9_plans_25 (by decide) rfl ?_
  refine wq_icmp_ge (tgt := 174) F dX9_plans_27 (by decide) rfl (fun hc => ?_) (fun hc => ?_)
  · replace h := wq_ift hc h
    exact wq_lsub [some (.ref (b + 0)), none, none, none, none, none] (by simp [wq_sub]) (hkx S h)
  · replace h := wq_iff hc h
    refine wq_iload_n F dX9_plans_30 rfl rfl rfl ?_
    refine wq_if_le (tgt := 174) F dX9_plans_31 (by decide) rfl (fun hc => ?_) (fun hc => ?_)
    · replace h := wq_ift hc h
      exact wq_lsub [some (.ref (b + 0)), none, none, none, none, none] (by simp [wq_sub]) (hkx S h)
    · replace h := wq_iff hc h
      refine wq_aload_n F dX9_plans_34 rfl rfl rfl ?_
      refine wq_g_X9_93 F dX9_plans_35 rfl ?_
      refine wq_iconst (n := 0) F dX9_plans_38 rfl ?_
      refine wq_iload_n F dX9_plans_39 rfl rfl rfl ?_
      refine wq_bipush (n := 9) F dX9_plans_40 (by decide) rfl ?_
      obtain ⟨hg, h⟩ := wq_gd_some h
      refine wq_idiv (hy := hg) F dX9_plans_42 rfl ?_
      obtain ⟨t3, ht3, wt3, h⟩ := wq_ix_some h
      refine wq_iast F (Nat.le_of_ble_eq_true rfl) wq_EM_order wq_EM_order ht3 wt3 ⟨Nat.le_add_right _ _, Nat.add_lt_add_left (Nat.le_of_ble_eq_true rfl) b⟩ dX9_plans_43 rfl ?_
      obtain ⟨S4, eS4, h⟩ := wq_lt_some h
      refine wq_namS eS4 ?_
      refine wq_aload_n F dX9_plans_44 rfl rfl rfl ?_
      refine wq_g_X9_93 F dX9_plans_45 rfl ?_
      refine wq_iconst (n := 1) F dX9_plans_48 rfl ?_
      refine wq_iload_n F dX9_plans_49 rfl rfl rfl ?_
      refine wq_iconst (n := 3) F dX9_plans_50 rfl ?_
      obtain ⟨hg, h⟩ := wq_gd_some h
      refine wq_idiv (hy := hg) F dX9_plans_51 rfl ?_
      refine wq_iconst (n := 3) F dX9_plans_52 rfl ?_
      obtain ⟨hg, h⟩ := wq_gd_some h
      refine wq_irem (hy := hg) F dX9_plans_53 rfl ?_
      obtain ⟨t5, ht5, wt5, h⟩ := wq_ix_some h
      refine wq_iast F (Nat.le_of_ble_eq_true rfl) wq_EM_order wq_EM_order ht5 wt5 ⟨Nat.le_add_right _ _, Nat.add_lt_add_left (Nat.le_of_ble_eq_true rfl) b⟩ dX9_plans_54 rfl ?_
      obtain ⟨S6, eS6, h⟩ := wq_lt_some h
      refine wq_namS eS6 ?_
      refine wq_aload_n F dX9_plans_55 rfl rfl rfl ?_
      refine wq_g_X9_93 F dX9_plans_56 rfl ?_
      refine wq_iconst (n := 2) F dX9_plans_59 rfl ?_
      refine wq_iload_n F dX9_plans_60 rfl rfl rfl ?_
      refine wq_iconst (n := 3) F dX9_plans_61 rfl ?_
      obtain ⟨hg, h⟩ := wq_gd_some h
      refine wq_irem (hy := hg) F dX9_plans_62 rfl ?_
      obtain ⟨t7, ht7, wt7, h⟩ := wq_ix_some h
      refine wq_iast F (Nat.le_of_ble_eq_true rfl) wq_EM_order wq_EM_order ht7 wt7 ⟨Nat.le_add_right _ _, Nat.add_lt_add_left (Nat.le_of_ble_eq_true rfl) b⟩ dX9_plans_63 rfl ?_
      obtain ⟨S8, eS8, h⟩ := wq_lt_some h
      refine wq_namS eS8 ?_
      refine wq_aload_n F dX9_plans_64 rfl rfl rfl ?_
      refine wq_g_X9_93 F dX9_plans_65 rfl ?_
      refine wq_iconst (n := 0) F dX9_plans_68 rfl ?_
      obtain ⟨t9, ht9, wt9, h⟩ := wq_ix_some h
      refine wq_iald F (Nat.le_of_ble_eq_true rfl) wq_EM_order ht9 wt9 dX9_plans_69 rfl ?_
      refine wq_aload_n F dX9_plans_70 rfl rfl rfl ?_
      refine wq_g_X9_93 F dX9_plans_71 rfl ?_
      refine wq_iconst (n := 1) F dX9_plans_74 rfl ?_
      obtain ⟨t10, ht10, wt10, h⟩ := wq_ix_some h
      refine wq_iald F (Nat.le_of_ble_eq_true rfl) wq_EM_order ht10 wt10 dX9_plans_75 rfl ?_
      refine wq_icmp_eq (tgt := 113) F dX9_plans_76 (by decide) rfl (fun hc => ?_) (fun hc => ?_)
      · replace h := wq_ift hc h
        exact wq_lsub [some (.ref (b + 0)), some (.int (wq_I c1)), some (.int (wq_I c2)), some (.int (wq_I y3)), none, none] (by simp [wq_sub]) (tj_X9_plans_113 F hkx hrec S8 h)
      · replace h := wq_iff hc h
        refine wq_aload_n F dX9_plans_79 rfl rfl rfl ?_
        refine wq_g_X9_93 F dX9_plans_80 rfl ?_
        refine wq_iconst (n := 0) F dX9_plans_83 rfl ?_
        obtain ⟨t23, ht23, wt23, h⟩ := wq_ix_some h
        refine wq_iald F (Nat.le_of_ble_eq_true rfl) wq_EM_order ht23 wt23 dX9_plans_84 rfl ?_
        refine wq_aload_n F dX9_plans_85 rfl rfl rfl ?_
        refine wq_g_X9_93 F dX9_plans_86 rfl ?_
        refine wq_iconst (n := 2) F dX9_plans_89 rfl ?_
        obtain ⟨t24, ht24, wt24, h⟩ := wq_ix_some h
        refine wq_iald F (Nat.le_of_ble_eq_true rfl) wq_EM_order ht24 wt24 dX9_plans_90 rfl ?_
        refine wq_icmp_eq (tgt := 113) F dX9_plans_91 (by decide) rfl (fun hc => ?_) (fun hc => ?_)
        · replace h := wq_ift hc h
          exact wq_lsub [some (.ref (b + 0)), some (.int (wq_I c1)), some (.int (wq_I c2)), some (.int (wq_I y3)), none, none] (by simp [wq_sub]) (tj_X9_plans_113 F hkx hrec S8 h)
        · replace h := wq_iff hc h
          refine wq_aload_n F dX9_plans_94 rfl rfl rfl ?_
          refine wq_g_X9_93 F dX9_plans_95 rfl ?_
          refine wq_iconst (n := 1) F dX9_plans_98 rfl ?_
          obtain ⟨t25, ht25, wt25, h⟩ := wq_ix_some h
          refine wq_iald F (Nat.le_of_ble_eq_true rfl) wq_EM_order ht25 wt25 dX9_plans_99 rfl ?_
          refine wq_aload_n F dX9_plans_100 rfl rfl rfl ?_
          refine wq_g_X9_93 F dX9_plans_101 rfl ?_
          refine wq_iconst (n := 2) F dX9_plans_104 rfl ?_
          obtain ⟨t26, ht26, wt26, h⟩ := wq_ix_some h
          refine wq_iald F (Nat.le_of_ble_eq_true rfl) wq_EM_order ht26 wt26 dX9_plans_105 rfl ?_
          refine wq_icmp_eq (tgt := 113) F dX9_plans_106 (by decide) rfl (fun hc => ?_) (fun hc => ?_)
          · replace h := wq_ift hc h
            exact wq_lsub [some (.ref (b + 0)), some (.int (wq_I c1)), some (.int (wq_I c2)), some (.int (wq_I y3)), none, none] (by simp [wq_sub]) (tj_X9_plans_113 F hkx hrec S8 h)
          · replace h := wq_iff hc h
            refine wq_iconst (n := 1) F dX9_plans_109 rfl ?_
            refine wq_goto (tgt := 114) F dX9_plans_110 (by decide) ?_
            exact wq_lsub [some (.ref (b + 0)), some (.int (wq_I c1)), some (.int (wq_I c2)), some (.int (wq_I y3)), none, none] (by simp [wq_sub]) (tj_X9_plans_114 F hkx hrec 1 S8 h)
set_option maxHeartbeats 4000000 in
set_option maxRecDepth 100000 in
theorem tl_X9_plans_24 {p : Program} {l : Launch} {e : Env} {s : State} {m : MethodId} {args : Array Value} {below : List Frame} {meth : Method} {c : Code} {D : va_G} {Ar : Nat → ClassId} {b : Nat} (F : wq_Fr p s m args meth c cX9_plans 6 ((Option.none : Option Jvm.ClassFile.FieldType)) "WharfQueryModel" D Ar) {r0 : Int} {S0 : wq_St} {c1 : Int} {c2 : Int} {kx : wq_St → Option (Int × wq_St)} (hkx : ∀ (S : wq_St), kx S = some (r0, S0) → wq_Z p l e (wq_rm 6 0 0) s m args below meth c D (wq_EM Ar b) b 32 6 (wq_Ab b 32) (MQ below (wq_Qc D (wq_EM Ar b) b 32 none S0) args s 0 0 (wq_Ab b 32)) 0 0 174 [some (.ref (b + 0)), none, none, none, none, none] [] S) (n : Nat) (y3 : Int) (S : wq_St) (h : l_X9_plans_24 c1 c2 kx n y3 S = some (r0, S0)) : wq_Z p l e (wq_rm 6 0 0) s m args below meth c D (wq_EM Ar b) b 32 6 (wq_Ab b 32) (MQ below (wq_Qc D (wq_EM Ar b) b 32 none S0) args s 0 0 (wq_Ab b 32)) 0 0 24 [some (.ref (b + 0)), some (.int (wq_I c1)), some (.int (wq_I c2)), some (.int (wq_I y3)), none, none] [] S :=
  wq_loop_ind (f := fun (g : Int × wq_St → Option (Int × wq_St)) (x : Int × wq_St) => b_X9_plans_24 c1 c2 kx (fun y3 S => g (y3, S)) x.1 x.2) (P := (fun x : Int × wq_St => wq_Z p l e (wq_rm 6 0 0) s m args below meth c D (wq_EM Ar b) b 32 6 (wq_Ab b 32) (MQ below (wq_Qc D (wq_EM Ar b) b 32 none S0) args s 0 0 (wq_Ab b 32)) 0 0 24 [some (.ref (b + 0)), some (.int (wq_I c1)), some (.int (wq_I c2)), some (.int (wq_I (x.1))), none, none] [] x.2)) (fun g hg x hx => tb_X9_plans_24 F hkx (fun y3 S h => hg (y3, S) h) x.1 x.2 hx) n (y3, S) h
set_option maxHeartbeats 4000000 in
set_option maxRecDepth 100000 in
theorem tb_X9_plans_176 {p : Program} {l : Launch} {e : Env} {s : State} {m : MethodId} {args : Array Value} {below : List Frame} {meth : Method} {c : Code} {D : va_G} {Ar : Nat → ClassId} {b : Nat} (F : wq_Fr p s m args meth c cX9_plans 6 ((Option.none : Option Jvm.ClassFile.FieldType)) "WharfQueryModel" D Ar) {r0 : Int} {S0 : wq_St} {kx : wq_St → Option (Int × wq_St)} (hkx : ∀ (S : wq_St), kx S = some (r0, S0) → wq_Z p l e (wq_rm 6 0 0) s m args below meth c D (wq_EM Ar b) b 32 6 (wq_Ab b 32) (MQ below (wq_Qc D (wq_EM Ar b) b 32 none S0) args s 0 0 (wq_Ab b 32)) 0 0 211 [none, none, none, none, none, none] [] S) {rec : Int → wq_St → Option (Int × wq_St)} (hrec : ∀ (y3 : Int) (S : wq_St), rec y3 S = some (r0, S0) → wq_Z p l e (wq_rm 6 0 0) s m args below meth c D (wq_EM Ar b) b 32 6 (wq_Ab b 32) (MQ below (wq_Qc D (wq_EM Ar b) b 32 none S0) args s 0 0 (wq_Ab b 32)) 0 0 176 [some (.ref (b + 0)), none, none, some (.int (wq_I y3)), none, none] [] S) (y3 : Int) (S : wq_St) (h : b_X9_plans_176 kx rec y3 S = some (r0, S0)) : wq_Z p l e (wq_rm 6 0 0) s m args below meth c D (wq_EM Ar b) b 32 6 (wq_Ab b 32) (MQ below (wq_Qc D (wq_EM Ar b) b 32 none S0) args s 0 0 (wq_Ab b 32)) 0 0 176 [some (.ref (b + 0)), none, none, some (.int (wq_I y3)), none, none] [] S := by
  unfold b_X9_plans_176 at h
  refine wq_iload_n F dX9_plans_176 rfl rfl rfl ?_
  refine wq_iconst (n := 3) F dX9_plans_177 rfl ?_
  refine wq_icmp_ge (tgt := 211) F dX9_plans_178 (by decide) rfl (fun hc => ?_) (fun hc => ?_)
  · replace h := wq_ift hc h
    exact wq_lsub [none, none, none, none, none, none] (by simp [wq_sub]) (hkx S h)
  · replace h := wq_iff hc h
    refine wq_aload_n F dX9_plans_181 rfl rfl rfl ?_
    refine wq_g_X9_93 F dX9_plans_182 rfl ?_
    refine wq_iload_n F dX9_plans_185 rfl rfl rfl ?_
    refine wq_aload_n F dX9_plans_186 rfl rfl rfl ?_
    refine wq_g_X9_99 F dX9_plans_187 rfl ?_
    refine wq_iload_n F dX9_plans_190 rfl rfl rfl ?_
    obtain ⟨t28, ht28, wt28, h⟩ := wq_ix_some h
    refine wq_iald F (Nat.le_of_ble_eq_true rfl) wq_EM_bestOrder ht28 wt28 dX9_plans_191 rfl ?_
    obtain ⟨t29, ht29, wt29, h⟩ := wq_ix_some h
    refine wq_iast F (Nat.le_of_ble_eq_true rfl) wq_EM_order wq_EM_order ht29 wt29 ⟨Nat.le_add_right _ _, Nat.add_lt_add_left (Nat.le_of_ble_eq_true rfl) b⟩ dX9_plans_192 rfl ?_
    obtain ⟨S30, eS30, h⟩ := wq_lt_some h
    refine wq_namS eS30 ?_
    refine wq_aload_n F dX9_plans_193 rfl rfl rfl ?_
    refine wq_g_X9_96 F dX9_plans_194 rfl ?_
    refine wq_iload_n F dX9_plans_197 rfl rfl rfl ?_
    refine wq_aload_n F dX9_plans_198 rfl rfl rfl ?_
    refine wq_g_X9_102 F dX9_plans_199 rfl ?_
    refine wq_iload_n F dX9_plans_202 rfl rfl rfl ?_
    obtain ⟨t31, ht31, wt31, h⟩ := wq_ix_some h
    refine wq_iald F (Nat.le_of_ble_eq_true rfl) wq_EM_bestWay ht31 wt31 dX9_plans_203 rfl ?_
    obtain ⟨t32, ht32, wt32, h⟩ := wq_ix_some h
    refine wq_iast F (Nat.le_of_ble_eq_true rfl) wq_EM_way wq_EM_way ht32 wt32 ⟨Nat.le_add_right _ _, Nat.add_lt_add_left (Nat.le_of_ble_eq_true rfl) b⟩ dX9_plans_204 rfl ?_
    obtain ⟨S33, eS33, h⟩ := wq_lt_some h
    refine wq_namS eS33 ?_
    refine wq_iinc (L' := [some (.ref (b + 0)), none, none, some (.int (wq_I (y3 + 1))), none, none]) F dX9_plans_205 rfl (by decide) rfl rfl rfl ?_
    refine wq_goto (tgt := 176) F dX9_plans_208 (by decide) ?_
    exact wq_lsub [some (.ref (b + 0)), none, none, some (.int (wq_I (y3 + 1))), none, none] (by simp [wq_sub]) (hrec (y3 + 1) S33 h)
set_option maxHeartbeats 4000000 in
set_option maxRecDepth 100000 in
theorem tl_X9_plans_176 {p : Program} {l : Launch} {e : Env} {s : State} {m : MethodId} {args : Array Value} {below : List Frame} {meth : Method} {c : Code} {D : va_G} {Ar : Nat → ClassId} {b : Nat} (F : wq_Fr p s m args meth c cX9_plans 6 ((Option.none : Option Jvm.ClassFile.FieldType)) "WharfQueryModel" D Ar) {r0 : Int} {S0 : wq_St} {kx : wq_St → Option (Int × wq_St)} (hkx : ∀ (S : wq_St), kx S = some (r0, S0) → wq_Z p l e (wq_rm 6 0 0) s m args below meth c D (wq_EM Ar b) b 32 6 (wq_Ab b 32) (MQ below (wq_Qc D (wq_EM Ar b) b 32 none S0) args s 0 0 (wq_Ab b 32)) 0 0 211 [none, none, none, none, none, none] [] S) (n : Nat) (y3 : Int) (S : wq_St) (h : l_X9_plans_176 kx n y3 S = some (r0, S0)) : wq_Z p l e (wq_rm 6 0 0) s m args below meth c D (wq_EM Ar b) b 32 6 (wq_Ab b 32) (MQ below (wq_Qc D (wq_EM Ar b) b 32 none S0) args s 0 0 (wq_Ab b 32)) 0 0 176 [some (.ref (b + 0)), none, none, some (.int (wq_I y3)), none, none] [] S :=
  wq_loop_ind (f := fun (g : Int × wq_St → Option (Int × wq_St)) (x : Int × wq_St) => b_X9_plans_176 kx (fun y3 S => g (y3, S)) x.1 x.2) (P := (fun x : Int × wq_St => wq_Z p l e (wq_rm 6 0 0) s m args below meth c D (wq_EM Ar b) b 32 6 (wq_Ab b 32) (MQ below (wq_Qc D (wq_EM Ar b) b 32 none S0) args s 0 0 (wq_Ab b 32)) 0 0 176 [some (.ref (b + 0)), none, none, some (.int (wq_I (x.1))), none, none] [] x.2)) (fun g hg x hx => tb_X9_plans_176 F hkx (fun y3 S h => hg (y3, S) h) x.1 x.2 hx) n (y3, S) h
set_option maxHeartbeats 4000000 in
set_option maxRecDepth 100000 in
theorem tj_X9_plans_174 {p : Program} {l : Launch} {e : Env} {s : State} {m : MethodId} {args : Array Value} {below : List Frame} {meth : Method} {c : Code} {D : va_G} {Ar : Nat → ClassId} {b : Nat} (F : wq_Fr p s m args meth c cX9_plans 6 ((Option.none : Option Jvm.ClassFile.FieldType)) "WharfQueryModel" D Ar) {r0 : Int} {S0 : wq_St} (S : wq_St) (h : j_X9_plans_174 S = some (r0, S0)) : wq_Z p l e (wq_rm 6 0 0) s m args below meth c D (wq_EM Ar b) b 32 6 (wq_Ab b 32) (MQ below (wq_Qc D (wq_EM Ar b) b 32 none S0) args s 0 0 (wq_Ab b 32)) 0 0 174 [some (.ref (b + 0)), none, none, none, none, none] [] S := by
  unfold j_X9_plans_174 at h
  refine wq_iconst (n := 0) F dX9_plans_174 rfl ?_
  refine wq_istore_n (L' := [some (.ref (b + 0)), none, none, some (.int (wq_I 0)), none, none]) F dX9_plans_175 rfl (by decide) rfl rfl rfl ?_
  refine wq_lsub [some (.ref (b + 0)), none, none, some (.int (wq_I 0)), none, none] (by simp [wq_sub]) (tl_X9_plans_176 F (fun S34 h => ?_) wq_fu 0 S h)
  cases h
  exact wq_vret F rfl rfl dX9_plans_211
set_option maxHeartbeats 4000000 in
set_option maxRecDepth 100000 in
theorem tj_X9_plans_19 {p : Program} {l : Launch} {e : Env} {s : State} {m : MethodId} {args : Array Value} {below : List Frame} {meth : Method} {c : Code} {D : va_G} {Ar : Nat → ClassId} {b : Nat} (F : wq_Fr p s m args meth c cX9_plans 6 ((Option.none : Option Jvm.ClassFile.FieldType)) "WharfQueryModel" D Ar) {r0 : Int} {S0 : wq_St} {j1 : Int} {j2 : Int} (z0 : Int) (S : wq_St) (h : j_X9_plans_19 j1 j2 z0 S = some (r0, S0)) : wq_Z p l e (wq_rm 6 0 0) s m args below meth c D (wq_EM Ar b) b 32 6 (wq_Ab b 32) (MQ below (wq_Qc D (wq_EM Ar b) b 32 none S0) args s 0 0 (wq_Ab b 32)) 0 0 19 [some (.ref (b + 0)), some (.int (wq_I j1)), some (.int (wq_I j2)), none, none, none] [.long (wq_J z0), .ref (b + 0)] S := by
  unfold j_X9_plans_19 at h
  refine wq_p_X9_201 F (fun _ h9 => h9) dX9_plans_19 rfl ?_
  obtain ⟨S2, eS2, h⟩ := wq_lt_some h
  refine wq_namS eS2 ?_
  refine wq_iconst (n := 0) F dX9_plans_22 rfl ?_
  refine wq_istore_n (L' := [some (.ref (b + 0)), some (.int (wq_I j1)), some (.int (wq_I j2)), some (.int (wq_I 0)), none, none]) F dX9_plans_23 rfl (by decide) rfl rfl rfl ?_
  refine wq_lsub [some (.ref (b + 0)), some (.int (wq_I j1)), some (.int (wq_I j2)), some (.int (wq_I 0)), none, none] (by simp [wq_sub]) (tl_X9_plans_24 F (fun S27 h => ?_) wq_fu 0 S2 h)
  exact wq_lsub [some (.ref (b + 0)), none, none, none, none, none] (by simp [wq_sub]) (tj_X9_plans_174 F S27 h)
set_option maxHeartbeats 4000000 in
set_option maxRecDepth 100000 in
theorem ct_X9_plans {l : Launch} {D : va_G} {Ar : Nat → ClassId} {b : Nat} {x1 : Int} {S S0 : wq_St} {r0 : Int} (h : f_X9_plans x1 S = some (r0, S0)) : wq_Ct l yX9_plans (.code yX9_plans cX9_plans 6 ((Option.none : Option Jvm.ClassFile.FieldType))) 6 D Ar (wq_EM Ar b) b 32 [.ref (b + 0), .int (wq_I x1)] S none S0 := by
  refine wq_start "WharfQueryModel" [some (.ref (b + 0)), some (.int (wq_I x1)), none, none, none, none] (by decide +kernel) rfl (Nat.le_of_ble_eq_true rfl) rfl ?_
  intro p e s m args below meth c F
  unfold f_X9_plans at h
  refine wq_aload_n F dX9_plans_0 rfl rfl rfl ?_
  refine wq_g_X9_51 F dX9_plans_1 rfl ?_
  refine wq_iload_n F dX9_plans_4 rfl rfl rfl ?_
  obtain ⟨t1, ht1, wt1, h⟩ := wq_ix_some h
  refine wq_iald F (Nat.le_of_ble_eq_true rfl) wq_EM_sources ht1 wt1 dX9_plans_5 rfl ?_
  refine wq_istore_n (L' := [some (.ref (b + 0)), some (.int (wq_I x1)), some (.int (wq_I (S 13 t1))), none, none, none]) F dX9_plans_6 rfl (by decide) rfl rfl rfl ?_
  refine wq_aload_n F dX9_plans_7 rfl rfl rfl ?_
  refine wq_iload_n F dX9_plans_8 rfl rfl rfl ?_
  refine wq_if_ne (tgt := 16) F dX9_plans_9 (by decide) rfl (fun hc => ?_) (fun hc => ?_)
  · replace h := wq_iff hc h
    refine wq_ldc2 (v := -1) F dX9_plans_16 aw_1270 (by decide) rfl ?_
    exact wq_lsub [some (.ref (b + 0)), some (.int (wq_I x1)), some (.int (wq_I (S 13 t1))), none, none, none] (by simp [wq_sub]) (tj_X9_plans_19 F (-1) S h)
  · replace h := wq_ift hc h
    refine wq_lconst (v := 0) F dX9_plans_12 rfl rfl ?_
    refine wq_goto (tgt := 19) F dX9_plans_13 (by decide) ?_
    exact wq_lsub [some (.ref (b + 0)), some (.int (wq_I x1)), some (.int (wq_I (S 13 t1))), none, none, none] (by simp [wq_sub]) (tj_X9_plans_19 F 0 S h)
set_option maxHeartbeats 4000000 in
set_option maxRecDepth 100000 in
theorem ct_X9_foretells {l : Launch} {D : va_G} {Ar : Nat → ClassId} {b : Nat} {x1 : Int} {S S0 : wq_St} {r0 : Int} (h : f_X9_foretells x1 S = some (r0, S0)) : wq_Ct l yX9_foretells (.code yX9_foretells cX9_foretells 2 ((Option.some Jvm.ClassFile.FieldType.int))) 7 D Ar (wq_EM Ar b) b 32 [.ref (b + 0), .int (wq_I x1)] S (some (.int (wq_I r0))) S0 := by
  refine wq_start "WharfQueryModel" [some (.ref (b + 0)), some (.int (wq_I x1))] (by decide +kernel) rfl (Nat.le_of_ble_eq_true rfl) rfl ?_
  intro p e s m args below meth c F
  unfold f_X9_foretells at h
  refine wq_aload_n F dX9_foretells_0 rfl rfl rfl ?_
  refine wq_iload_n F dX9_foretells_1 rfl rfl rfl ?_
  obtain ⟨r1, S2, h1r1, h⟩ := wq_bd_some h
  refine wq_callV (As := [.int (wq_I x1)]) F lk_X9_209 (ct_X9_plans h1r1) ⟨Nat.le_of_ble_eq_true rfl, Nat.le_of_ble_eq_true rfl⟩ ⟨Nat.le_of_ble_eq_true rfl, Nat.le_of_ble_eq_true rfl⟩ (Nat.le_of_ble_eq_true rfl) rfl rfl (fun _ h9 => h9) rfl rfl (Nat.le_of_ble_eq_true rfl) dX9_foretells_2 rfl ?_
  refine wq_aload_n F dX9_foretells_5 rfl rfl rfl ?_
  refine wq_g_X9_201 F dX9_foretells_6 rfl ?_
  refine wq_ldc2 (v := 999) F dX9_foretells_9 aw_1316 (by decide) rfl ?_
  refine wq_ladd F dX9_foretells_12 rfl ?_
  refine wq_ldc2 (v := 1000) F dX9_foretells_13 aw_1279 (by decide) rfl ?_
  obtain ⟨hg, h⟩ := wq_gd_some h
  refine wq_ldiv (hy := hg) F dX9_foretells_16 rfl ?_
  refine wq_l2i_ F dX9_foretells_17 rfl ?_
  cases h
  exact wq_iret F rfl rfl dX9_foretells_18
set_option maxHeartbeats 4000000 in
set_option maxRecDepth 100000 in
theorem ct_X9_pickedAt {l : Launch} {D : va_G} {Ar : Nat → ClassId} {b : Nat} {x1 : Int} {x2 : Int} {x3 : Int} {S S0 : wq_St} {r0 : Int} (h : f_X9_pickedAt x1 x2 x3 S = some (r0, S0)) : wq_Ct l yX9_pickedAt (.code yX9_pickedAt cX9_pickedAt 4 ((Option.some Jvm.ClassFile.FieldType.int))) 2 D Ar (wq_EM Ar b) b 32 [.ref (b + 0), .int (wq_I x1), .int (wq_I x2), .int (wq_I x3)] S (some (.int (wq_I r0))) S0 := by
  refine wq_start "WharfQueryModel" [some (.ref (b + 0)), some (.int (wq_I x1)), some (.int (wq_I x2)), some (.int (wq_I x3))] (by decide +kernel) rfl (Nat.le_of_ble_eq_true rfl) rfl ?_
  intro p e s m args below meth c F
  unfold f_X9_pickedAt at h
  refine wq_aload_n F dX9_pickedAt_0 rfl rfl rfl ?_
  refine wq_aload_n F dX9_pickedAt_1 rfl rfl rfl ?_
  refine wq_g_X9_54 F dX9_pickedAt_2 rfl ?_
  refine wq_iconst (n := 3) F dX9_pickedAt_5 rfl ?_
  refine wq_iload_n F dX9_pickedAt_6 rfl rfl rfl ?_
  refine wq_imul F dX9_pickedAt_7 rfl ?_
  refine wq_iload_n F dX9_pickedAt_8 rfl rfl rfl ?_
  refine wq_iadd F dX9_pickedAt_9 rfl ?_
  obtain ⟨t1, ht1, wt1, h⟩ := wq_ix_some h
  refine wq_iald F (Nat.le_of_ble_eq_true rfl) wq_EM_tableOf ht1 wt1 dX9_pickedAt_10 rfl ?_
  refine wq_aload_n F dX9_pickedAt_11 rfl rfl rfl ?_
  refine wq_g_X9_105 F dX9_pickedAt_12 rfl ?_
  refine wq_aload_n F dX9_pickedAt_15 rfl rfl rfl ?_
  refine wq_iload_n F dX9_pickedAt_16 rfl rfl rfl ?_
  obtain ⟨r2, S3, h1r2, h⟩ := wq_bd_some h
  refine wq_callV (As := [.int (wq_I x2)]) F lk_X9_174 (ct_X9_stepOf h1r2) ⟨Nat.le_of_ble_eq_true rfl, Nat.le_of_ble_eq_true rfl⟩ ⟨Nat.le_of_ble_eq_true rfl, Nat.le_of_ble_eq_true rfl⟩ (Nat.le_of_ble_eq_true rfl) rfl rfl (fun _ h9 => h9) rfl rfl (Nat.le_of_ble_eq_true rfl) dX9_pickedAt_17 rfl ?_
  obtain ⟨t4, ht4, wt4, h⟩ := wq_ix_some h
  refine wq_iald F (Nat.le_of_ble_eq_true rfl) wq_EM_pick ht4 wt4 dX9_pickedAt_20 rfl ?_
  refine wq_iload_n F dX9_pickedAt_21 rfl rfl rfl ?_
  obtain ⟨r5, S6, h1r5, h⟩ := wq_bd_some h
  refine wq_callV (As := [.int (wq_I (S 14 t1)), .int (wq_I (S3 31 t4)), .int (wq_I x3)]) F lk_X9_152 (ct_X9_valueAt h1r5) ⟨Nat.le_of_ble_eq_true rfl, Nat.le_of_ble_eq_true rfl⟩ ⟨Nat.le_of_ble_eq_true rfl, Nat.le_of_ble_eq_true rfl⟩ (Nat.le_of_ble_eq_true rfl) rfl rfl (fun _ h9 => h9) rfl rfl (Nat.le_of_ble_eq_true rfl) dX9_pickedAt_22 rfl ?_
  cases h
  exact wq_iret F rfl rfl dX9_pickedAt_25
set_option maxHeartbeats 4000000 in
set_option maxRecDepth 100000 in
theorem ct_X9_holds {l : Launch} {D : va_G} {Ar : Nat → ClassId} {b : Nat} {x1 : Int} {x2 : Int} {S S0 : wq_St} {r0 : Int} (h : f_X9_holds x1 x2 S = some (r0, S0)) : wq_Ct l yX9_holds (.code yX9_holds cX9_holds 4 ((Option.some Jvm.ClassFile.FieldType.boolean))) 3 D Ar (wq_EM Ar b) b 32 [.ref (b + 0), .int (wq_I x1), .int (wq_I x2)] S (some (.int (wq_I r0))) S0 := by
  refine wq_start "WharfQueryModel" [some (.ref (b + 0)), some (.int (wq_I x1)), some (.int (wq_I x2)), none] (by decide +kernel) rfl (Nat.le_of_ble_eq_true rfl) rfl ?_
  intro p e s m args below meth c F
  unfold f_X9_holds at h
  refine wq_aload_n F dX9_holds_0 rfl rfl rfl ?_
  refine wq_iload_n F dX9_holds_1 rfl rfl rfl ?_
  refine wq_aload_n F dX9_holds_2 rfl rfl rfl ?_
  refine wq_g_X9_63 F dX9_holds_3 rfl ?_
  refine wq_iload_n F dX9_holds_6 rfl rfl rfl ?_
  obtain ⟨t1, ht1, wt1, h⟩ := wq_ix_some h
  refine wq_iald F (Nat.le_of_ble_eq_true rfl) wq_EM_source ht1 wt1 dX9_holds_7 rfl ?_
  refine wq_aload_n F dX9_holds_8 rfl rfl rfl ?_
  refine wq_g_X9_66 F dX9_holds_9 rfl ?_
  refine wq_iload_n F dX9_holds_12 rfl rfl rfl ?_
  obtain ⟨t2, ht2, wt2, h⟩ := wq_ix_some h
  refine wq_iald F (Nat.le_of_ble_eq_true rfl) wq_EM_column ht2 wt2 dX9_holds_13 rfl ?_
  obtain ⟨r3, S4, h1r3, h⟩ := wq_bd_some h
  refine wq_callV (As := [.int (wq_I x1), .int (wq_I (S 17 t1)), .int (wq_I (S 18 t2))]) F lk_X9_214 (ct_X9_pickedAt h1r3) ⟨Nat.le_of_ble_eq_true rfl, Nat.le_of_ble_eq_true rfl⟩ ⟨Nat.le_of_ble_eq_true rfl, Nat.le_of_ble_eq_true rfl⟩ (Nat.le_of_ble_eq_true rfl) rfl rfl (fun _ h9 => h9) rfl rfl (Nat.le_of_ble_eq_true rfl) dX9_holds_14 rfl ?_
  refine wq_istore_n (L' := [some (.ref (b + 0)), some (.int (wq_I x1)), some (.int (wq_I x2)), some (.int (wq_I r3))]) F dX9_holds_17 rfl (by decide) rfl rfl rfl ?_
  refine wq_aload_n F dX9_holds_18 rfl rfl rfl ?_
  refine wq_g_X9_60 F dX9_holds_19 rfl ?_
  refine wq_iload_n F dX9_holds_22 rfl rfl rfl ?_
  obtain ⟨t5, ht5, wt5, h⟩ := wq_ix_some h
  refine wq_iald F (Nat.le_of_ble_eq_true rfl) wq_EM_kind ht5 wt5 dX9_holds_23 rfl ?_
  refine wq_if_ne (tgt := 45) F dX9_holds_24 (by decide) rfl (fun hc => ?_) (fun hc => ?_)
  · replace h := wq_iff hc h
    refine wq_aload_n F dX9_holds_45 rfl rfl rfl ?_
    refine wq_g_X9_60 F dX9_holds_46 rfl ?_
    refine wq_iload_n F dX9_holds_49 rfl rfl rfl ?_
    obtain ⟨t6, ht6, wt6, h⟩ := wq_ix_some h
    refine wq_iald F (Nat.le_of_ble_eq_true rfl) wq_EM_kind ht6 wt6 dX9_holds_50 rfl ?_
    refine wq_iconst (n := 1) F dX9_holds_51 rfl ?_
    refine wq_icmp_ne (tgt := 73) F dX9_holds_52 (by decide) rfl (fun hc => ?_) (fun hc => ?_)
    · replace h := wq_iff hc h
      refine wq_aload_n F dX9_holds_73 rfl rfl rfl ?_
      refine wq_g_X9_60 F dX9_holds_74 rfl ?_
      refine wq_iload_n F dX9_holds_77 rfl rfl rfl ?_
      obtain ⟨t7, ht7, wt7, h⟩ := wq_ix_some h
      refine wq_iald F (Nat.le_of_ble_eq_true rfl) wq_EM_kind ht7 wt7 dX9_holds_78 rfl ?_
      refine wq_iconst (n := 2) F dX9_holds_79 rfl ?_
      refine wq_icmp_ne (tgt := 101) F dX9_holds_80 (by decide) rfl (fun hc => ?_) (fun hc => ?_)
      · replace h := wq_iff hc h
        refine wq_iload_n F dX9_holds_101 rfl rfl rfl ?_
        refine wq_aload_n F dX9_holds_102 rfl rfl rfl ?_
        refine wq_iload_n F dX9_holds_103 rfl rfl rfl ?_
        refine wq_aload_n F dX9_holds_104 rfl rfl rfl ?_
        refine wq_g_X9_72 F dX9_holds_105 rfl ?_
        refine wq_iload_n F dX9_holds_108 rfl rfl rfl ?_
        obtain ⟨t8, ht8, wt8, h⟩ := wq_ix_some h
        refine wq_iald F (Nat.le_of_ble_eq_true rfl) wq_EM_other ht8 wt8 dX9_holds_109 rfl ?_
        refine wq_aload_n F dX9_holds_110 rfl rfl rfl ?_
        refine wq_g_X9_75 F dX9_holds_111 rfl ?_
        refine wq_iload_n F dX9_holds_114 rfl rfl rfl ?_
        obtain ⟨t9, ht9, wt9, h⟩ := wq_ix_some h
        refine wq_iald F (Nat.le_of_ble_eq_true rfl) wq_EM_otherColumn ht9 wt9 dX9_holds_115 rfl ?_
        obtain ⟨r10, S11, h1r10, h⟩ := wq_bd_some h
        refine wq_callV (As := [.int (wq_I x1), .int (wq_I (S4 20 t8)), .int (wq_I (S4 21 t9))]) F lk_X9_214 (ct_X9_pickedAt h1r10) ⟨Nat.le_of_ble_eq_true rfl, Nat.le_of_ble_eq_true rfl⟩ ⟨Nat.le_of_ble_eq_true rfl, Nat.le_of_ble_eq_true rfl⟩ (Nat.le_of_ble_eq_true rfl) rfl rfl (fun _ h9 => h9) rfl rfl (Nat.le_of_ble_eq_true rfl) dX9_holds_116 rfl ?_
        refine wq_icmp_ne (tgt := 126) F dX9_holds_119 (by decide) rfl (fun hc => ?_) (fun hc => ?_)
        · replace h := wq_iff hc h
          refine wq_iconst (n := 0) F dX9_holds_126 rfl ?_
          cases h
          exact wq_zret F (by decide) rfl rfl dX9_holds_127
        · replace h := wq_ift hc h
          refine wq_iconst (n := 1) F dX9_holds_122 rfl ?_
          refine wq_goto (tgt := 127) F dX9_holds_123 (by decide) ?_
          cases h
          exact wq_zret F (by decide) rfl rfl dX9_holds_127
      · replace h := wq_ift hc h
        refine wq_iload_n F dX9_holds_83 rfl rfl rfl ?_
        refine wq_aload_n F dX9_holds_84 rfl rfl rfl ?_
        refine wq_g_X9_69 F dX9_holds_85 rfl ?_
        refine wq_iload_n F dX9_holds_88 rfl rfl rfl ?_
        obtain ⟨t12, ht12, wt12, h⟩ := wq_ix_some h
        refine wq_iald F (Nat.le_of_ble_eq_true rfl) wq_EM_number ht12 wt12 dX9_holds_89 rfl ?_
        refine wq_icmp_le (tgt := 97) F dX9_holds_90 (by decide) rfl (fun hc => ?_) (fun hc => ?_)
        · replace h := wq_ift hc h
          refine wq_iconst (n := 0) F dX9_holds_97 rfl ?_
          refine wq_goto (tgt := 127) F dX9_holds_98 (by decide) ?_
          cases h
          exact wq_zret F (by decide) rfl rfl dX9_holds_127
        · replace h := wq_iff hc h
          refine wq_iconst (n := 1) F dX9_holds_93 rfl ?_
          refine wq_goto (tgt := 127) F dX9_holds_94 (by decide) ?_
          cases h
          exact wq_zret F (by decide) rfl rfl dX9_holds_127
    · replace h := wq_ift hc h
      refine wq_iload_n F dX9_holds_55 rfl rfl rfl ?_
      refine wq_aload_n F dX9_holds_56 rfl rfl rfl ?_
      refine wq_g_X9_69 F dX9_holds_57 rfl ?_
      refine wq_iload_n F dX9_holds_60 rfl rfl rfl ?_
      obtain ⟨t13, ht13, wt13, h⟩ := wq_ix_some h
      refine wq_iald F (Nat.le_of_ble_eq_true rfl) wq_EM_number ht13 wt13 dX9_holds_61 rfl ?_
      refine wq_icmp_ge (tgt := 69) F dX9_holds_62 (by decide) rfl (fun hc => ?_) (fun hc => ?_)
      · replace h := wq_ift hc h
        refine wq_iconst (n := 0) F dX9_holds_69 rfl ?_
        refine wq_goto (tgt := 127) F dX9_holds_70 (by decide) ?_
        cases h
        exact wq_zret F (by decide) rfl rfl dX9_holds_127
      · replace h := wq_iff hc h
        refine wq_iconst (n := 1) F dX9_holds_65 rfl ?_
        refine wq_goto (tgt := 127) F dX9_holds_66 (by decide) ?_
        cases h
        exact wq_zret F (by decide) rfl rfl dX9_holds_127
  · replace h := wq_ift hc h
    refine wq_iload_n F dX9_holds_27 rfl rfl rfl ?_
    refine wq_aload_n F dX9_holds_28 rfl rfl rfl ?_
    refine wq_g_X9_69 F dX9_holds_29 rfl ?_
    refine wq_iload_n F dX9_holds_32 rfl rfl rfl ?_
    obtain ⟨t14, ht14, wt14, h⟩ := wq_ix_some h
    refine wq_iald F (Nat.le_of_ble_eq_true rfl) wq_EM_number ht14 wt14 dX9_holds_33 rfl ?_
    refine wq_icmp_ne (tgt := 41) F dX9_holds_34 (by decide) rfl (fun hc => ?_) (fun hc => ?_)
    · replace h := wq_iff hc h
      refine wq_iconst (n := 0) F dX9_holds_41 rfl ?_
      refine wq_goto (tgt := 127) F dX9_holds_42 (by decide) ?_
      cases h
      exact wq_zret F (by decide) rfl rfl dX9_holds_127
    · replace h := wq_ift hc h
      refine wq_iconst (n := 1) F dX9_holds_37 rfl ?_
      refine wq_goto (tgt := 127) F dX9_holds_38 (by decide) ?_
      cases h
      exact wq_zret F (by decide) rfl rfl dX9_holds_127
set_option maxHeartbeats 4000000 in
set_option maxRecDepth 100000 in
theorem tb_X9_holdsAt_8 {p : Program} {l : Launch} {e : Env} {s : State} {m : MethodId} {args : Array Value} {below : List Frame} {meth : Method} {c : Code} {D : va_G} {Ar : Nat → ClassId} {b : Nat} (F : wq_Fr p s m args meth c cX9_holdsAt 5 ((Option.some Jvm.ClassFile.FieldType.boolean)) "WharfQueryModel" D Ar) {r0 : Int} {S0 : wq_St} {c1 : Int} {c2 : Int} {kx : Int → wq_St → Option (Int × wq_St)} (hkx : ∀ (u3 : Int) (S : wq_St), kx u3 S = some (r0, S0) → wq_Z p l e (wq_rm 4 0 0) s m args below meth c D (wq_EM Ar b) b 32 5 (wq_Ab b 32) (MQ below (wq_Qc D (wq_EM Ar b) b 32 (some (.int (wq_I r0))) S0) args s 0 0 (wq_Ab b 32)) 0 0 60 [none, none, none, some (.int (wq_I u3)), none] [] S) {rec : Int → Int → wq_St → Option (Int × wq_St)} (hrec : ∀ (y3 : Int) (y4 : Int) (S : wq_St), rec y3 y4 S = some (r0, S0) → wq_Z p l e (wq_rm 4 0 0) s m args below meth c D (wq_EM Ar b) b 32 5 (wq_Ab b 32) (MQ below (wq_Qc D (wq_EM Ar b) b 32 (some (.int (wq_I r0))) S0) args s 0 0 (wq_Ab b 32)) 0 0 8 [some (.ref (b + 0)), some (.int (wq_I c1)), some (.int (wq_I c2)), some (.int (wq_I y3)), some (.int (wq_I y4))] [] S) (y3 : Int) (y4 : Int) (S : wq_St) (h : b_X9_holdsAt_8 c1 c2 kx rec y3 y4 S = some (r0, S0)) : wq_Z p l e (wq_rm 4 0 0) s m args below meth c D (wq_EM Ar b) b 32 5 (wq_Ab b 32) (MQ below (wq_Qc D (wq_EM Ar b) b 32 (some (.int (wq_I r0))) S0) args s 0 0 (wq_Ab b 32)) 0 0 8 [some (.ref (b + 0)), some (.int (wq_I c1)), some (.int (wq_I c2)), some (.int (wq_I y3)), some (.int (wq_I y4))] [] S := by
  unfold b_X9_holdsAt_8 at h
  refine wq_iload F dX9_holdsAt_8 rfl rfl ?_
  refine wq_bipush (n := 6) F dX9_holdsAt_10 (by decide) rfl ?_
  refine wq_iload_n F dX9_holdsAt_12 rfl rfl rfl ?_
  refine wq_imul F dX9_holdsAt_13 rfl ?_
  refine wq_aload_n F dX9_holdsAt_14 rfl rfl rfl ?_
  refine wq_g_X9_57 F dX9_holdsAt_15 rfl ?_
  refine wq_iload_n F dX9_holdsAt_18 rfl rfl rfl ?_
  obtain ⟨t1, ht1, wt1, h⟩ := wq_ix_some h
  refine wq_iald F (Nat.le_of_ble_eq_true rfl) wq_EM_conditions ht1 wt1 dX9_holdsAt_19 rfl ?_
  refine wq_iadd F dX9_holdsAt_20 rfl ?_
  refine wq_icmp_ge (tgt := 60) F dX9_holdsAt_21 (by decide) rfl (fun hc => ?_) (fun hc => ?_)
  · replace h := wq_ift hc h
    exact wq_lsub [none, none, none, some (.int (wq_I y3)), none] (by simp [wq_sub]) (hkx y3 S h)
  · replace h := wq_iff hc h
    refine wq_iload_n F dX9_holdsAt_24 rfl rfl rfl ?_
    refine wq_if_eq (tgt := 52) F dX9_holdsAt_25 (by decide) rfl (fun hc => ?_) (fun hc => ?_)
    · replace h := wq_ift hc h
      refine wq_iconst (n := 0) F dX9_holdsAt_52 rfl ?_
      refine wq_istore_n (L' := [some (.ref (b + 0)), some (.int (wq_I c1)), some (.int (wq_I c2)), some (.int (wq_I 0)), some (.int (wq_I y4))]) F dX9_holdsAt_53 rfl (by decide) rfl rfl rfl ?_
      refine wq_iinc (L' := [some (.ref (b + 0)), some (.int (wq_I c1)), some (.int (wq_I c2)), some (.int (wq_I 0)), some (.int (wq_I (y4 + 1)))]) F dX9_holdsAt_54 rfl (by decide) rfl rfl rfl ?_
      refine wq_goto (tgt := 8) F dX9_holdsAt_57 (by decide) ?_
      exact wq_lsub [some (.ref (b + 0)), some (.int (wq_I c1)), some (.int (wq_I c2)), some (.int (wq_I 0)), some (.int (wq_I (y4 + 1)))] (by simp [wq_sub]) (hrec 0 (y4 + 1) S h)
    · replace h := wq_iff hc h
      refine wq_aload_n F dX9_holdsAt_28 rfl rfl rfl ?_
      refine wq_iload F dX9_holdsAt_29 rfl rfl ?_
      obtain ⟨r2, S3, h1r2, h⟩ := wq_bd_some h
      refine wq_callV (As := [.int (wq_I y4)]) F lk_X9_177 (ct_X9_stepOfCondition h1r2) ⟨Nat.le_of_ble_eq_true rfl, Nat.le_of_ble_eq_true rfl⟩ ⟨Nat.le_of_ble_eq_true rfl, Nat.le_of_ble_eq_true rfl⟩ (Nat.le_of_ble_eq_true rfl) rfl rfl (fun _ h9 => h9) rfl rfl (Nat.le_of_ble_eq_true rfl) dX9_holdsAt_31 rfl ?_
      refine wq_iload_n F dX9_holdsAt_34 rfl rfl rfl ?_
      refine wq_icmp_ne (tgt := 48) F dX9_holdsAt_35 (by decide) rfl (fun hc => ?_) (fun hc => ?_)
      · replace h := wq_iff hc h
        refine wq_iconst (n := 1) F dX9_holdsAt_48 rfl ?_
        refine wq_goto (tgt := 53) F dX9_holdsAt_49 (by decide) ?_
        refine wq_istore_n (L' := [some (.ref (b + 0)), some (.int (wq_I c1)), some (.int (wq_I c2)), some (.int (wq_I 1)), some (.int (wq_I y4))]) F dX9_holdsAt_53 rfl (by decide) rfl rfl rfl ?_
        refine wq_iinc (L' := [some (.ref (b + 0)), some (.int (wq_I c1)), some (.int (wq_I c2)), some (.int (wq_I 1)), some (.int (wq_I (y4 + 1)))]) F dX9_holdsAt_54 rfl (by decide) rfl rfl rfl ?_
        refine wq_goto (tgt := 8) F dX9_holdsAt_57 (by decide) ?_
        exact wq_lsub [some (.ref (b + 0)), some (.int (wq_I c1)), some (.int (wq_I c2)), some (.int (wq_I 1)), some (.int (wq_I (y4 + 1)))] (by simp [wq_sub]) (hrec 1 (y4 + 1) S3 h)
      · replace h := wq_ift hc h
        refine wq_aload_n F dX9_holdsAt_38 rfl rfl rfl ?_
        refine wq_iload_n F dX9_holdsAt_39 rfl rfl rfl ?_
        refine wq_iload F dX9_holdsAt_40 rfl rfl ?_
        obtain ⟨r4, S5, h1r4, h⟩ := wq_bd_some h
        refine wq_callV (As := [.int (wq_I c1), .int (wq_I y4)]) F lk_X9_217 (ct_X9_holds h1r4) ⟨Nat.le_of_ble_eq_true rfl, Nat.le_of_ble_eq_true rfl⟩ ⟨Nat.le_of_ble_eq_true rfl, Nat.le_of_ble_eq_true rfl⟩ (Nat.le_of_ble_eq_true rfl) rfl rfl (fun _ h9 => h9) rfl rfl (Nat.le_of_ble_eq_true rfl) dX9_holdsAt_42 rfl ?_
        refine wq_if_eq (tgt := 52) F dX9_holdsAt_45 (by decide) rfl (fun hc => ?_) (fun hc => ?_)
        · replace h := wq_ift hc h
          refine wq_iconst (n := 0) F dX9_holdsAt_52 rfl ?_
          refine wq_istore_n (L' := [some (.ref (b + 0)), some (.int (wq_I c1)), some (.int (wq_I c2)), some (.int (wq_I 0)), some (.int (wq_I y4))]) F dX9_holdsAt_53 rfl (by decide) rfl rfl rfl ?_
          refine wq_iinc (L' := [some (.ref (b + 0)), some (.int (wq_I c1)), some (.int (wq_I c2)), some (.int (wq_I 0)), some (.int (wq_I (y4 + 1)))]) F dX9_holdsAt_54 rfl (by decide) rfl rfl rfl ?_
          refine wq_goto (tgt := 8) F dX9_holdsAt_57 (by decide) ?_
          exact wq_lsub [some (.ref (b + 0)), some (.int (wq_I c1)), some (.int (wq_I c2)), some (.int (wq_I 0)), some (.int (wq_I (y4 + 1)))] (by simp [wq_sub]) (hrec 0 (y4 + 1) S5 h)
        · replace h := wq_iff hc h
          refine wq_iconst (n := 1) F dX9_holdsAt_48 rfl ?_
          refine wq_goto (tgt := 53) F dX9_holdsAt_49 (by decide) ?_
          refine wq_istore_n (L' := [some (.ref (b + 0)), some (.int (wq_I c1)), some (.int (wq_I c2)), some (.int (wq_I 1)), some (.int (wq_I y4))]) F dX9_holdsAt_53 rfl (by decide) rfl rfl rfl ?_
          refine wq_iinc (L' := [some (.ref (b + 0)), some (.int (wq_I c1)), some (.int (wq_I c2)), some (.int (wq_I 1)), some (.int (wq_I (y4 + 1)))]) F dX9_holdsAt_54 rfl (by decide) rfl rfl rfl ?_
          refine wq_goto (tgt := 8) F dX9_holdsAt_57 (by decide) ?_
          exact wq_lsub [some (.ref (b + 0)), some (.int (wq_I c1)), some (.int (wq_I c2)), some (.int (wq_I 1)), some (.int (wq_I (y4 + 1)))] (by simp [wq_sub]) (hrec 1 (y4 + 1) S5 h)
set_option maxHeartbeats 4000000 in
set_option maxRecDepth 100000 in
theorem tl_X9_holdsAt_8 {p : Program} {l : Launch} {e : Env} {s : State} {m : MethodId} {args : Array Value} {below : List Frame} {meth : Method} {c : Code} {D : va_G} {Ar : Nat → ClassId} {b : Nat} (F : wq_Fr p s m args meth c cX9_holdsAt 5 ((Option.some Jvm.ClassFile.FieldType.boolean)) "WharfQueryModel" D Ar) {r0 : Int} {S0 : wq_St} {c1 : Int} {c2 : Int} {kx : Int → wq_St → Option (Int × wq_St)} (hkx : ∀ (u3 : Int) (S : wq_St), kx u3 S = some (r0, S0) → wq_Z p l e (wq_rm 4 0 0) s m args below meth c D (wq_EM Ar b) b 32 5 (wq_Ab b 32) (MQ below (wq_Qc D (wq_EM Ar b) b 32 (some (.int (wq_I r0))) S0) args s 0 0 (wq_Ab b 32)) 0 0 60 [none, none, none, some (.int (wq_I u3)), none] [] S) (n : Nat) (y3 : Int) (y4 : Int) (S : wq_St) (h : l_X9_holdsAt_8 c1 c2 kx n y3 y4 S = some (r0, S0)) : wq_Z p l e (wq_rm 4 0 0) s m args below meth c D (wq_EM Ar b) b 32 5 (wq_Ab b 32) (MQ below (wq_Qc D (wq_EM Ar b) b 32 (some (.int (wq_I r0))) S0) args s 0 0 (wq_Ab b 32)) 0 0 8 [some (.ref (b + 0)), some (.int (wq_I c1)), some (.int (wq_I c2)), some (.int (wq_I y3)), some (.int (wq_I y4))] [] S :=
  wq_loop_ind (f := fun (g : Int × Int × wq_St → Option (Int × wq_St)) (x : Int × Int × wq_St) => b_X9_holdsAt_8 c1 c2 kx (fun y3 y4 S => g (y3, y4, S)) x.1 x.2.1 x.2.2) (P := (fun x : Int × Int × wq_St => wq_Z p l e (wq_rm 4 0 0) s m args below meth c D (wq_EM Ar b) b 32 5 (wq_Ab b 32) (MQ below (wq_Qc D (wq_EM Ar b) b 32 (some (.int (wq_I r0))) S0) args s 0 0 (wq_Ab b 32)) 0 0 8 [some (.ref (b + 0)), some (.int (wq_I c1)), some (.int (wq_I c2)), some (.int (wq_I (x.1))), some (.int (wq_I (x.2.1)))] [] x.2.2)) (fun g hg x hx => tb_X9_holdsAt_8 F hkx (fun y3 y4 S h => hg (y3, y4, S) h) x.1 x.2.1 x.2.2 hx) n (y3, y4, S) h
set_option maxHeartbeats 4000000 in
set_option maxRecDepth 100000 in
theorem ct_X9_holdsAt {l : Launch} {D : va_G} {Ar : Nat → ClassId} {b : Nat} {x1 : Int} {x2 : Int} {S S0 : wq_St} {r0 : Int} (h : f_X9_holdsAt x1 x2 S = some (r0, S0)) : wq_Ct l yX9_holdsAt (.code yX9_holdsAt cX9_holdsAt 5 ((Option.some Jvm.ClassFile.FieldType.boolean))) 4 D Ar (wq_EM Ar b) b 32 [.ref (b + 0), .int (wq_I x1), .int (wq_I x2)] S (some (.int (wq_I r0))) S0 := by
  refine wq_start "WharfQueryModel" [some (.ref (b + 0)), some (.int (wq_I x1)), some (.int (wq_I x2)), none, none] (by decide +kernel) rfl (Nat.le_of_ble_eq_true rfl) rfl ?_
  intro p e s m args below meth c F
  unfold f_X9_holdsAt at h
  refine wq_iconst (n := 1) F dX9_holdsAt_0 rfl ?_
  refine wq_istore_n (L' := [some (.ref (b + 0)), some (.int (wq_I x1)), some (.int (wq_I x2)), some (.int (wq_I 1)), none]) F dX9_holdsAt_1 rfl (by decide) rfl rfl rfl ?_
  refine wq_bipush (n := 6) F dX9_holdsAt_2 (by decide) rfl ?_
  refine wq_iload_n F dX9_holdsAt_4 rfl rfl rfl ?_
  refine wq_imul F dX9_holdsAt_5 rfl ?_
  refine wq_istore (L' := [some (.ref (b + 0)), some (.int (wq_I x1)), some (.int (wq_I x2)), some (.int (wq_I 1)), some (.int (wq_I (6 * x1)))]) F dX9_holdsAt_6 (by decide) rfl rfl rfl ?_
  refine wq_lsub [some (.ref (b + 0)), some (.int (wq_I x1)), some (.int (wq_I x2)), some (.int (wq_I 1)), some (.int (wq_I (6 * x1)))] (by simp [wq_sub]) (tl_X9_holdsAt_8 F (fun u6 S7 h => ?_) wq_fu 1 (6 * x1) S h)
  refine wq_iload_n F dX9_holdsAt_60 rfl rfl rfl ?_
  obtain ⟨hg, h⟩ := wq_gd_some h
  cases h
  exact wq_zret F hg rfl rfl dX9_holdsAt_61
set_option maxHeartbeats 4000000 in
set_option maxRecDepth 100000 in
theorem tb_X9_minutesAt_131 {p : Program} {l : Launch} {e : Env} {s : State} {m : MethodId} {args : Array Value} {below : List Frame} {meth : Method} {c : Code} {D : va_G} {Ar : Nat → ClassId} {b : Nat} (F : wq_Fr p s m args meth c cX9_minutesAt 8 ((Option.some Jvm.ClassFile.FieldType.int)) "WharfQueryModel" D Ar) {r0 : Int} {S0 : wq_St} {c2 : Int} {c3 : Int} {c5 : Int} {kx : Int → wq_St → Option (Int × wq_St)} (hkx : ∀ (u6 : Int) (S : wq_St), kx u6 S = some (r0, S0) → wq_Z p l e (wq_rm 4 0 0) s m args below meth c D (wq_EM Ar b) b 32 8 (wq_Ab b 32) (MQ below (wq_Qc D (wq_EM Ar b) b 32 (some (.int (wq_I r0))) S0) args s 0 0 (wq_Ab b 32)) 0 0 191 [none, none, none, none, none, none, some (.int (wq_I u6)), none] [] S) {rec : Int → Int → wq_St → Option (Int × wq_St)} (hrec : ∀ (y6 : Int) (y7 : Int) (S : wq_St), rec y6 y7 S = some (r0, S0) → wq_Z p l e (wq_rm 4 0 0) s m args below meth c D (wq_EM Ar b) b 32 8 (wq_Ab b 32) (MQ below (wq_Qc D (wq_EM Ar b) b 32 (some (.int (wq_I r0))) S0) args s 0 0 (wq_Ab b 32)) 0 0 131 [some (.ref (b + 0)), none, some (.int (wq_I c2)), some (.int (wq_I c3)), none, some (.int (wq_I c5)), some (.int (wq_I y6)), some (.int (wq_I y7))] [] S) (y6 : Int) (y7 : Int) (S : wq_St) (h : b_X9_minutesAt_131 c2 c3 c5 kx rec y6 y7 S = some (r0, S0)) : wq_Z p l e (wq_rm 4 0 0) s m args below meth c D (wq_EM Ar b) b 32 8 (wq_Ab b 32) (MQ below (wq_Qc D (wq_EM Ar b) b 32 (some (.int (wq_I r0))) S0) args s 0 0 (wq_Ab b 32)) 0 0 131 [some (.ref (b + 0)), none, some (.int (wq_I c2)), some (.int (wq_I c3)), none, some (.int (wq_I c5)), some (.int (wq_I y6)), some (.int (wq_I y7))] [] S := by
  unfold b_X9_minutesAt_131 at h
  refine wq_iload F dX9_minutesAt_131 rfl rfl ?_
  refine wq_aload_n F dX9_minutesAt_133 rfl rfl rfl ?_
  refine wq_g_X9_13 F dX9_minutesAt_134 rfl ?_
  refine wq_iload_n F dX9_minutesAt_137 rfl rfl rfl ?_
  obtain ⟨t14, ht14, wt14, h⟩ := wq_ix_some h
  refine wq_iald F (Nat.le_of_ble_eq_true rfl) wq_EM_inserted ht14 wt14 dX9_minutesAt_138 rfl ?_
  refine wq_icmp_ge (tgt := 191) F dX9_minutesAt_139 (by decide) rfl (fun hc => ?_) (fun hc => ?_)
  · replace h := wq_ift hc h
    exact wq_lsub [none, none, none, none, none, none, some (.int (wq_I y6)), none] (by simp [wq_sub]) (hkx y6 S h)
  · replace h := wq_iff hc h
    refine wq_iload F dX9_minutesAt_142 rfl rfl ?_
    refine wq_aload_n F dX9_minutesAt_144 rfl rfl rfl ?_
    refine wq_g_X9_16 F dX9_minutesAt_145 rfl ?_
    refine wq_bipush (n := 40) F dX9_minutesAt_148 (by decide) rfl ?_
    refine wq_iload_n F dX9_minutesAt_150 rfl rfl rfl ?_
    refine wq_imul F dX9_minutesAt_151 rfl ?_
    refine wq_iload F dX9_minutesAt_152 rfl rfl ?_
    refine wq_iadd F dX9_minutesAt_154 rfl ?_
    obtain ⟨t15, ht15, wt15, h⟩ := wq_ix_some h
    refine wq_zald F (Nat.le_of_ble_eq_true rfl) wq_EM_there ht15 wt15 dX9_minutesAt_155 rfl ?_
    refine wq_if_eq (tgt := 181) F dX9_minutesAt_156 (by decide) rfl (fun hc => ?_) (fun hc => ?_)
    · replace h := wq_ift hc h
      refine wq_iconst (n := 0) F dX9_minutesAt_181 rfl ?_
      refine wq_iadd F dX9_minutesAt_182 rfl ?_
      refine wq_istore (L' := [some (.ref (b + 0)), none, some (.int (wq_I c2)), some (.int (wq_I c3)), none, some (.int (wq_I c5)), some (.int (wq_I (y6 + 0))), some (.int (wq_I y7))]) F dX9_minutesAt_183 (by decide) rfl rfl rfl ?_
      refine wq_iinc (L' := [some (.ref (b + 0)), none, some (.int (wq_I c2)), some (.int (wq_I c3)), none, some (.int (wq_I c5)), some (.int (wq_I (y6 + 0))), some (.int (wq_I (y7 + 1)))]) F dX9_minutesAt_185 rfl (by decide) rfl rfl rfl ?_
      refine wq_goto (tgt := 131) F dX9_minutesAt_188 (by decide) ?_
      exact wq_lsub [some (.ref (b + 0)), none, some (.int (wq_I c2)), some (.int (wq_I c3)), none, some (.int (wq_I c5)), some (.int (wq_I (y6 + 0))), some (.int (wq_I (y7 + 1)))] (by simp [wq_sub]) (hrec (y6 + 0) (y7 + 1) S h)
    · replace h := wq_iff hc h
      refine wq_aload_n F dX9_minutesAt_159 rfl rfl rfl ?_
      refine wq_iload_n F dX9_minutesAt_160 rfl rfl rfl ?_
      refine wq_iload F dX9_minutesAt_161 rfl rfl ?_
      refine wq_aload_n F dX9_minutesAt_163 rfl rfl rfl ?_
      refine wq_g_X9_96 F dX9_minutesAt_164 rfl ?_
      refine wq_iload_n F dX9_minutesAt_167 rfl rfl rfl ?_
      obtain ⟨t16, ht16, wt16, h⟩ := wq_ix_some h
      refine wq_iald F (Nat.le_of_ble_eq_true rfl) wq_EM_way ht16 wt16 dX9_minutesAt_168 rfl ?_
      obtain ⟨r17, S18, h1r17, h⟩ := wq_bd_some h
      refine wq_callV (As := [.int (wq_I c3), .int (wq_I y7), .int (wq_I (S 28 t16))]) F lk_X9_152 (ct_X9_valueAt h1r17) ⟨Nat.le_of_ble_eq_true rfl, Nat.le_of_ble_eq_true rfl⟩ ⟨Nat.le_of_ble_eq_true rfl, Nat.le_of_ble_eq_true rfl⟩ (Nat.le_of_ble_eq_true rfl) rfl rfl (fun _ h9 => h9) rfl rfl (Nat.le_of_ble_eq_true rfl) dX9_minutesAt_169 rfl ?_
      refine wq_iload F dX9_minutesAt_172 rfl rfl ?_
      refine wq_icmp_ne (tgt := 181) F dX9_minutesAt_174 (by decide) rfl (fun hc => ?_) (fun hc => ?_)
      · replace h := wq_iff hc h
        refine wq_iconst (n := 0) F dX9_minutesAt_181 rfl ?_
        refine wq_iadd F dX9_minutesAt_182 rfl ?_
        refine wq_istore (L' := [some (.ref (b + 0)), none, some (.int (wq_I c2)), some (.int (wq_I c3)), none, some (.int (wq_I c5)), some (.int (wq_I (y6 + 0))), some (.int (wq_I y7))]) F dX9_minutesAt_183 (by decide) rfl rfl rfl ?_
        refine wq_iinc (L' := [some (.ref (b + 0)), none, some (.int (wq_I c2)), some (.int (wq_I c3)), none, some (.int (wq_I c5)), some (.int (wq_I (y6 + 0))), some (.int (wq_I (y7 + 1)))]) F dX9_minutesAt_185 rfl (by decide) rfl rfl rfl ?_
        refine wq_goto (tgt := 131) F dX9_minutesAt_188 (by decide) ?_
        exact wq_lsub [some (.ref (b + 0)), none, some (.int (wq_I c2)), some (.int (wq_I c3)), none, some (.int (wq_I c5)), some (.int (wq_I (y6 + 0))), some (.int (wq_I (y7 + 1)))] (by simp [wq_sub]) (hrec (y6 + 0) (y7 + 1) S18 h)
      · replace h := wq_ift hc h
        refine wq_iconst (n := 1) F dX9_minutesAt_177 rfl ?_
        refine wq_goto (tgt := 182) F dX9_minutesAt_178 (by decide) ?_
        refine wq_iadd F dX9_minutesAt_182 rfl ?_
        refine wq_istore (L' := [some (.ref (b + 0)), none, some (.int (wq_I c2)), some (.int (wq_I c3)), none, some (.int (wq_I c5)), some (.int (wq_I (y6 + 1))), some (.int (wq_I y7))]) F dX9_minutesAt_183 (by decide) rfl rfl rfl ?_
        refine wq_iinc (L' := [some (.ref (b + 0)), none, some (.int (wq_I c2)), some (.int (wq_I c3)), none, some (.int (wq_I c5)), some (.int (wq_I (y6 + 1))), some (.int (wq_I (y7 + 1)))]) F dX9_minutesAt_185 rfl (by decide) rfl rfl rfl ?_
        refine wq_goto (tgt := 131) F dX9_minutesAt_188 (by decide) ?_
        exact wq_lsub [some (.ref (b + 0)), none, some (.int (wq_I c2)), some (.int (wq_I c3)), none, some (.int (wq_I c5)), some (.int (wq_I (y6 + 1))), some (.int (wq_I (y7 + 1)))] (by simp [wq_sub]) (hrec (y6 + 1) (y7 + 1) S18 h)
set_option maxHeartbeats 4000000 in
set_option maxRecDepth 100000 in
theorem tl_X9_minutesAt_131 {p : Program} {l : Launch} {e : Env} {s : State} {m : MethodId} {args : Array Value} {below : List Frame} {meth : Method} {c : Code} {D : va_G} {Ar : Nat → ClassId} {b : Nat} (F : wq_Fr p s m args meth c cX9_minutesAt 8 ((Option.some Jvm.ClassFile.FieldType.int)) "WharfQueryModel" D Ar) {r0 : Int} {S0 : wq_St} {c2 : Int} {c3 : Int} {c5 : Int} {kx : Int → wq_St → Option (Int × wq_St)} (hkx : ∀ (u6 : Int) (S : wq_St), kx u6 S = some (r0, S0) → wq_Z p l e (wq_rm 4 0 0) s m args below meth c D (wq_EM Ar b) b 32 8 (wq_Ab b 32) (MQ below (wq_Qc D (wq_EM Ar b) b 32 (some (.int (wq_I r0))) S0) args s 0 0 (wq_Ab b 32)) 0 0 191 [none, none, none, none, none, none, some (.int (wq_I u6)), none] [] S) (n : Nat) (y6 : Int) (y7 : Int) (S : wq_St) (h : l_X9_minutesAt_131 c2 c3 c5 kx n y6 y7 S = some (r0, S0)) : wq_Z p l e (wq_rm 4 0 0) s m args below meth c D (wq_EM Ar b) b 32 8 (wq_Ab b 32) (MQ below (wq_Qc D (wq_EM Ar b) b 32 (some (.int (wq_I r0))) S0) args s 0 0 (wq_Ab b 32)) 0 0 131 [some (.ref (b + 0)), none, some (.int (wq_I c2)), some (.int (wq_I c3)), none, some (.int (wq_I c5)), some (.int (wq_I y6)), some (.int (wq_I y7))] [] S :=
  wq_loop_ind (f := fun (g : Int × Int × wq_St → Option (Int × wq_St)) (x : Int × Int × wq_St) => b_X9_minutesAt_131 c2 c3 c5 kx (fun y6 y7 S => g (y6, y7, S)) x.1 x.2.1 x.2.2) (P := (fun x : Int × Int × wq_St => wq_Z p l e (wq_rm 4 0 0) s m args below meth c D (wq_EM Ar b) b 32 8 (wq_Ab b 32) (MQ below (wq_Qc D (wq_EM Ar b) b 32 (some (.int (wq_I r0))) S0) args s 0 0 (wq_Ab b 32)) 0 0 131 [some (.ref (b + 0)), none, some (.int (wq_I c2)), some (.int (wq_I c3)), none, some (.int (wq_I c5)), some (.int (wq_I (x.1))), some (.int (wq_I (x.2.1)))] [] x.2.2)) (fun g hg x hx => tb_X9_minutesAt_131 F hkx (fun y6 y7 S h => hg (y6, y7, S) h) x.1 x.2.1 x.2.2 hx) n (y6, y7, S) h
set_option maxHeartbeats 4000000 in
set_option maxRecDepth 100000 in
theorem tj_X9_minutesAt_123 {p : Program} {l : Launch} {e : Env} {s : State} {m : MethodId} {args : Array Value} {below : List Frame} {meth : Method} {c : Code} {D : va_G} {Ar : Nat → ClassId} {b : Nat} (F : wq_Fr p s m args meth c cX9_minutesAt 8 ((Option.some Jvm.ClassFile.FieldType.int)) "WharfQueryModel" D Ar) {r0 : Int} {S0 : wq_St} {j2 : Int} {j3 : Int} (z0 : Int) (S : wq_St) (h : j_X9_minutesAt_123 j2 j3 z0 S = some (r0, S0)) : wq_Z p l e (wq_rm 4 0 0) s m args below meth c D (wq_EM Ar b) b 32 8 (wq_Ab b 32) (MQ below (wq_Qc D (wq_EM Ar b) b 32 (some (.int (wq_I r0))) S0) args s 0 0 (wq_Ab b 32)) 0 0 123 [some (.ref (b + 0)), none, some (.int (wq_I j2)), some (.int (wq_I j3)), none, none, none, none] [.int (wq_I z0)] S := by
  unfold j_X9_minutesAt_123 at h
  refine wq_istore (L' := [some (.ref (b + 0)), none, some (.int (wq_I j2)), some (.int (wq_I j3)), none, some (.int (wq_I z0)), none, none]) F dX9_minutesAt_123 (by decide) rfl rfl rfl ?_
  refine wq_iconst (n := 1) F dX9_minutesAt_125 rfl ?_
  refine wq_istore (L' := [some (.ref (b + 0)), none, some (.int (wq_I j2)), some (.int (wq_I j3)), none, some (.int (wq_I z0)), some (.int (wq_I 1)), none]) F dX9_minutesAt_126 (by decide) rfl rfl rfl ?_
  refine wq_iconst (n := 0) F dX9_minutesAt_128 rfl ?_
  refine wq_istore (L' := [some (.ref (b + 0)), none, some (.int (wq_I j2)), some (.int (wq_I j3)), none, some (.int (wq_I z0)), some (.int (wq_I 1)), some (.int (wq_I 0))]) F dX9_minutesAt_129 (by decide) rfl rfl rfl ?_
  refine wq_lsub [some (.ref (b + 0)), none, some (.int (wq_I j2)), some (.int (wq_I j3)), none, some (.int (wq_I z0)), some (.int (wq_I 1)), some (.int (wq_I 0))] (by simp [wq_sub]) (tl_X9_minutesAt_131 F (fun u19 S20 h => ?_) wq_fu 1 0 S h)
  refine wq_iload F dX9_minutesAt_191 rfl rfl ?_
  cases h
  exact wq_iret F rfl rfl dX9_minutesAt_193
set_option maxHeartbeats 4000000 in
set_option maxRecDepth 100000 in
theorem ct_X9_minutesAt {l : Launch} {D : va_G} {Ar : Nat → ClassId} {b : Nat} {x1 : Int} {x2 : Int} {S S0 : wq_St} {r0 : Int} (h : f_X9_minutesAt x1 x2 S = some (r0, S0)) : wq_Ct l yX9_minutesAt (.code yX9_minutesAt cX9_minutesAt 8 ((Option.some Jvm.ClassFile.FieldType.int))) 4 D Ar (wq_EM Ar b) b 32 [.ref (b + 0), .int (wq_I x1), .int (wq_I x2)] S (some (.int (wq_I r0))) S0 := by
  refine wq_start "WharfQueryModel" [some (.ref (b + 0)), some (.int (wq_I x1)), some (.int (wq_I x2)), none, none, none, none, none] (by decide +kernel) rfl (Nat.le_of_ble_eq_true rfl) rfl ?_
  intro p e s m args below meth c F
  unfold f_X9_minutesAt at h
  refine wq_aload_n F dX9_minutesAt_0 rfl rfl rfl ?_
  refine wq_g_X9_54 F dX9_minutesAt_1 rfl ?_
  refine wq_iconst (n := 3) F dX9_minutesAt_4 rfl ?_
  refine wq_iload_n F dX9_minutesAt_5 rfl rfl rfl ?_
  refine wq_imul F dX9_minutesAt_6 rfl ?_
  refine wq_aload_n F dX9_minutesAt_7 rfl rfl rfl ?_
  refine wq_g_X9_93 F dX9_minutesAt_8 rfl ?_
  refine wq_iload_n F dX9_minutesAt_11 rfl rfl rfl ?_
  obtain ⟨t1, ht1, wt1, h⟩ := wq_ix_some h
  refine wq_iald F (Nat.le_of_ble_eq_true rfl) wq_EM_order ht1 wt1 dX9_minutesAt_12 rfl ?_
  refine wq_iadd F dX9_minutesAt_13 rfl ?_
  obtain ⟨t2, ht2, wt2, h⟩ := wq_ix_some h
  refine wq_iald F (Nat.le_of_ble_eq_true rfl) wq_EM_tableOf ht2 wt2 dX9_minutesAt_14 rfl ?_
  refine wq_istore_n (L' := [some (.ref (b + 0)), some (.int (wq_I x1)), some (.int (wq_I x2)), some (.int (wq_I (S 14 t2))), none, none, none, none]) F dX9_minutesAt_15 rfl (by decide) rfl rfl rfl ?_
  refine wq_aload_n F dX9_minutesAt_16 rfl rfl rfl ?_
  refine wq_g_X9_96 F dX9_minutesAt_17 rfl ?_
  refine wq_iload_n F dX9_minutesAt_20 rfl rfl rfl ?_
  obtain ⟨t3, ht3, wt3, h⟩ := wq_ix_some h
  refine wq_iald F (Nat.le_of_ble_eq_true rfl) wq_EM_way ht3 wt3 dX9_minutesAt_21 rfl ?_
  refine wq_iconst (n := -1) F dX9_minutesAt_22 rfl ?_
  refine wq_icmp_ne (tgt := 32) F dX9_minutesAt_23 (by decide) rfl (fun hc => ?_) (fun hc => ?_)
  · replace h := wq_iff hc h
    refine wq_aload_n F dX9_minutesAt_32 rfl rfl rfl ?_
    refine wq_iload_n F dX9_minutesAt_33 rfl rfl rfl ?_
    refine wq_iload_n F dX9_minutesAt_34 rfl rfl rfl ?_
    refine wq_aload_n F dX9_minutesAt_35 rfl rfl rfl ?_
    refine wq_g_X9_96 F dX9_minutesAt_36 rfl ?_
    refine wq_iload_n F dX9_minutesAt_39 rfl rfl rfl ?_
    obtain ⟨t4, ht4, wt4, h⟩ := wq_ix_some h
    refine wq_iald F (Nat.le_of_ble_eq_true rfl) wq_EM_way ht4 wt4 dX9_minutesAt_40 rfl ?_
    obtain ⟨r5, S6, h1r5, h⟩ := wq_bd_some h
    refine wq_callV (As := [.int (wq_I x1), .int (wq_I x2), .int (wq_I (S 28 t4))]) F lk_X9_188 (ct_X9_useOf h1r5) ⟨Nat.le_of_ble_eq_true rfl, Nat.le_of_ble_eq_true rfl⟩ ⟨Nat.le_of_ble_eq_true rfl, Nat.le_of_ble_eq_true rfl⟩ (Nat.le_of_ble_eq_true rfl) rfl rfl (fun _ h9 => h9) rfl rfl (Nat.le_of_ble_eq_true rfl) dX9_minutesAt_41 rfl ?_
    refine wq_istore (L' := [some (.ref (b + 0)), some (.int (wq_I x1)), some (.int (wq_I x2)), some (.int (wq_I (S 14 t2))), some (.int (wq_I r5)), none, none, none]) F dX9_minutesAt_44 (by decide) rfl rfl rfl ?_
    refine wq_aload_n F dX9_minutesAt_46 rfl rfl rfl ?_
    refine wq_g_X9_60 F dX9_minutesAt_47 rfl ?_
    refine wq_iload F dX9_minutesAt_50 rfl rfl ?_
    obtain ⟨t7, ht7, wt7, h⟩ := wq_ix_some h
    refine wq_iald F (Nat.le_of_ble_eq_true rfl) wq_EM_kind ht7 wt7 dX9_minutesAt_52 rfl ?_
    refine wq_if_ne (tgt := 66) F dX9_minutesAt_53 (by decide) rfl (fun hc => ?_) (fun hc => ?_)
    · replace h := wq_iff hc h
      refine wq_aload_n F dX9_minutesAt_66 rfl rfl rfl ?_
      refine wq_g_X9_63 F dX9_minutesAt_67 rfl ?_
      refine wq_iload F dX9_minutesAt_70 rfl rfl ?_
      obtain ⟨t8, ht8, wt8, h⟩ := wq_ix_some h
      refine wq_iald F (Nat.le_of_ble_eq_true rfl) wq_EM_source ht8 wt8 dX9_minutesAt_72 rfl ?_
      refine wq_aload_n F dX9_minutesAt_73 rfl rfl rfl ?_
      refine wq_g_X9_93 F dX9_minutesAt_74 rfl ?_
      refine wq_iload_n F dX9_minutesAt_77 rfl rfl rfl ?_
      obtain ⟨t9, ht9, wt9, h⟩ := wq_ix_some h
      refine wq_iald F (Nat.le_of_ble_eq_true rfl) wq_EM_order ht9 wt9 dX9_minutesAt_78 rfl ?_
      refine wq_icmp_ne (tgt := 104) F dX9_minutesAt_79 (by decide) rfl (fun hc => ?_) (fun hc => ?_)
      · replace h := wq_iff hc h
        refine wq_aload_n F dX9_minutesAt_104 rfl rfl rfl ?_
        refine wq_iload_n F dX9_minutesAt_105 rfl rfl rfl ?_
        refine wq_aload_n F dX9_minutesAt_106 rfl rfl rfl ?_
        refine wq_g_X9_63 F dX9_minutesAt_107 rfl ?_
        refine wq_iload F dX9_minutesAt_110 rfl rfl ?_
        obtain ⟨t10, ht10, wt10, h⟩ := wq_ix_some h
        refine wq_iald F (Nat.le_of_ble_eq_true rfl) wq_EM_source ht10 wt10 dX9_minutesAt_112 rfl ?_
        refine wq_aload_n F dX9_minutesAt_113 rfl rfl rfl ?_
        refine wq_g_X9_66 F dX9_minutesAt_114 rfl ?_
        refine wq_iload F dX9_minutesAt_117 rfl rfl ?_
        obtain ⟨t11, ht11, wt11, h⟩ := wq_ix_some h
        refine wq_iald F (Nat.le_of_ble_eq_true rfl) wq_EM_column ht11 wt11 dX9_minutesAt_119 rfl ?_
        obtain ⟨r12, S13, h1r12, h⟩ := wq_bd_some h
        refine wq_callV (As := [.int (wq_I x1), .int (wq_I (S6 17 t10)), .int (wq_I (S6 18 t11))]) F lk_X9_214 (ct_X9_pickedAt h1r12) ⟨Nat.le_of_ble_eq_true rfl, Nat.le_of_ble_eq_true rfl⟩ ⟨Nat.le_of_ble_eq_true rfl, Nat.le_of_ble_eq_true rfl⟩ (Nat.le_of_ble_eq_true rfl) rfl rfl (fun _ h9 => h9) rfl rfl (Nat.le_of_ble_eq_true rfl) dX9_minutesAt_120 rfl ?_
        exact wq_lsub [some (.ref (b + 0)), none, some (.int (wq_I x2)), some (.int (wq_I (S 14 t2))), none, none, none, none] (by simp [wq_sub]) (tj_X9_minutesAt_123 F r12 S13 h)
      · replace h := wq_ift hc h
        refine wq_aload_n F dX9_minutesAt_82 rfl rfl rfl ?_
        refine wq_iload_n F dX9_minutesAt_83 rfl rfl rfl ?_
        refine wq_aload_n F dX9_minutesAt_84 rfl rfl rfl ?_
        refine wq_g_X9_72 F dX9_minutesAt_85 rfl ?_
        refine wq_iload F dX9_minutesAt_88 rfl rfl ?_
        obtain ⟨t21, ht21, wt21, h⟩ := wq_ix_some h
        refine wq_iald F (Nat.le_of_ble_eq_true rfl) wq_EM_other ht21 wt21 dX9_minutesAt_90 rfl ?_
        refine wq_aload_n F dX9_minutesAt_91 rfl rfl rfl ?_
        refine wq_g_X9_75 F dX9_minutesAt_92 rfl ?_
        refine wq_iload F dX9_minutesAt_95 rfl rfl ?_
        obtain ⟨t22, ht22, wt22, h⟩ := wq_ix_some h
        refine wq_iald F (Nat.le_of_ble_eq_true rfl) wq_EM_otherColumn ht22 wt22 dX9_minutesAt_97 rfl ?_
        obtain ⟨r23, S24, h1r23, h⟩ := wq_bd_some h
        refine wq_callV (As := [.int (wq_I x1), .int (wq_I (S6 20 t21)), .int (wq_I (S6 21 t22))]) F lk_X9_214 (ct_X9_pickedAt h1r23) ⟨Nat.le_of_ble_eq_true rfl, Nat.le_of_ble_eq_true rfl⟩ ⟨Nat.le_of_ble_eq_true rfl, Nat.le_of_ble_eq_true rfl⟩ (Nat.le_of_ble_eq_true rfl) rfl rfl (fun _ h9 => h9) rfl rfl (Nat.le_of_ble_eq_true rfl) dX9_minutesAt_98 rfl ?_
        refine wq_goto (tgt := 123) F dX9_minutesAt_101 (by decide) ?_
        exact wq_lsub [some (.ref (b + 0)), none, some (.int (wq_I x2)), some (.int (wq_I (S 14 t2))), none, none, none, none] (by simp [wq_sub]) (tj_X9_minutesAt_123 F r23 S24 h)
    · replace h := wq_ift hc h
      refine wq_aload_n F dX9_minutesAt_56 rfl rfl rfl ?_
      refine wq_g_X9_69 F dX9_minutesAt_57 rfl ?_
      refine wq_iload F dX9_minutesAt_60 rfl rfl ?_
      obtain ⟨t25, ht25, wt25, h⟩ := wq_ix_some h
      refine wq_iald F (Nat.le_of_ble_eq_true rfl) wq_EM_number ht25 wt25 dX9_minutesAt_62 rfl ?_
      refine wq_goto (tgt := 123) F dX9_minutesAt_63 (by decide) ?_
      exact wq_lsub [some (.ref (b + 0)), none, some (.int (wq_I x2)), some (.int (wq_I (S 14 t2))), none, none, none, none] (by simp [wq_sub]) (tj_X9_minutesAt_123 F (S6 19 t25) S6 h)
  · replace h := wq_ift hc h
    refine wq_aload_n F dX9_minutesAt_26 rfl rfl rfl ?_
    refine wq_iload_n F dX9_minutesAt_27 rfl rfl rfl ?_
    obtain ⟨r26, S27, h1r26, h⟩ := wq_bd_some h
    refine wq_callV (As := [.int (wq_I (S 14 t2))]) F lk_X9_148 (ct_X9_rowsOf h1r26) ⟨Nat.le_of_ble_eq_true rfl, Nat.le_of_ble_eq_true rfl⟩ ⟨Nat.le_of_ble_eq_true rfl, Nat.le_of_ble_eq_true rfl⟩ (Nat.le_of_ble_eq_true rfl) rfl rfl (fun _ h9 => h9) rfl rfl (Nat.le_of_ble_eq_true rfl) dX9_minutesAt_28 rfl ?_
    cases h
    exact wq_iret F rfl rfl dX9_minutesAt_31
set_option maxHeartbeats 4000000 in
set_option maxRecDepth 100000 in
theorem tb_X9_runs_45 {p : Program} {l : Launch} {e : Env} {s : State} {m : MethodId} {args : Array Value} {below : List Frame} {meth : Method} {c : Code} {D : va_G} {Ar : Nat → ClassId} {b : Nat} (F : wq_Fr p s m args meth c cX9_runs 5 ((Option.none : Option Jvm.ClassFile.FieldType)) "WharfQueryModel" D Ar) {r0 : Int} {S0 : wq_St} {c1 : Int} {c2 : Int} {kx : wq_St → Option (Int × wq_St)} (hkx : ∀ (S : wq_St), kx S = some (r0, S0) → wq_Z p l e (wq_rm 5 0 0) s m args below meth c D (wq_EM Ar b) b 32 5 (wq_Ab b 32) (MQ below (wq_Qc D (wq_EM Ar b) b 32 none S0) args s 0 0 (wq_Ab b 32)) 0 0 219 [none, none, none, none, none] [] S) {rec : Int → wq_St → Option (Int × wq_St)} (hrec : ∀ (y3 : Int) (S : wq_St), rec y3 S = some (r0, S0) → wq_Z p l e (wq_rm 5 0 0) s m args below meth c D (wq_EM Ar b) b 32 5 (wq_Ab b 32) (MQ below (wq_Qc D (wq_EM Ar b) b 32 none S0) args s 0 0 (wq_Ab b 32)) 0 0 45 [some (.ref (b + 0)), some (.int (wq_I c1)), some (.int (wq_I c2)), some (.int (wq_I y3)), none] [] S) (y3 : Int) (S : wq_St) (h : b_X9_runs_45 c1 c2 kx rec y3 S = some (r0, S0)) : wq_Z p l e (wq_rm 5 0 0) s m args below meth c D (wq_EM Ar b) b 32 5 (wq_Ab b 32) (MQ below (wq_Qc D (wq_EM Ar b) b 32 none S0) args s 0 0 (wq_Ab b 32)) 0 0 45 [some (.ref (b + 0)), some (.int (wq_I c1)), some (.int (wq_I c2)), some (.int (wq_I y3)), none] [] S := by
  unfold b_X9_runs_45 at h
  refine wq_iload_n F dX9_runs_45 rfl rfl rfl ?_
  refine wq_if_le (tgt := 219) F dX9_runs_46 (by decide) rfl (fun hc => ?_) (fun hc => ?_)
  · replace h := wq_ift hc h
    exact wq_lsub [none, none, none, none, none] (by simp [wq_sub]) (hkx S h)
  · replace h := wq_iff hc h
    refine wq_iload_n F dX9_runs_49 rfl rfl rfl ?_
    refine wq_if_lt (tgt := 219) F dX9_runs_50 (by decide) rfl (fun hc => ?_) (fun hc => ?_)
    · replace h := wq_ift hc h
      exact wq_lsub [none, none, none, none, none] (by simp [wq_sub]) (hkx S h)
    · replace h := wq_iff hc h
      refine wq_aload_n F dX9_runs_53 rfl rfl rfl ?_
      refine wq_g_X9_54 F dX9_runs_54 rfl ?_
      refine wq_iconst (n := 3) F dX9_runs_57 rfl ?_
      refine wq_iload_n F dX9_runs_58 rfl rfl rfl ?_
      refine wq_imul F dX9_runs_59 rfl ?_
      refine wq_aload_n F dX9_runs_60 rfl rfl rfl ?_
      refine wq_g_X9_93 F dX9_runs_61 rfl ?_
      refine wq_iload_n F dX9_runs_64 rfl rfl rfl ?_
      obtain ⟨t5, ht5, wt5, h⟩ := wq_ix_some h
      refine wq_iald F (Nat.le_of_ble_eq_true rfl) wq_EM_order ht5 wt5 dX9_runs_65 rfl ?_
      refine wq_iadd F dX9_runs_66 rfl ?_
      obtain ⟨t6, ht6, wt6, h⟩ := wq_ix_some h
      refine wq_iald F (Nat.le_of_ble_eq_true rfl) wq_EM_tableOf ht6 wt6 dX9_runs_67 rfl ?_
      refine wq_istore (L' := [some (.ref (b + 0)), some (.int (wq_I c1)), some (.int (wq_I c2)), some (.int (wq_I y3)), some (.int (wq_I (S 14 t6)))]) F dX9_runs_68 (by decide) rfl rfl rfl ?_
      refine wq_aload_n F dX9_runs_70 rfl rfl rfl ?_
      refine wq_g_X9_105 F dX9_runs_71 rfl ?_
      refine wq_iload_n F dX9_runs_74 rfl rfl rfl ?_
      refine wq_dup211 F rfl rfl dX9_runs_75 rfl ?_
      obtain ⟨t7, ht7, wt7, h⟩ := wq_ix_some h
      refine wq_iald F (Nat.le_of_ble_eq_true rfl) wq_EM_pick ht7 wt7 dX9_runs_76 rfl ?_
      refine wq_iconst (n := 1) F dX9_runs_77 rfl ?_
      refine wq_iadd F dX9_runs_78 rfl ?_
      obtain ⟨t8, ht8, wt8, h⟩ := wq_ix_some h
      refine wq_iast F (Nat.le_of_ble_eq_true rfl) wq_EM_pick wq_EM_pick ht8 wt8 ⟨Nat.le_add_right _ _, Nat.add_lt_add_left (Nat.le_of_ble_eq_true rfl) b⟩ dX9_runs_79 rfl ?_
      obtain ⟨S9, eS9, h⟩ := wq_lt_some h
      refine wq_namS eS9 ?_
      refine wq_aload_n F dX9_runs_80 rfl rfl rfl ?_
      refine wq_g_X9_105 F dX9_runs_81 rfl ?_
      refine wq_iload_n F dX9_runs_84 rfl rfl rfl ?_
      obtain ⟨t10, ht10, wt10, h⟩ := wq_ix_some h
      refine wq_iald F (Nat.le_of_ble_eq_true rfl) wq_EM_pick ht10 wt10 dX9_runs_85 rfl ?_
      refine wq_aload_n F dX9_runs_86 rfl rfl rfl ?_
      refine wq_g_X9_13 F dX9_runs_87 rfl ?_
      refine wq_iload F dX9_runs_90 rfl rfl ?_
      obtain ⟨t11, ht11, wt11, h⟩ := wq_ix_some h
      refine wq_iald F (Nat.le_of_ble_eq_true rfl) wq_EM_inserted ht11 wt11 dX9_runs_92 rfl ?_
      refine wq_icmp_lt (tgt := 102) F dX9_runs_93 (by decide) rfl (fun hc => ?_) (fun hc => ?_)
      · replace h := wq_ift hc h
        refine wq_aload_n F dX9_runs_102 rfl rfl rfl ?_
        refine wq_g_X9_16 F dX9_runs_103 rfl ?_
        refine wq_bipush (n := 40) F dX9_runs_106 (by decide) rfl ?_
        refine wq_iload F dX9_runs_108 rfl rfl ?_
        refine wq_imul F dX9_runs_110 rfl ?_
        refine wq_aload_n F dX9_runs_111 rfl rfl rfl ?_
        refine wq_g_X9_105 F dX9_runs_112 rfl ?_
        refine wq_iload_n F dX9_runs_115 rfl rfl rfl ?_
        obtain ⟨t12, ht12, wt12, h⟩ := wq_ix_some h
        refine wq_iald F (Nat.le_of_ble_eq_true rfl) wq_EM_pick ht12 wt12 dX9_runs_116 rfl ?_
        refine wq_iadd F dX9_runs_117 rfl ?_
        obtain ⟨t13, ht13, wt13, h⟩ := wq_ix_some h
        refine wq_zald F (Nat.le_of_ble_eq_true rfl) wq_EM_there ht13 wt13 dX9_runs_118 rfl ?_
        refine wq_if_eq (tgt := 216) F dX9_runs_119 (by decide) rfl (fun hc => ?_) (fun hc => ?_)
        · replace h := wq_ift hc h
          refine wq_goto (tgt := 45) F dX9_runs_216 (by decide) ?_
          exact wq_lsub [some (.ref (b + 0)), some (.int (wq_I c1)), some (.int (wq_I c2)), some (.int (wq_I y3)), none] (by simp [wq_sub]) (hrec y3 S9 h)
        · replace h := wq_iff hc h
          refine wq_aload_n F dX9_runs_122 rfl rfl rfl ?_
          refine wq_iload_n F dX9_runs_123 rfl rfl rfl ?_
          refine wq_iload_n F dX9_runs_124 rfl rfl rfl ?_
          obtain ⟨r14, S15, h1r14, h⟩ := wq_bd_some h
          refine wq_callV (As := [.int (wq_I c1), .int (wq_I y3)]) F lk_X9_232 (ct_X9_holdsAt h1r14) ⟨Nat.le_of_ble_eq_true rfl, Nat.le_of_ble_eq_true rfl⟩ ⟨Nat.le_of_ble_eq_true rfl, Nat.le_of_ble_eq_true rfl⟩ (Nat.le_of_ble_eq_true rfl) rfl rfl (fun _ h9 => h9) rfl rfl (Nat.le_of_ble_eq_true rfl) dX9_runs_125 rfl ?_
          refine wq_if_eq (tgt := 216) F dX9_runs_128 (by decide) rfl (fun hc => ?_) (fun hc => ?_)
          · replace h := wq_ift hc h
            refine wq_goto (tgt := 45) F dX9_runs_216 (by decide) ?_
            exact wq_lsub [some (.ref (b + 0)), some (.int (wq_I c1)), some (.int (wq_I c2)), some (.int (wq_I y3)), none] (by simp [wq_sub]) (hrec y3 S15 h)
          · replace h := wq_iff hc h
            refine wq_iload_n F dX9_runs_131 rfl rfl rfl ?_
            refine wq_iload_n F dX9_runs_132 rfl rfl rfl ?_
            refine wq_iconst (n := 1) F dX9_runs_133 rfl ?_
            refine wq_isub F dX9_runs_134 rfl ?_
            refine wq_icmp_ne (tgt := 191) F dX9_runs_135 (by decide) rfl (fun hc => ?_) (fun hc => ?_)
            · replace h := wq_iff hc h
              refine wq_iinc (L' := [some (.ref (b + 0)), some (.int (wq_I c1)), some (.int (wq_I c2)), some (.int (wq_I (y3 + 1))), some (.int (wq_I (S 14 t6)))]) F dX9_runs_191 rfl (by decide) rfl rfl rfl ?_
              refine wq_aload_n F dX9_runs_194 rfl rfl rfl ?_
              refine wq_dup1 F rfl dX9_runs_195 rfl ?_
              refine wq_g_X9_220 F dX9_runs_196 rfl ?_
              refine wq_aload_n F dX9_runs_199 rfl rfl rfl ?_
              refine wq_iload_n F dX9_runs_200 rfl rfl rfl ?_
              refine wq_iload_n F dX9_runs_201 rfl rfl rfl ?_
              obtain ⟨r16, S17, h1r16, h⟩ := wq_bd_some h
              refine wq_callV (As := [.int (wq_I c1), .int (wq_I (y3 + 1))]) F lk_X9_229 (ct_X9_minutesAt h1r16) ⟨Nat.le_of_ble_eq_true rfl, Nat.le_of_ble_eq_true rfl⟩ ⟨Nat.le_of_ble_eq_true rfl, Nat.le_of_ble_eq_true rfl⟩ (Nat.le_of_ble_eq_true rfl) rfl rfl (fun _ h9 => h9) rfl rfl (Nat.le_of_ble_eq_true rfl) dX9_runs_202 rfl ?_
              refine wq_iadd F dX9_runs_205 rfl ?_
              refine wq_p_X9_220 F (fun _ h9 => h9) dX9_runs_206 rfl ?_
              obtain ⟨S18, eS18, h⟩ := wq_lt_some h
              refine wq_namS eS18 ?_
              refine wq_aload_n F dX9_runs_209 rfl rfl rfl ?_
              refine wq_g_X9_105 F dX9_runs_210 rfl ?_
              refine wq_iload_n F dX9_runs_213 rfl rfl rfl ?_
              refine wq_iconst (n := -1) F dX9_runs_214 rfl ?_
              obtain ⟨t19, ht19, wt19, h⟩ := wq_ix_some h
              refine wq_iast F (Nat.le_of_ble_eq_true rfl) wq_EM_pick wq_EM_pick ht19 wt19 ⟨Nat.le_add_right _ _, Nat.add_lt_add_left (Nat.le_of_ble_eq_true rfl) b⟩ dX9_runs_215 rfl ?_
              refine wq_goto (tgt := 45) F dX9_runs_216 (by decide) ?_
              exact wq_lsub [some (.ref (b + 0)), some (.int (wq_I c1)), some (.int (wq_I c2)), some (.int (wq_I (y3 + 1))), none] (by simp [wq_sub]) (hrec (y3 + 1) (wq_set S18 31 t19 (-1)) h)
            · replace h := wq_ift hc h
              refine wq_aload_n F dX9_runs_138 rfl rfl rfl ?_
              refine wq_dup1 F rfl dX9_runs_139 rfl ?_
              refine wq_g_X9_223 F dX9_runs_140 rfl ?_
              refine wq_iconst (n := 1) F dX9_runs_143 rfl ?_
              refine wq_iadd F dX9_runs_144 rfl ?_
              refine wq_p_X9_223 F (fun _ h9 => h9) dX9_runs_145 rfl ?_
              obtain ⟨S20, eS20, h⟩ := wq_lt_some h
              refine wq_namS eS20 ?_
              refine wq_aload_n F dX9_runs_148 rfl rfl rfl ?_
              refine wq_dup1 F rfl dX9_runs_149 rfl ?_
              refine wq_g_X9_226 F dX9_runs_150 rfl ?_
              refine wq_aload_n F dX9_runs_153 rfl rfl rfl ?_
              refine wq_g_X9_78 F dX9_runs_154 rfl ?_
              refine wq_iload_n F dX9_runs_157 rfl rfl rfl ?_
              obtain ⟨t21, ht21, wt21, h⟩ := wq_ix_some h
              refine wq_iald F (Nat.le_of_ble_eq_true rfl) wq_EM_sumSource ht21 wt21 dX9_runs_158 rfl ?_
              refine wq_iconst (n := -1) F dX9_runs_159 rfl ?_
              refine wq_icmp_ne (tgt := 167) F dX9_runs_160 (by decide) rfl (fun hc => ?_) (fun hc => ?_)
              · replace h := wq_iff hc h
                refine wq_aload_n F dX9_runs_167 rfl rfl rfl ?_
                refine wq_iload_n F dX9_runs_168 rfl rfl rfl ?_
                refine wq_aload_n F dX9_runs_169 rfl rfl rfl ?_
                refine wq_g_X9_78 F dX9_runs_170 rfl ?_
                refine wq_iload_n F dX9_runs_173 rfl rfl rfl ?_
                obtain ⟨t22, ht22, wt22, h⟩ := wq_ix_some h
                refine wq_iald F (Nat.le_of_ble_eq_true rfl) wq_EM_sumSource ht22 wt22 dX9_runs_174 rfl ?_
                refine wq_aload_n F dX9_runs_175 rfl rfl rfl ?_
                refine wq_g_X9_81 F dX9_runs_176 rfl ?_
                refine wq_iload_n F dX9_runs_179 rfl rfl rfl ?_
                obtain ⟨t23, ht23, wt23, h⟩ := wq_ix_some h
                refine wq_iald F (Nat.le_of_ble_eq_true rfl) wq_EM_sumColumn ht23 wt23 dX9_runs_180 rfl ?_
                obtain ⟨r24, S25, h1r24, h⟩ := wq_bd_some h
                refine wq_callV (As := [.int (wq_I c1), .int (wq_I (S20 22 t22)), .int (wq_I (S20 23 t23))]) F lk_X9_214 (ct_X9_pickedAt h1r24) ⟨Nat.le_of_ble_eq_true rfl, Nat.le_of_ble_eq_true rfl⟩ ⟨Nat.le_of_ble_eq_true rfl, Nat.le_of_ble_eq_true rfl⟩ (Nat.le_of_ble_eq_true rfl) rfl rfl (fun _ h9 => h9) rfl rfl (Nat.le_of_ble_eq_true rfl) dX9_runs_181 rfl ?_
                refine wq_iadd F dX9_runs_184 rfl ?_
                refine wq_p_X9_226 F (fun _ h9 => h9) dX9_runs_185 rfl ?_
                refine wq_goto (tgt := 216) F dX9_runs_188 (by decide) ?_
                refine wq_goto (tgt := 45) F dX9_runs_216 (by decide) ?_
                exact wq_lsub [some (.ref (b + 0)), some (.int (wq_I c1)), some (.int (wq_I c2)), some (.int (wq_I y3)), none] (by simp [wq_sub]) (hrec y3 (wq_set S25 0 41 ((S20 0 41) + r24)) h)
              · replace h := wq_ift hc h
                refine wq_iconst (n := 0) F dX9_runs_163 rfl ?_
                refine wq_goto (tgt := 184) F dX9_runs_164 (by decide) ?_
                refine wq_iadd F dX9_runs_184 rfl ?_
                refine wq_p_X9_226 F (fun _ h9 => h9) dX9_runs_185 rfl ?_
                refine wq_goto (tgt := 216) F dX9_runs_188 (by decide) ?_
                refine wq_goto (tgt := 45) F dX9_runs_216 (by decide) ?_
                exact wq_lsub [some (.ref (b + 0)), some (.int (wq_I c1)), some (.int (wq_I c2)), some (.int (wq_I y3)), none] (by simp [wq_sub]) (hrec y3 (wq_set S20 0 41 ((S20 0 41) + 0)) h)
      · replace h := wq_iff hc h
        refine wq_iinc (L' := [some (.ref (b + 0)), some (.int (wq_I c1)), some (.int (wq_I c2)), some (.int (wq_I (y3 + (-1)))), some (.int (wq_I (S 14 t6)))]) F dX9_runs_96 rfl (by decide) rfl rfl rfl ?_
        refine wq_goto (tgt := 216) F dX9_runs_99 (by decide) ?_
        refine wq_goto (tgt := 45) F dX9_runs_216 (by decide) ?_
        exact wq_lsub [some (.ref (b + 0)), some (.int (wq_I c1)), some (.int (wq_I c2)), some (.int (wq_I (y3 + (-1)))), none] (by simp [wq_sub]) (hrec (y3 + (-1)) S9 h)
set_option maxHeartbeats 4000000 in
set_option maxRecDepth 100000 in
theorem tl_X9_runs_45 {p : Program} {l : Launch} {e : Env} {s : State} {m : MethodId} {args : Array Value} {below : List Frame} {meth : Method} {c : Code} {D : va_G} {Ar : Nat → ClassId} {b : Nat} (F : wq_Fr p s m args meth c cX9_runs 5 ((Option.none : Option Jvm.ClassFile.FieldType)) "WharfQueryModel" D Ar) {r0 : Int} {S0 : wq_St} {c1 : Int} {c2 : Int} {kx : wq_St → Option (Int × wq_St)} (hkx : ∀ (S : wq_St), kx S = some (r0, S0) → wq_Z p l e (wq_rm 5 0 0) s m args below meth c D (wq_EM Ar b) b 32 5 (wq_Ab b 32) (MQ below (wq_Qc D (wq_EM Ar b) b 32 none S0) args s 0 0 (wq_Ab b 32)) 0 0 219 [none, none, none, none, none] [] S) (n : Nat) (y3 : Int) (S : wq_St) (h : l_X9_runs_45 c1 c2 kx n y3 S = some (r0, S0)) : wq_Z p l e (wq_rm 5 0 0) s m args below meth c D (wq_EM Ar b) b 32 5 (wq_Ab b 32) (MQ below (wq_Qc D (wq_EM Ar b) b 32 none S0) args s 0 0 (wq_Ab b 32)) 0 0 45 [some (.ref (b + 0)), some (.int (wq_I c1)), some (.int (wq_I c2)), some (.int (wq_I y3)), none] [] S :=
  wq_loop_ind (f := fun (g : Int × wq_St → Option (Int × wq_St)) (x : Int × wq_St) => b_X9_runs_45 c1 c2 kx (fun y3 S => g (y3, S)) x.1 x.2) (P := (fun x : Int × wq_St => wq_Z p l e (wq_rm 5 0 0) s m args below meth c D (wq_EM Ar b) b 32 5 (wq_Ab b 32) (MQ below (wq_Qc D (wq_EM Ar b) b 32 none S0) args s 0 0 (wq_Ab b 32)) 0 0 45 [some (.ref (b + 0)), some (.int (wq_I c1)), some (.int (wq_I c2)), some (.int (wq_I (x.1))), none] [] x.2)) (fun g hg x hx => tb_X9_runs_45 F hkx (fun y3 S h => hg (y3, S) h) x.1 x.2 hx) n (y3, S) h
set_option maxHeartbeats 4000000 in
set_option maxRecDepth 100000 in
theorem ct_X9_runs {l : Launch} {D : va_G} {Ar : Nat → ClassId} {b : Nat} {x1 : Int} {S S0 : wq_St} {r0 : Int} (h : f_X9_runs x1 S = some (r0, S0)) : wq_Ct l yX9_runs (.code yX9_runs cX9_runs 5 ((Option.none : Option Jvm.ClassFile.FieldType))) 5 D Ar (wq_EM Ar b) b 32 [.ref (b + 0), .int (wq_I x1)] S none S0 := by
  refine wq_start "WharfQueryModel" [some (.ref (b + 0)), some (.int (wq_I x1)), none, none, none] (by decide +kernel) rfl (Nat.le_of_ble_eq_true rfl) rfl ?_
  intro p e s m args below meth c F
  unfold f_X9_runs at h
  refine wq_aload_n F dX9_runs_0 rfl rfl rfl ?_
  refine wq_iconst (n := 0) F dX9_runs_1 rfl ?_
  refine wq_p_X9_220 F (fun _ h9 => h9) dX9_runs_2 rfl ?_
  obtain ⟨S1, eS1, h⟩ := wq_lt_some h
  refine wq_namS eS1 ?_
  refine wq_aload_n F dX9_runs_5 rfl rfl rfl ?_
  refine wq_iconst (n := 0) F dX9_runs_6 rfl ?_
  refine wq_p_X9_223 F (fun _ h9 => h9) dX9_runs_7 rfl ?_
  obtain ⟨S2, eS2, h⟩ := wq_lt_some h
  refine wq_namS eS2 ?_
  refine wq_aload_n F dX9_runs_10 rfl rfl rfl ?_
  refine wq_iconst (n := 0) F dX9_runs_11 rfl ?_
  refine wq_p_X9_226 F (fun _ h9 => h9) dX9_runs_12 rfl ?_
  obtain ⟨S3, eS3, h⟩ := wq_lt_some h
  refine wq_namS eS3 ?_
  refine wq_aload_n F dX9_runs_15 rfl rfl rfl ?_
  refine wq_g_X9_51 F dX9_runs_16 rfl ?_
  refine wq_iload_n F dX9_runs_19 rfl rfl rfl ?_
  obtain ⟨t4, ht4, wt4, h⟩ := wq_ix_some h
  refine wq_iald F (Nat.le_of_ble_eq_true rfl) wq_EM_sources ht4 wt4 dX9_runs_20 rfl ?_
  refine wq_istore_n (L' := [some (.ref (b + 0)), some (.int (wq_I x1)), some (.int (wq_I (S3 13 t4))), none, none]) F dX9_runs_21 rfl (by decide) rfl rfl rfl ?_
  refine wq_iconst (n := 0) F dX9_runs_22 rfl ?_
  refine wq_istore_n (L' := [some (.ref (b + 0)), some (.int (wq_I x1)), some (.int (wq_I (S3 13 t4))), some (.int (wq_I 0)), none]) F dX9_runs_23 rfl (by decide) rfl rfl rfl ?_
  refine wq_iload_n F dX9_runs_24 rfl rfl rfl ?_
  refine wq_if_le (tgt := 45) F dX9_runs_25 (by decide) rfl (fun hc => ?_) (fun hc => ?_)
  · replace h := wq_ift hc h
    refine wq_lsub [some (.ref (b + 0)), some (.int (wq_I x1)), some (.int (wq_I (S3 13 t4))), some (.int (wq_I 0)), none] (by simp [wq_sub]) (tl_X9_runs_45 F (fun S26 h => ?_) wq_fu 0 S3 h)
    cases h
    exact wq_vret F rfl rfl dX9_runs_219
  · replace h := wq_iff hc h
    refine wq_aload_n F dX9_runs_28 rfl rfl rfl ?_
    refine wq_aload_n F dX9_runs_29 rfl rfl rfl ?_
    refine wq_iload_n F dX9_runs_30 rfl rfl rfl ?_
    refine wq_iconst (n := 0) F dX9_runs_31 rfl ?_
    obtain ⟨r27, S28, h1r27, h⟩ := wq_bd_some h
    refine wq_callV (As := [.int (wq_I x1), .int (wq_I 0)]) F lk_X9_229 (ct_X9_minutesAt h1r27) ⟨Nat.le_of_ble_eq_true rfl, Nat.le_of_ble_eq_true rfl⟩ ⟨Nat.le_of_ble_eq_true rfl, Nat.le_of_ble_eq_true rfl⟩ (Nat.le_of_ble_eq_true rfl) rfl rfl (fun _ h9 => h9) rfl rfl (Nat.le_of_ble_eq_true rfl) dX9_runs_32 rfl ?_
    refine wq_p_X9_220 F (fun _ h9 => h9) dX9_runs_35 rfl ?_
    obtain ⟨S29, eS29, h⟩ := wq_lt_some h
    refine wq_namS eS29 ?_
    refine wq_aload_n F dX9_runs_38 rfl rfl rfl ?_
    refine wq_g_X9_105 F dX9_runs_39 rfl ?_
    refine wq_iconst (n := 0) F dX9_runs_42 rfl ?_
    refine wq_iconst (n := -1) F dX9_runs_43 rfl ?_
    obtain ⟨t30, ht30, wt30, h⟩ := wq_ix_some h
    refine wq_iast F (Nat.le_of_ble_eq_true rfl) wq_EM_pick wq_EM_pick ht30 wt30 ⟨Nat.le_add_right _ _, Nat.add_lt_add_left (Nat.le_of_ble_eq_true rfl) b⟩ dX9_runs_44 rfl ?_
    obtain ⟨S31, eS31, h⟩ := wq_lt_some h
    refine wq_namS eS31 ?_
    refine wq_lsub [some (.ref (b + 0)), some (.int (wq_I x1)), some (.int (wq_I (S3 13 t4))), some (.int (wq_I 0)), none] (by simp [wq_sub]) (tl_X9_runs_45 F (fun S32 h => ?_) wq_fu 0 S31 h)
    cases h
    exact wq_vret F rfl rfl dX9_runs_219
set_option maxHeartbeats 4000000 in
set_option maxRecDepth 100000 in
theorem ct_X9_planSource {l : Launch} {D : va_G} {Ar : Nat → ClassId} {b : Nat} {x1 : Int} {x2 : Int} {S S0 : wq_St} {r0 : Int} (h : f_X9_planSource x1 x2 S = some (r0, S0)) : wq_Ct l yX9_planSource (.code yX9_planSource cX9_planSource 3 ((Option.some Jvm.ClassFile.FieldType.int))) 7 D Ar (wq_EM Ar b) b 32 [.ref (b + 0), .int (wq_I x1), .int (wq_I x2)] S (some (.int (wq_I r0))) S0 := by
  refine wq_start "WharfQueryModel" [some (.ref (b + 0)), some (.int (wq_I x1)), some (.int (wq_I x2))] (by decide +kernel) rfl (Nat.le_of_ble_eq_true rfl) rfl ?_
  intro p e s m args below meth c F
  unfold f_X9_planSource at h
  refine wq_aload_n F dX9_planSource_0 rfl rfl rfl ?_
  refine wq_aload_n F dX9_planSource_1 rfl rfl rfl ?_
  refine wq_iload_n F dX9_planSource_2 rfl rfl rfl ?_
  refine wq_iload_n F dX9_planSource_3 rfl rfl rfl ?_
  obtain ⟨r1, S2, h1r1, h⟩ := wq_bd_some h
  refine wq_callV (As := [.int (wq_I x1), .int (wq_I x2)]) F lk_X9_128 (ct_X9_isSource h1r1) ⟨Nat.le_of_ble_eq_true rfl, Nat.le_of_ble_eq_true rfl⟩ ⟨Nat.le_of_ble_eq_true rfl, Nat.le_of_ble_eq_true rfl⟩ (Nat.le_of_ble_eq_true rfl) rfl rfl (fun _ h9 => h9) rfl rfl (Nat.le_of_ble_eq_true rfl) dX9_planSource_4 rfl ?_
  obtain ⟨r3, S4, h1r3, h⟩ := wq_bd_some h
  refine wq_callV (As := [.int (wq_I r1)]) F lk_X9_145 (ct_X9_asked h1r3) ⟨Nat.le_of_ble_eq_true rfl, Nat.le_of_ble_eq_true rfl⟩ ⟨Nat.le_of_ble_eq_true rfl, Nat.le_of_ble_eq_true rfl⟩ (Nat.le_of_ble_eq_true rfl) rfl rfl (fun _ h9 => h9) rfl rfl (Nat.le_of_ble_eq_true rfl) dX9_planSource_7 rfl ?_
  refine wq_if_ne (tgt := 15) F dX9_planSource_10 (by decide) rfl (fun hc => ?_) (fun hc => ?_)
  · replace h := wq_iff hc h
    refine wq_aload_n F dX9_planSource_15 rfl rfl rfl ?_
    refine wq_iload_n F dX9_planSource_16 rfl rfl rfl ?_
    obtain ⟨r5, S6, h1r5, h⟩ := wq_bd_some h
    refine wq_callV (As := [.int (wq_I x1)]) F lk_X9_209 (ct_X9_plans h1r5) ⟨Nat.le_of_ble_eq_true rfl, Nat.le_of_ble_eq_true rfl⟩ ⟨Nat.le_of_ble_eq_true rfl, Nat.le_of_ble_eq_true rfl⟩ (Nat.le_of_ble_eq_true rfl) rfl rfl (fun _ h9 => h9) rfl rfl (Nat.le_of_ble_eq_true rfl) dX9_planSource_17 rfl ?_
    refine wq_aload_n F dX9_planSource_20 rfl rfl rfl ?_
    refine wq_g_X9_93 F dX9_planSource_21 rfl ?_
    refine wq_iload_n F dX9_planSource_24 rfl rfl rfl ?_
    obtain ⟨t7, ht7, wt7, h⟩ := wq_ix_some h
    refine wq_iald F (Nat.le_of_ble_eq_true rfl) wq_EM_order ht7 wt7 dX9_planSource_25 rfl ?_
    cases h
    exact wq_iret F rfl rfl dX9_planSource_26
  · replace h := wq_ift hc h
    refine wq_iconst (n := 0) F dX9_planSource_13 rfl ?_
    cases h
    exact wq_iret F rfl rfl dX9_planSource_14
set_option maxHeartbeats 4000000 in
set_option maxRecDepth 100000 in
theorem ct_X9_planWay {l : Launch} {D : va_G} {Ar : Nat → ClassId} {b : Nat} {x1 : Int} {x2 : Int} {S S0 : wq_St} {r0 : Int} (h : f_X9_planWay x1 x2 S = some (r0, S0)) : wq_Ct l yX9_planWay (.code yX9_planWay cX9_planWay 3 ((Option.some Jvm.ClassFile.FieldType.int))) 7 D Ar (wq_EM Ar b) b 32 [.ref (b + 0), .int (wq_I x1), .int (wq_I x2)] S (some (.int (wq_I r0))) S0 := by
  refine wq_start "WharfQueryModel" [some (.ref (b + 0)), some (.int (wq_I x1)), some (.int (wq_I x2))] (by decide +kernel) rfl (Nat.le_of_ble_eq_true rfl) rfl ?_
  intro p e s m args below meth c F
  unfold f_X9_planWay at h
  refine wq_aload_n F dX9_planWay_0 rfl rfl rfl ?_
  refine wq_aload_n F dX9_planWay_1 rfl rfl rfl ?_
  refine wq_iload_n F dX9_planWay_2 rfl rfl rfl ?_
  refine wq_iload_n F dX9_planWay_3 rfl rfl rfl ?_
  obtain ⟨r1, S2, h1r1, h⟩ := wq_bd_some h
  refine wq_callV (As := [.int (wq_I x1), .int (wq_I x2)]) F lk_X9_128 (ct_X9_isSource h1r1) ⟨Nat.le_of_ble_eq_true rfl, Nat.le_of_ble_eq_true rfl⟩ ⟨Nat.le_of_ble_eq_true rfl, Nat.le_of_ble_eq_true rfl⟩ (Nat.le_of_ble_eq_true rfl) rfl rfl (fun _ h9 => h9) rfl rfl (Nat.le_of_ble_eq_true rfl) dX9_planWay_4 rfl ?_
  obtain ⟨r3, S4, h1r3, h⟩ := wq_bd_some h
  refine wq_callV (As := [.int (wq_I r1)]) F lk_X9_145 (ct_X9_asked h1r3) ⟨Nat.le_of_ble_eq_true rfl, Nat.le_of_ble_eq_true rfl⟩ ⟨Nat.le_of_ble_eq_true rfl, Nat.le_of_ble_eq_true rfl⟩ (Nat.le_of_ble_eq_true rfl) rfl rfl (fun _ h9 => h9) rfl rfl (Nat.le_of_ble_eq_true rfl) dX9_planWay_7 rfl ?_
  refine wq_if_ne (tgt := 15) F dX9_planWay_10 (by decide) rfl (fun hc => ?_) (fun hc => ?_)
  · replace h := wq_iff hc h
    refine wq_aload_n F dX9_planWay_15 rfl rfl rfl ?_
    refine wq_iload_n F dX9_planWay_16 rfl rfl rfl ?_
    obtain ⟨r5, S6, h1r5, h⟩ := wq_bd_some h
    refine wq_callV (As := [.int (wq_I x1)]) F lk_X9_209 (ct_X9_plans h1r5) ⟨Nat.le_of_ble_eq_true rfl, Nat.le_of_ble_eq_true rfl⟩ ⟨Nat.le_of_ble_eq_true rfl, Nat.le_of_ble_eq_true rfl⟩ (Nat.le_of_ble_eq_true rfl) rfl rfl (fun _ h9 => h9) rfl rfl (Nat.le_of_ble_eq_true rfl) dX9_planWay_17 rfl ?_
    refine wq_aload_n F dX9_planWay_20 rfl rfl rfl ?_
    refine wq_g_X9_96 F dX9_planWay_21 rfl ?_
    refine wq_iload_n F dX9_planWay_24 rfl rfl rfl ?_
    obtain ⟨t7, ht7, wt7, h⟩ := wq_ix_some h
    refine wq_iald F (Nat.le_of_ble_eq_true rfl) wq_EM_way ht7 wt7 dX9_planWay_25 rfl ?_
    cases h
    exact wq_iret F rfl rfl dX9_planWay_26
  · replace h := wq_ift hc h
    refine wq_iconst (n := 0) F dX9_planWay_13 rfl ?_
    cases h
    exact wq_iret F rfl rfl dX9_planWay_14
set_option maxHeartbeats 4000000 in
set_option maxRecDepth 100000 in
theorem ct_X9_foretold {l : Launch} {D : va_G} {Ar : Nat → ClassId} {b : Nat} {x1 : Int} {S S0 : wq_St} {r0 : Int} (h : f_X9_foretold x1 S = some (r0, S0)) : wq_Ct l yX9_foretold (.code yX9_foretold cX9_foretold 2 ((Option.some Jvm.ClassFile.FieldType.int))) 8 D Ar (wq_EM Ar b) b 32 [.ref (b + 0), .int (wq_I x1)] S (some (.int (wq_I r0))) S0 := by
  refine wq_start "WharfQueryModel" [some (.ref (b + 0)), some (.int (wq_I x1))] (by decide +kernel) rfl (Nat.le_of_ble_eq_true rfl) rfl ?_
  intro p e s m args below meth c F
  unfold f_X9_foretold at h
  refine wq_aload_n F dX9_foretold_0 rfl rfl rfl ?_
  refine wq_aload_n F dX9_foretold_1 rfl rfl rfl ?_
  refine wq_iload_n F dX9_foretold_2 rfl rfl rfl ?_
  obtain ⟨r1, S2, h1r1, h⟩ := wq_bd_some h
  refine wq_callV (As := [.int (wq_I x1)]) F lk_X9_125 (ct_X9_isReport h1r1) ⟨Nat.le_of_ble_eq_true rfl, Nat.le_of_ble_eq_true rfl⟩ ⟨Nat.le_of_ble_eq_true rfl, Nat.le_of_ble_eq_true rfl⟩ (Nat.le_of_ble_eq_true rfl) rfl rfl (fun _ h9 => h9) rfl rfl (Nat.le_of_ble_eq_true rfl) dX9_foretold_3 rfl ?_
  obtain ⟨r3, S4, h1r3, h⟩ := wq_bd_some h
  refine wq_callV (As := [.int (wq_I r1)]) F lk_X9_145 (ct_X9_asked h1r3) ⟨Nat.le_of_ble_eq_true rfl, Nat.le_of_ble_eq_true rfl⟩ ⟨Nat.le_of_ble_eq_true rfl, Nat.le_of_ble_eq_true rfl⟩ (Nat.le_of_ble_eq_true rfl) rfl rfl (fun _ h9 => h9) rfl rfl (Nat.le_of_ble_eq_true rfl) dX9_foretold_6 rfl ?_
  refine wq_if_eq (tgt := 20) F dX9_foretold_9 (by decide) rfl (fun hc => ?_) (fun hc => ?_)
  · replace h := wq_ift hc h
    refine wq_iconst (n := 0) F dX9_foretold_20 rfl ?_
    cases h
    exact wq_iret F rfl rfl dX9_foretold_21
  · replace h := wq_iff hc h
    refine wq_aload_n F dX9_foretold_12 rfl rfl rfl ?_
    refine wq_iload_n F dX9_foretold_13 rfl rfl rfl ?_
    obtain ⟨r5, S6, h1r5, h⟩ := wq_bd_some h
    refine wq_callV (As := [.int (wq_I x1)]) F lk_X9_235 (ct_X9_foretells h1r5) ⟨Nat.le_of_ble_eq_true rfl, Nat.le_of_ble_eq_true rfl⟩ ⟨Nat.le_of_ble_eq_true rfl, Nat.le_of_ble_eq_true rfl⟩ (Nat.le_of_ble_eq_true rfl) rfl rfl (fun _ h9 => h9) rfl rfl (Nat.le_of_ble_eq_true rfl) dX9_foretold_14 rfl ?_
    refine wq_goto (tgt := 21) F dX9_foretold_17 (by decide) ?_
    cases h
    exact wq_iret F rfl rfl dX9_foretold_21
set_option maxHeartbeats 4000000 in
set_option maxRecDepth 100000 in
theorem ct_X9_isRun {l : Launch} {D : va_G} {Ar : Nat → ClassId} {b : Nat} {x1 : Int} {S S0 : wq_St} {r0 : Int} (h : f_X9_isRun x1 S = some (r0, S0)) : wq_Ct l yX9_isRun (.code yX9_isRun cX9_isRun 3 ((Option.some Jvm.ClassFile.FieldType.boolean))) 7 D Ar (wq_EM Ar b) b 32 [.ref (b + 0), .int (wq_I x1)] S (some (.int (wq_I r0))) S0 := by
  refine wq_start "WharfQueryModel" [some (.ref (b + 0)), some (.int (wq_I x1)), none] (by decide +kernel) rfl (Nat.le_of_ble_eq_true rfl) rfl ?_
  intro p e s m args below meth c F
  unfold f_X9_isRun at h
  refine wq_aload_n F dX9_isRun_0 rfl rfl rfl ?_
  refine wq_aload_n F dX9_isRun_1 rfl rfl rfl ?_
  refine wq_iload_n F dX9_isRun_2 rfl rfl rfl ?_
  obtain ⟨r1, S2, h1r1, h⟩ := wq_bd_some h
  refine wq_callV (As := [.int (wq_I x1)]) F lk_X9_125 (ct_X9_isReport h1r1) ⟨Nat.le_of_ble_eq_true rfl, Nat.le_of_ble_eq_true rfl⟩ ⟨Nat.le_of_ble_eq_true rfl, Nat.le_of_ble_eq_true rfl⟩ (Nat.le_of_ble_eq_true rfl) rfl rfl (fun _ h9 => h9) rfl rfl (Nat.le_of_ble_eq_true rfl) dX9_isRun_3 rfl ?_
  obtain ⟨r3, S4, h1r3, h⟩ := wq_bd_some h
  refine wq_callV (As := [.int (wq_I r1)]) F lk_X9_145 (ct_X9_asked h1r3) ⟨Nat.le_of_ble_eq_true rfl, Nat.le_of_ble_eq_true rfl⟩ ⟨Nat.le_of_ble_eq_true rfl, Nat.le_of_ble_eq_true rfl⟩ (Nat.le_of_ble_eq_true rfl) rfl rfl (fun _ h9 => h9) rfl rfl (Nat.le_of_ble_eq_true rfl) dX9_isRun_6 rfl ?_
  refine wq_istore_n (L' := [some (.ref (b + 0)), some (.int (wq_I x1)), some (.int (wq_I r3))]) F dX9_isRun_9 rfl (by decide) rfl rfl rfl ?_
  refine wq_iload_n F dX9_isRun_10 rfl rfl rfl ?_
  refine wq_if_eq (tgt := 24) F dX9_isRun_11 (by decide) rfl (fun hc => ?_) (fun hc => ?_)
  · replace h := wq_ift hc h
    refine wq_iload_n F dX9_isRun_24 rfl rfl rfl ?_
    obtain ⟨hg, h⟩ := wq_gd_some h
    cases h
    exact wq_zret F hg rfl rfl dX9_isRun_25
  · replace h := wq_iff hc h
    refine wq_aload_n F dX9_isRun_14 rfl rfl rfl ?_
    refine wq_iload_n F dX9_isRun_15 rfl rfl rfl ?_
    obtain ⟨r5, S6, h1r5, h⟩ := wq_bd_some h
    refine wq_callV (As := [.int (wq_I x1)]) F lk_X9_209 (ct_X9_plans h1r5) ⟨Nat.le_of_ble_eq_true rfl, Nat.le_of_ble_eq_true rfl⟩ ⟨Nat.le_of_ble_eq_true rfl, Nat.le_of_ble_eq_true rfl⟩ (Nat.le_of_ble_eq_true rfl) rfl rfl (fun _ h9 => h9) rfl rfl (Nat.le_of_ble_eq_true rfl) dX9_isRun_16 rfl ?_
    refine wq_aload_n F dX9_isRun_19 rfl rfl rfl ?_
    refine wq_iload_n F dX9_isRun_20 rfl rfl rfl ?_
    obtain ⟨r7, S8, h1r7, h⟩ := wq_bd_some h
    refine wq_callV (As := [.int (wq_I x1)]) F lk_X9_238 (ct_X9_runs h1r7) ⟨Nat.le_of_ble_eq_true rfl, Nat.le_of_ble_eq_true rfl⟩ ⟨Nat.le_of_ble_eq_true rfl, Nat.le_of_ble_eq_true rfl⟩ (Nat.le_of_ble_eq_true rfl) rfl rfl (fun _ h9 => h9) rfl rfl (Nat.le_of_ble_eq_true rfl) dX9_isRun_21 rfl ?_
    refine wq_iload_n F dX9_isRun_24 rfl rfl rfl ?_
    obtain ⟨hg, h⟩ := wq_gd_some h
    cases h
    exact wq_zret F hg rfl rfl dX9_isRun_25
set_option maxHeartbeats 4000000 in
set_option maxRecDepth 100000 in
theorem ct_X9_minutes {l : Launch} {D : va_G} {Ar : Nat → ClassId} {b : Nat} {x1 : Int} {S S0 : wq_St} {r0 : Int} (h : f_X9_minutes x1 S = some (r0, S0)) : wq_Ct l yX9_minutes (.code yX9_minutes cX9_minutes 2 ((Option.some Jvm.ClassFile.FieldType.int))) 8 D Ar (wq_EM Ar b) b 32 [.ref (b + 0), .int (wq_I x1)] S (some (.int (wq_I r0))) S0 := by
  refine wq_start "WharfQueryModel" [some (.ref (b + 0)), some (.int (wq_I x1))] (by decide +kernel) rfl (Nat.le_of_ble_eq_true rfl) rfl ?_
  intro p e s m args below meth c F
  unfold f_X9_minutes at h
  refine wq_aload_n F dX9_minutes_0 rfl rfl rfl ?_
  refine wq_iload_n F dX9_minutes_1 rfl rfl rfl ?_
  obtain ⟨r1, S2, h1r1, h⟩ := wq_bd_some h
  refine wq_callV (As := [.int (wq_I x1)]) F lk_X9_241 (ct_X9_isRun h1r1) ⟨Nat.le_of_ble_eq_true rfl, Nat.le_of_ble_eq_true rfl⟩ ⟨Nat.le_of_ble_eq_true rfl, Nat.le_of_ble_eq_true rfl⟩ (Nat.le_of_ble_eq_true rfl) rfl rfl (fun _ h9 => h9) rfl rfl (Nat.le_of_ble_eq_true rfl) dX9_minutes_2 rfl ?_
  refine wq_if_eq (tgt := 15) F dX9_minutes_5 (by decide) rfl (fun hc => ?_) (fun hc => ?_)
  · replace h := wq_ift hc h
    refine wq_iconst (n := 0) F dX9_minutes_15 rfl ?_
    cases h
    exact wq_iret F rfl rfl dX9_minutes_16
  · replace h := wq_iff hc h
    refine wq_aload_n F dX9_minutes_8 rfl rfl rfl ?_
    refine wq_g_X9_220 F dX9_minutes_9 rfl ?_
    refine wq_goto (tgt := 16) F dX9_minutes_12 (by decide) ?_
    cases h
    exact wq_iret F rfl rfl dX9_minutes_16
set_option maxHeartbeats 4000000 in
set_option maxRecDepth 100000 in
theorem ct_X9_answer {l : Launch} {D : va_G} {Ar : Nat → ClassId} {b : Nat} {x1 : Int} {S S0 : wq_St} {r0 : Int} (h : f_X9_answer x1 S = some (r0, S0)) : wq_Ct l yX9_answer (.code yX9_answer cX9_answer 2 ((Option.some Jvm.ClassFile.FieldType.int))) 8 D Ar (wq_EM Ar b) b 32 [.ref (b + 0), .int (wq_I x1)] S (some (.int (wq_I r0))) S0 := by
  refine wq_start "WharfQueryModel" [some (.ref (b + 0)), some (.int (wq_I x1))] (by decide +kernel) rfl (Nat.le_of_ble_eq_true rfl) rfl ?_
  intro p e s m args below meth c F
  unfold f_X9_answer at h
  refine wq_aload_n F dX9_answer_0 rfl rfl rfl ?_
  refine wq_iload_n F dX9_answer_1 rfl rfl rfl ?_
  obtain ⟨r1, S2, h1r1, h⟩ := wq_bd_some h
  refine wq_callV (As := [.int (wq_I x1)]) F lk_X9_241 (ct_X9_isRun h1r1) ⟨Nat.le_of_ble_eq_true rfl, Nat.le_of_ble_eq_true rfl⟩ ⟨Nat.le_of_ble_eq_true rfl, Nat.le_of_ble_eq_true rfl⟩ (Nat.le_of_ble_eq_true rfl) rfl rfl (fun _ h9 => h9) rfl rfl (Nat.le_of_ble_eq_true rfl) dX9_answer_2 rfl ?_
  refine wq_if_eq (tgt := 15) F dX9_answer_5 (by decide) rfl (fun hc => ?_) (fun hc => ?_)
  · replace h := wq_ift hc h
    refine wq_iconst (n := 0) F dX9_answer_15 rfl ?_
    cases h
    exact wq_iret F rfl rfl dX9_answer_16
  · replace h := wq_iff hc h
    refine wq_aload_n F dX9_answer_8 rfl rfl rfl ?_
    refine wq_g_X9_223 F dX9_answer_9 rfl ?_
    refine wq_goto (tgt := 16) F dX9_answer_12 (by decide) ?_
    cases h
    exact wq_iret F rfl rfl dX9_answer_16
set_option maxHeartbeats 4000000 in
set_option maxRecDepth 100000 in
theorem ct_X9_sum {l : Launch} {D : va_G} {Ar : Nat → ClassId} {b : Nat} {x1 : Int} {S S0 : wq_St} {r0 : Int} (h : f_X9_sum x1 S = some (r0, S0)) : wq_Ct l yX9_sum (.code yX9_sum cX9_sum 2 ((Option.some Jvm.ClassFile.FieldType.int))) 8 D Ar (wq_EM Ar b) b 32 [.ref (b + 0), .int (wq_I x1)] S (some (.int (wq_I r0))) S0 := by
  refine wq_start "WharfQueryModel" [some (.ref (b + 0)), some (.int (wq_I x1))] (by decide +kernel) rfl (Nat.le_of_ble_eq_true rfl) rfl ?_
  intro p e s m args below meth c F
  unfold f_X9_sum at h
  refine wq_aload_n F dX9_sum_0 rfl rfl rfl ?_
  refine wq_iload_n F dX9_sum_1 rfl rfl rfl ?_
  obtain ⟨r1, S2, h1r1, h⟩ := wq_bd_some h
  refine wq_callV (As := [.int (wq_I x1)]) F lk_X9_241 (ct_X9_isRun h1r1) ⟨Nat.le_of_ble_eq_true rfl, Nat.le_of_ble_eq_true rfl⟩ ⟨Nat.le_of_ble_eq_true rfl, Nat.le_of_ble_eq_true rfl⟩ (Nat.le_of_ble_eq_true rfl) rfl rfl (fun _ h9 => h9) rfl rfl (Nat.le_of_ble_eq_true rfl) dX9_sum_2 rfl ?_
  refine wq_if_eq (tgt := 15) F dX9_sum_5 (by decide) rfl (fun hc => ?_) (fun hc => ?_)
  · replace h := wq_ift hc h
    refine wq_iconst (n := 0) F dX9_sum_15 rfl ?_
    cases h
    exact wq_iret F rfl rfl dX9_sum_16
  · replace h := wq_iff hc h
    refine wq_aload_n F dX9_sum_8 rfl rfl rfl ?_
    refine wq_g_X9_226 F dX9_sum_9 rfl ?_
    refine wq_goto (tgt := 16) F dX9_sum_12 (by decide) ?_
    cases h
    exact wq_iret F rfl rfl dX9_sum_16
set_option maxHeartbeats 4000000 in
set_option maxRecDepth 100000 in
theorem ct_X9_plainAnswer {l : Launch} {D : va_G} {Ar : Nat → ClassId} {b : Nat} {x1 : Int} {S S0 : wq_St} {r0 : Int} (h : f_X9_plainAnswer x1 S = some (r0, S0)) : wq_Ct l yX9_plainAnswer (.code yX9_plainAnswer cX9_plainAnswer 2 ((Option.some Jvm.ClassFile.FieldType.int))) 9 D Ar (wq_EM Ar b) b 32 [.ref (b + 0), .int (wq_I x1)] S (some (.int (wq_I r0))) S0 := by
  refine wq_start "WharfQueryModel" [some (.ref (b + 0)), some (.int (wq_I x1))] (by decide +kernel) rfl (Nat.le_of_ble_eq_true rfl) rfl ?_
  intro p e s m args below meth c F
  unfold f_X9_plainAnswer at h
  refine wq_aload_n F dX9_plainAnswer_0 rfl rfl rfl ?_
  refine wq_iload_n F dX9_plainAnswer_1 rfl rfl rfl ?_
  obtain ⟨r1, S2, h1r1, h⟩ := wq_bd_some h
  refine wq_callV (As := [.int (wq_I x1)]) F lk_X9_244 (ct_X9_answer h1r1) ⟨Nat.le_of_ble_eq_true rfl, Nat.le_of_ble_eq_true rfl⟩ ⟨Nat.le_of_ble_eq_true rfl, Nat.le_of_ble_eq_true rfl⟩ (Nat.le_of_ble_eq_true rfl) rfl rfl (fun _ h9 => h9) rfl rfl (Nat.le_of_ble_eq_true rfl) dX9_plainAnswer_2 rfl ?_
  cases h
  exact wq_iret F rfl rfl dX9_plainAnswer_5
set_option maxHeartbeats 4000000 in
set_option maxRecDepth 100000 in
theorem ct_X9_plainSum {l : Launch} {D : va_G} {Ar : Nat → ClassId} {b : Nat} {x1 : Int} {S S0 : wq_St} {r0 : Int} (h : f_X9_plainSum x1 S = some (r0, S0)) : wq_Ct l yX9_plainSum (.code yX9_plainSum cX9_plainSum 2 ((Option.some Jvm.ClassFile.FieldType.int))) 9 D Ar (wq_EM Ar b) b 32 [.ref (b + 0), .int (wq_I x1)] S (some (.int (wq_I r0))) S0 := by
  refine wq_start "WharfQueryModel" [some (.ref (b + 0)), some (.int (wq_I x1))] (by decide +kernel) rfl (Nat.le_of_ble_eq_true rfl) rfl ?_
  intro p e s m args below meth c F
  unfold f_X9_plainSum at h
  refine wq_aload_n F dX9_plainSum_0 rfl rfl rfl ?_
  refine wq_iload_n F dX9_plainSum_1 rfl rfl rfl ?_
  obtain ⟨r1, S2, h1r1, h⟩ := wq_bd_some h
  refine wq_callV (As := [.int (wq_I x1)]) F lk_X9_247 (ct_X9_sum h1r1) ⟨Nat.le_of_ble_eq_true rfl, Nat.le_of_ble_eq_true rfl⟩ ⟨Nat.le_of_ble_eq_true rfl, Nat.le_of_ble_eq_true rfl⟩ (Nat.le_of_ble_eq_true rfl) rfl rfl (fun _ h9 => h9) rfl rfl (Nat.le_of_ble_eq_true rfl) dX9_plainSum_2 rfl ?_
  cases h
  exact wq_iret F rfl rfl dX9_plainSum_5
set_option maxHeartbeats 4000000 in
set_option maxRecDepth 100000 in
theorem tb_X9_marks_2 {p : Program} {l : Launch} {e : Env} {s : State} {m : MethodId} {args : Array Value} {below : List Frame} {meth : Method} {c : Code} {D : va_G} {Ar : Nat → ClassId} {b : Nat} (F : wq_Fr p s m args meth c cX9_marks 3 ((Option.none : Option Jvm.ClassFile.FieldType)) "WharfQueryModel" D Ar) {r0 : Int} {S0 : wq_St} {c1 : Int} {kx : wq_St → Option (Int × wq_St)} (hkx : ∀ (S : wq_St), kx S = some (r0, S0) → wq_Z p l e (wq_rm 1 0 0) s m args below meth c D (wq_EM Ar b) b 32 3 (wq_Ab b 32) (MQ below (wq_Qc D (wq_EM Ar b) b 32 none S0) args s 0 0 (wq_Ab b 32)) 0 0 34 [none, none, none] [] S) {rec : Int → wq_St → Option (Int × wq_St)} (hrec : ∀ (y2 : Int) (S : wq_St), rec y2 S = some (r0, S0) → wq_Z p l e (wq_rm 1 0 0) s m args below meth c D (wq_EM Ar b) b 32 3 (wq_Ab b 32) (MQ below (wq_Qc D (wq_EM Ar b) b 32 none S0) args s 0 0 (wq_Ab b 32)) 0 0 2 [some (.ref (b + 0)), some (.int (wq_I c1)), some (.int (wq_I y2))] [] S) (y2 : Int) (S : wq_St) (h : b_X9_marks_2 c1 kx rec y2 S = some (r0, S0)) : wq_Z p l e (wq_rm 1 0 0) s m args below meth c D (wq_EM Ar b) b 32 3 (wq_Ab b 32) (MQ below (wq_Qc D (wq_EM Ar b) b 32 none S0) args s 0 0 (wq_Ab b 32)) 0 0 2 [some (.ref (b + 0)), some (.int (wq_I c1)), some (.int (wq_I y2))] [] S := by
  unfold b_X9_marks_2 at h
  refine wq_iload_n F dX9_marks_2 rfl rfl rfl ?_
  refine wq_aload_n F dX9_marks_3 rfl rfl rfl ?_
  refine wq_g_X9_51 F dX9_marks_4 rfl ?_
  refine wq_iload_n F dX9_marks_7 rfl rfl rfl ?_
  obtain ⟨t1, ht1, wt1, h⟩ := wq_ix_some h
  refine wq_iald F (Nat.le_of_ble_eq_true rfl) wq_EM_sources ht1 wt1 dX9_marks_8 rfl ?_
  refine wq_icmp_ge (tgt := 34) F dX9_marks_9 (by decide) rfl (fun hc => ?_) (fun hc => ?_)
  · replace h := wq_ift hc h
    exact wq_lsub [none, none, none] (by simp [wq_sub]) (hkx S h)
  · replace h := wq_iff hc h
    refine wq_aload_n F dX9_marks_12 rfl rfl rfl ?_
    refine wq_g_X9_38 F dX9_marks_13 rfl ?_
    refine wq_aload_n F dX9_marks_16 rfl rfl rfl ?_
    refine wq_g_X9_54 F dX9_marks_17 rfl ?_
    refine wq_iconst (n := 3) F dX9_marks_20 rfl ?_
    refine wq_iload_n F dX9_marks_21 rfl rfl rfl ?_
    refine wq_imul F dX9_marks_22 rfl ?_
    refine wq_iload_n F dX9_marks_23 rfl rfl rfl ?_
    refine wq_iadd F dX9_marks_24 rfl ?_
    obtain ⟨t2, ht2, wt2, h⟩ := wq_ix_some h
    refine wq_iald F (Nat.le_of_ble_eq_true rfl) wq_EM_tableOf ht2 wt2 dX9_marks_25 rfl ?_
    refine wq_iconst (n := 1) F dX9_marks_26 rfl ?_
    obtain ⟨t3, ht3, wt3, h⟩ := wq_ix_some h
    refine wq_zast F (by decide) (Nat.le_of_ble_eq_true rfl) wq_EM_marked wq_EM_marked ht3 wt3 ⟨Nat.le_add_right _ _, Nat.add_lt_add_left (Nat.le_of_ble_eq_true rfl) b⟩ dX9_marks_27 rfl ?_
    obtain ⟨S4, eS4, h⟩ := wq_lt_some h
    refine wq_namS eS4 ?_
    refine wq_iinc (L' := [some (.ref (b + 0)), some (.int (wq_I c1)), some (.int (wq_I (y2 + 1)))]) F dX9_marks_28 rfl (by decide) rfl rfl rfl ?_
    refine wq_goto (tgt := 2) F dX9_marks_31 (by decide) ?_
    exact wq_lsub [some (.ref (b + 0)), some (.int (wq_I c1)), some (.int (wq_I (y2 + 1)))] (by simp [wq_sub]) (hrec (y2 + 1) S4 h)
set_option maxHeartbeats 4000000 in
set_option maxRecDepth 100000 in
theorem tl_X9_marks_2 {p : Program} {l : Launch} {e : Env} {s : State} {m : MethodId} {args : Array Value} {below : List Frame} {meth : Method} {c : Code} {D : va_G} {Ar : Nat → ClassId} {b : Nat} (F : wq_Fr p s m args meth c cX9_marks 3 ((Option.none : Option Jvm.ClassFile.FieldType)) "WharfQueryModel" D Ar) {r0 : Int} {S0 : wq_St} {c1 : Int} {kx : wq_St → Option (Int × wq_St)} (hkx : ∀ (S : wq_St), kx S = some (r0, S0) → wq_Z p l e (wq_rm 1 0 0) s m args below meth c D (wq_EM Ar b) b 32 3 (wq_Ab b 32) (MQ below (wq_Qc D (wq_EM Ar b) b 32 none S0) args s 0 0 (wq_Ab b 32)) 0 0 34 [none, none, none] [] S) (n : Nat) (y2 : Int) (S : wq_St) (h : l_X9_marks_2 c1 kx n y2 S = some (r0, S0)) : wq_Z p l e (wq_rm 1 0 0) s m args below meth c D (wq_EM Ar b) b 32 3 (wq_Ab b 32) (MQ below (wq_Qc D (wq_EM Ar b) b 32 none S0) args s 0 0 (wq_Ab b 32)) 0 0 2 [some (.ref (b + 0)), some (.int (wq_I c1)), some (.int (wq_I y2))] [] S :=
  wq_loop_ind (f := fun (g : Int × wq_St → Option (Int × wq_St)) (x : Int × wq_St) => b_X9_marks_2 c1 kx (fun y2 S => g (y2, S)) x.1 x.2) (P := (fun x : Int × wq_St => wq_Z p l e (wq_rm 1 0 0) s m args below meth c D (wq_EM Ar b) b 32 3 (wq_Ab b 32) (MQ below (wq_Qc D (wq_EM Ar b) b 32 none S0) args s 0 0 (wq_Ab b 32)) 0 0 2 [some (.ref (b + 0)), some (.int (wq_I c1)), some (.int (wq_I (x.1)))] [] x.2)) (fun g hg x hx => tb_X9_marks_2 F hkx (fun y2 S h => hg (y2, S) h) x.1 x.2 hx) n (y2, S) h
set_option maxHeartbeats 4000000 in
set_option maxRecDepth 100000 in
theorem ct_X9_marks {l : Launch} {D : va_G} {Ar : Nat → ClassId} {b : Nat} {x1 : Int} {S S0 : wq_St} {r0 : Int} (h : f_X9_marks x1 S = some (r0, S0)) : wq_Ct l yX9_marks (.code yX9_marks cX9_marks 3 ((Option.none : Option Jvm.ClassFile.FieldType))) 1 D Ar (wq_EM Ar b) b 32 [.ref (b + 0), .int (wq_I x1)] S none S0 := by
  refine wq_start "WharfQueryModel" [some (.ref (b + 0)), some (.int (wq_I x1)), none] (by decide +kernel) rfl (Nat.le_of_ble_eq_true rfl) rfl ?_
  intro p e s m args below meth c F
  unfold f_X9_marks at h
  refine wq_iconst (n := 0) F dX9_marks_0 rfl ?_
  refine wq_istore_n (L' := [some (.ref (b + 0)), some (.int (wq_I x1)), some (.int (wq_I 0))]) F dX9_marks_1 rfl (by decide) rfl rfl rfl ?_
  refine wq_lsub [some (.ref (b + 0)), some (.int (wq_I x1)), some (.int (wq_I 0))] (by simp [wq_sub]) (tl_X9_marks_2 F (fun S5 h => ?_) wq_fu 0 S h)
  cases h
  exact wq_vret F rfl rfl dX9_marks_34
