set_option maxHeartbeats 4000000 in
set_option maxRecDepth 100000 in
theorem tb_X2_takePay_4 {p : Program} {l : Launch} {e : Env} {s : State} {m : MethodId} {args : Array Value} {below : List Frame} {meth : Method} {c : Code} {D : va_G} {Ar : Nat → ClassId} {b : Nat} (F : wq_Fr p s m args meth c cX2_takePay 4 ((Option.none : Option Jvm.ClassFile.FieldType)) "WharfQuery$Crew" D Ar) {r0 : Int} {S0 : wq_St} {kx : Int → wq_St → Option (Int × wq_St)} (hkx : ∀ (u2 : Int) (S : wq_St), kx u2 S = some (r0, S0) → wq_Z p l e (wq_rm 13 0 0) s m args below meth c D (wq_EC Ar b) b 284 4 (wq_Ab b 284) (MQ below (wq_Qc D (wq_EC Ar b) b 284 none S0) args s 0 0 (wq_Ab b 284)) 0 0 43 [some (.ref (b + 282)), none, some (.int (wq_I u2)), none] [] S) {rec : Int → Int → wq_St → Option (Int × wq_St)} (hrec : ∀ (y2 : Int) (y3 : Int) (S : wq_St), rec y2 y3 S = some (r0, S0) → wq_Z p l e (wq_rm 13 0 0) s m args below meth c D (wq_EC Ar b) b 284 4 (wq_Ab b 284) (MQ below (wq_Qc D (wq_EC Ar b) b 284 none S0) args s 0 0 (wq_Ab b 284)) 0 0 4 [some (.ref (b + 282)), none, some (.int (wq_I y2)), some (.int (wq_I y3))] [] S) (y2 : Int) (y3 : Int) (S : wq_St) (h : b_X2_takePay_4 kx rec y2 y3 S = some (r0, S0)) : wq_Z p l e (wq_rm 13 0 0) s m args below meth c D (wq_EC Ar b) b 284 4 (wq_Ab b 284) (MQ below (wq_Qc D (wq_EC Ar b) b 284 none S0) args s 0 0 (wq_Ab b 284)) 0 0 4 [some (.ref (b + 282)), none, some (.int (wq_I y2)), some (.int (wq_I y3))] [] S := by
  unfold b_X2_takePay_4 at h
  refine wq_iload_n F dX2_takePay_4 rfl rfl rfl ?_
  refine wq_iconst (n := 4) F dX2_takePay_5 rfl ?_
  refine wq_icmp_ge (tgt := 43) F dX2_takePay_6 (by decide) rfl (fun hc => ?_) (fun hc => ?_)
  · replace h := wq_ift hc h
    exact wq_lsub [some (.ref (b + 282)), none, some (.int (wq_I y2)), none] (by simp [wq_sub]) (hkx y2 S h)
  · replace h := wq_iff hc h
    refine wq_aload_n F dX2_takePay_9 rfl rfl rfl ?_
    refine wq_g_X2_19 F dX2_takePay_10 rfl ?_
    refine wq_iload_n F dX2_takePay_13 rfl rfl rfl ?_
    obtain ⟨t1, ht1, wt1, h⟩ := wq_ix_some h
    refine wq_aald F (Nat.le_of_ble_eq_true rfl) wq_E_tabs rfl rfl ht1 wt1 dX2_takePay_14 rfl ?_
    refine wq_g_X2_35 F (wq_tab_i ht1) dX2_takePay_15 rfl ?_
    refine wq_if_eq (tgt := 37) F dX2_takePay_18 (by decide) rfl (fun hc => ?_) (fun hc => ?_)
    · replace h := wq_ift hc h
      refine wq_iinc (L' := [some (.ref (b + 282)), none, some (.int (wq_I y2)), some (.int (wq_I (y3 + 1)))]) F dX2_takePay_37 rfl (by decide) rfl rfl rfl ?_
      refine wq_goto (tgt := 4) F dX2_takePay_40 (by decide) ?_
      exact wq_lsub [some (.ref (b + 282)), none, some (.int (wq_I y2)), some (.int (wq_I (y3 + 1)))] (by simp [wq_sub]) (hrec y2 (y3 + 1) S h)
    · replace h := wq_iff hc h
      refine wq_iload_n F dX2_takePay_21 rfl rfl rfl ?_
      refine wq_aload_n F dX2_takePay_22 rfl rfl rfl ?_
      refine wq_g_X2_19 F dX2_takePay_23 rfl ?_
      refine wq_iload_n F dX2_takePay_26 rfl rfl rfl ?_
      obtain ⟨t2, ht2, wt2, h⟩ := wq_ix_some h
      refine wq_aald F (Nat.le_of_ble_eq_true rfl) wq_E_tabs rfl rfl ht2 wt2 dX2_takePay_27 rfl ?_
      refine wq_aload_n F dX2_takePay_28 rfl rfl rfl ?_
      refine wq_g_X2_15 F dX2_takePay_29 rfl ?_
      obtain ⟨r3, S4, h1r3, h⟩ := wq_bd_some h
      refine wq_callV (As := [.int (wq_I (S 282 5))]) F lk_X2_41 (ct_X7_takeSample (wq_tab_i ht2) h1r3) ⟨Nat.le_of_ble_eq_true rfl, Nat.le_of_ble_eq_true rfl⟩ ⟨Nat.le_of_ble_eq_true rfl, Nat.le_of_ble_eq_true rfl⟩ (wq_tab_lt (wq_tab_i ht2)) (wq_E_tab (wq_tab_i ht2)) rfl (fun _ h9 => h9) rfl rfl (Nat.le_of_ble_eq_true rfl) dX2_takePay_32 rfl ?_
      refine wq_iadd F dX2_takePay_35 rfl ?_
      refine wq_istore_n (L' := [some (.ref (b + 282)), none, some (.int (wq_I (y2 + r3))), some (.int (wq_I y3))]) F dX2_takePay_36 rfl (by decide) rfl rfl rfl ?_
      refine wq_iinc (L' := [some (.ref (b + 282)), none, some (.int (wq_I (y2 + r3))), some (.int (wq_I (y3 + 1)))]) F dX2_takePay_37 rfl (by decide) rfl rfl rfl ?_
      refine wq_goto (tgt := 4) F dX2_takePay_40 (by decide) ?_
      exact wq_lsub [some (.ref (b + 282)), none, some (.int (wq_I (y2 + r3))), some (.int (wq_I (y3 + 1)))] (by simp [wq_sub]) (hrec (y2 + r3) (y3 + 1) S4 h)
set_option maxHeartbeats 4000000 in
set_option maxRecDepth 100000 in
theorem tl_X2_takePay_4 {p : Program} {l : Launch} {e : Env} {s : State} {m : MethodId} {args : Array Value} {below : List Frame} {meth : Method} {c : Code} {D : va_G} {Ar : Nat → ClassId} {b : Nat} (F : wq_Fr p s m args meth c cX2_takePay 4 ((Option.none : Option Jvm.ClassFile.FieldType)) "WharfQuery$Crew" D Ar) {r0 : Int} {S0 : wq_St} {kx : Int → wq_St → Option (Int × wq_St)} (hkx : ∀ (u2 : Int) (S : wq_St), kx u2 S = some (r0, S0) → wq_Z p l e (wq_rm 13 0 0) s m args below meth c D (wq_EC Ar b) b 284 4 (wq_Ab b 284) (MQ below (wq_Qc D (wq_EC Ar b) b 284 none S0) args s 0 0 (wq_Ab b 284)) 0 0 43 [some (.ref (b + 282)), none, some (.int (wq_I u2)), none] [] S) (n : Nat) (y2 : Int) (y3 : Int) (S : wq_St) (h : l_X2_takePay_4 kx n y2 y3 S = some (r0, S0)) : wq_Z p l e (wq_rm 13 0 0) s m args below meth c D (wq_EC Ar b) b 284 4 (wq_Ab b 284) (MQ below (wq_Qc D (wq_EC Ar b) b 284 none S0) args s 0 0 (wq_Ab b 284)) 0 0 4 [some (.ref (b + 282)), none, some (.int (wq_I y2)), some (.int (wq_I y3))] [] S :=
  wq_loop_ind (f := fun (g : Int × Int × wq_St → Option (Int × wq_St)) (x : Int × Int × wq_St) => b_X2_takePay_4 kx (fun y2 y3 S => g (y2, y3, S)) x.1 x.2.1 x.2.2) (P := (fun x : Int × Int × wq_St => wq_Z p l e (wq_rm 13 0 0) s m args below meth c D (wq_EC Ar b) b 284 4 (wq_Ab b 284) (MQ below (wq_Qc D (wq_EC Ar b) b 284 none S0) args s 0 0 (wq_Ab b 284)) 0 0 4 [some (.ref (b + 282)), none, some (.int (wq_I (x.1))), some (.int (wq_I (x.2.1)))] [] x.2.2)) (fun g hg x hx => tb_X2_takePay_4 F hkx (fun y2 y3 S h => hg (y2, y3, S) h) x.1 x.2.1 x.2.2 hx) n (y2, y3, S) h
set_option maxHeartbeats 4000000 in
set_option maxRecDepth 100000 in
theorem tb_X2_takePay_45 {p : Program} {l : Launch} {e : Env} {s : State} {m : MethodId} {args : Array Value} {below : List Frame} {meth : Method} {c : Code} {D : va_G} {Ar : Nat → ClassId} {b : Nat} (F : wq_Fr p s m args meth c cX2_takePay 4 ((Option.none : Option Jvm.ClassFile.FieldType)) "WharfQuery$Crew" D Ar) {r0 : Int} {S0 : wq_St} {kx : Int → wq_St → Option (Int × wq_St)} (hkx : ∀ (u2 : Int) (S : wq_St), kx u2 S = some (r0, S0) → wq_Z p l e (wq_rm 13 0 0) s m args below meth c D (wq_EC Ar b) b 284 4 (wq_Ab b 284) (MQ below (wq_Qc D (wq_EC Ar b) b 284 none S0) args s 0 0 (wq_Ab b 284)) 0 0 88 [some (.ref (b + 282)), none, some (.int (wq_I u2)), none] [] S) {rec : Int → Int → wq_St → Option (Int × wq_St)} (hrec : ∀ (y2 : Int) (y3 : Int) (S : wq_St), rec y2 y3 S = some (r0, S0) → wq_Z p l e (wq_rm 13 0 0) s m args below meth c D (wq_EC Ar b) b 284 4 (wq_Ab b 284) (MQ below (wq_Qc D (wq_EC Ar b) b 284 none S0) args s 0 0 (wq_Ab b 284)) 0 0 45 [some (.ref (b + 282)), none, some (.int (wq_I y2)), some (.int (wq_I y3))] [] S) (y2 : Int) (y3 : Int) (S : wq_St) (h : b_X2_takePay_45 kx rec y2 y3 S = some (r0, S0)) : wq_Z p l e (wq_rm 13 0 0) s m args below meth c D (wq_EC Ar b) b 284 4 (wq_Ab b 284) (MQ below (wq_Qc D (wq_EC Ar b) b 284 none S0) args s 0 0 (wq_Ab b 284)) 0 0 45 [some (.ref (b + 282)), none, some (.int (wq_I y2)), some (.int (wq_I y3))] [] S := by
  unfold b_X2_takePay_45 at h
  refine wq_iload_n F dX2_takePay_45 rfl rfl rfl ?_
  refine wq_bipush (n := 8) F dX2_takePay_46 (by decide) rfl ?_
  refine wq_icmp_ge (tgt := 88) F dX2_takePay_48 (by decide) rfl (fun hc => ?_) (fun hc => ?_)
  · replace h := wq_ift hc h
    exact wq_lsub [some (.ref (b + 282)), none, some (.int (wq_I y2)), none] (by simp [wq_sub]) (hkx y2 S h)
  · replace h := wq_iff hc h
    refine wq_aload_n F dX2_takePay_51 rfl rfl rfl ?_
    refine wq_g_X2_23 F dX2_takePay_52 rfl ?_
    refine wq_iload_n F dX2_takePay_55 rfl rfl rfl ?_
    obtain ⟨t7, ht7, wt7, h⟩ := wq_ix_some h
    refine wq_aald F (Nat.le_of_ble_eq_true rfl) wq_E_reps rfl rfl ht7 wt7 dX2_takePay_56 rfl ?_
    refine wq_g_X2_45 F (wq_rep_i ht7) dX2_takePay_57 rfl ?_
    refine wq_if_eq (tgt := 82) F dX2_takePay_60 (by decide) rfl (fun hc => ?_) (fun hc => ?_)
    · replace h := wq_ift hc h
      refine wq_iinc (L' := [some (.ref (b + 282)), none, some (.int (wq_I y2)), some (.int (wq_I (y3 + 1)))]) F dX2_takePay_82 rfl (by decide) rfl rfl rfl ?_
      refine wq_goto (tgt := 45) F dX2_takePay_85 (by decide) ?_
      exact wq_lsub [some (.ref (b + 282)), none, some (.int (wq_I y2)), some (.int (wq_I (y3 + 1)))] (by simp [wq_sub]) (hrec y2 (y3 + 1) S h)
    · replace h := wq_iff hc h
      refine wq_iload_n F dX2_takePay_63 rfl rfl rfl ?_
      refine wq_aload_n F dX2_takePay_64 rfl rfl rfl ?_
      refine wq_g_X2_27 F dX2_takePay_65 rfl ?_
      refine wq_aload_n F dX2_takePay_68 rfl rfl rfl ?_
      refine wq_g_X2_23 F dX2_takePay_69 rfl ?_
      refine wq_iload_n F dX2_takePay_72 rfl rfl rfl ?_
      obtain ⟨t8, ht8, wt8, h⟩ := wq_ix_some h
      refine wq_aald F (Nat.le_of_ble_eq_true rfl) wq_E_reps rfl rfl ht8 wt8 dX2_takePay_73 rfl ?_
      obtain ⟨r9, S10, h1r9, h⟩ := wq_bd_some h
      refine wq_callV (As := [.ref (b + (199 + 9 * t8))]) F lk_X2_50 (ct_X4_choose (wq_rep_i ht8) h1r9) ⟨Nat.le_of_ble_eq_true rfl, Nat.le_of_ble_eq_true rfl⟩ ⟨Nat.le_of_ble_eq_true rfl, Nat.le_of_ble_eq_true rfl⟩ (Nat.le_of_ble_eq_true rfl) rfl rfl (fun _ h9 => h9) rfl rfl (Nat.le_of_ble_eq_true rfl) dX2_takePay_74 rfl ?_
      obtain ⟨r11, S12, h1r11, h⟩ := wq_bd_some h
      refine wq_callV (As := []) F lk_X2_56 (ct_X3_foretoldMinutes (pd_X4_choose (wq_rep_i ht8) h1r9) h1r11) ⟨Nat.le_of_ble_eq_true rfl, Nat.le_of_ble_eq_true rfl⟩ ⟨Nat.le_of_ble_eq_true rfl, Nat.le_of_ble_eq_true rfl⟩ (wq_pln_lt (pd_X4_choose (wq_rep_i ht8) h1r9)) (wq_E_pln (pd_X4_choose (wq_rep_i ht8) h1r9)) rfl (fun _ h9 => h9) rfl rfl (Nat.le_of_ble_eq_true rfl) dX2_takePay_77 rfl ?_
      refine wq_iadd F dX2_takePay_80 rfl ?_
      refine wq_istore_n (L' := [some (.ref (b + 282)), none, some (.int (wq_I (y2 + r11))), some (.int (wq_I y3))]) F dX2_takePay_81 rfl (by decide) rfl rfl rfl ?_
      refine wq_iinc (L' := [some (.ref (b + 282)), none, some (.int (wq_I (y2 + r11))), some (.int (wq_I (y3 + 1)))]) F dX2_takePay_82 rfl (by decide) rfl rfl rfl ?_
      refine wq_goto (tgt := 45) F dX2_takePay_85 (by decide) ?_
      exact wq_lsub [some (.ref (b + 282)), none, some (.int (wq_I (y2 + r11))), some (.int (wq_I (y3 + 1)))] (by simp [wq_sub]) (hrec (y2 + r11) (y3 + 1) S12 h)
set_option maxHeartbeats 4000000 in
set_option maxRecDepth 100000 in
theorem tl_X2_takePay_45 {p : Program} {l : Launch} {e : Env} {s : State} {m : MethodId} {args : Array Value} {below : List Frame} {meth : Method} {c : Code} {D : va_G} {Ar : Nat → ClassId} {b : Nat} (F : wq_Fr p s m args meth c cX2_takePay 4 ((Option.none : Option Jvm.ClassFile.FieldType)) "WharfQuery$Crew" D Ar) {r0 : Int} {S0 : wq_St} {kx : Int → wq_St → Option (Int × wq_St)} (hkx : ∀ (u2 : Int) (S : wq_St), kx u2 S = some (r0, S0) → wq_Z p l e (wq_rm 13 0 0) s m args below meth c D (wq_EC Ar b) b 284 4 (wq_Ab b 284) (MQ below (wq_Qc D (wq_EC Ar b) b 284 none S0) args s 0 0 (wq_Ab b 284)) 0 0 88 [some (.ref (b + 282)), none, some (.int (wq_I u2)), none] [] S) (n : Nat) (y2 : Int) (y3 : Int) (S : wq_St) (h : l_X2_takePay_45 kx n y2 y3 S = some (r0, S0)) : wq_Z p l e (wq_rm 13 0 0) s m args below meth c D (wq_EC Ar b) b 284 4 (wq_Ab b 284) (MQ below (wq_Qc D (wq_EC Ar b) b 284 none S0) args s 0 0 (wq_Ab b 284)) 0 0 45 [some (.ref (b + 282)), none, some (.int (wq_I y2)), some (.int (wq_I y3))] [] S :=
  wq_loop_ind (f := fun (g : Int × Int × wq_St → Option (Int × wq_St)) (x : Int × Int × wq_St) => b_X2_takePay_45 kx (fun y2 y3 S => g (y2, y3, S)) x.1 x.2.1 x.2.2) (P := (fun x : Int × Int × wq_St => wq_Z p l e (wq_rm 13 0 0) s m args below meth c D (wq_EC Ar b) b 284 4 (wq_Ab b 284) (MQ below (wq_Qc D (wq_EC Ar b) b 284 none S0) args s 0 0 (wq_Ab b 284)) 0 0 45 [some (.ref (b + 282)), none, some (.int (wq_I (x.1))), some (.int (wq_I (x.2.1)))] [] x.2.2)) (fun g hg x hx => tb_X2_takePay_45 F hkx (fun y2 y3 S h => hg (y2, y3, S) h) x.1 x.2.1 x.2.2 hx) n (y2, y3, S) h
set_option maxHeartbeats 4000000 in
set_option maxRecDepth 100000 in
theorem ct_X2_takePay {l : Launch} {D : va_G} {Ar : Nat → ClassId} {b : Nat} {x1 : Int} {S S0 : wq_St} {r0 : Int} (h : f_X2_takePay x1 S = some (r0, S0)) : wq_Ct l yX2_takePay (.code yX2_takePay cX2_takePay 4 ((Option.none : Option Jvm.ClassFile.FieldType))) 13 D Ar (wq_EC Ar b) b 284 [.ref (b + 282), .int (wq_I x1)] S none S0 := by
  refine wq_start "WharfQuery$Crew" [some (.ref (b + 282)), some (.int (wq_I x1)), none, none] (by decide +kernel) rfl (Nat.le_of_ble_eq_true rfl) rfl ?_
  intro p e s m args below meth c F
  unfold f_X2_takePay at h
  refine wq_iload_n F dX2_takePay_0 rfl rfl rfl ?_
  refine wq_istore_n (L' := [some (.ref (b + 282)), some (.int (wq_I x1)), some (.int (wq_I x1)), none]) F dX2_takePay_1 rfl (by decide) rfl rfl rfl ?_
  refine wq_iconst (n := 0) F dX2_takePay_2 rfl ?_
  refine wq_istore_n (L' := [some (.ref (b + 282)), some (.int (wq_I x1)), some (.int (wq_I x1)), some (.int (wq_I 0))]) F dX2_takePay_3 rfl (by decide) rfl rfl rfl ?_
  refine wq_lsub [some (.ref (b + 282)), none, some (.int (wq_I x1)), some (.int (wq_I 0))] (by simp [wq_sub]) (tl_X2_takePay_4 F (fun u5 S6 h => ?_) wq_fu x1 0 S h)
  refine wq_iconst (n := 0) F dX2_takePay_43 rfl ?_
  refine wq_istore_n (L' := [some (.ref (b + 282)), none, some (.int (wq_I u5)), some (.int (wq_I 0))]) F dX2_takePay_44 rfl (by decide) rfl rfl rfl ?_
  refine wq_lsub [some (.ref (b + 282)), none, some (.int (wq_I u5)), some (.int (wq_I 0))] (by simp [wq_sub]) (tl_X2_takePay_45 F (fun u13 S14 h => ?_) wq_fu u5 0 S6 h)
  refine wq_aload_n F dX2_takePay_88 rfl rfl rfl ?_
  refine wq_dup1 F rfl dX2_takePay_89 rfl ?_
  refine wq_g_X2_62 F dX2_takePay_90 rfl ?_
  refine wq_iload_n F dX2_takePay_93 rfl rfl rfl ?_
  refine wq_iadd F dX2_takePay_94 rfl ?_
  refine wq_p_X2_62 F (fun _ h9 => h9) dX2_takePay_95 rfl ?_
  obtain ⟨S15, eS15, h⟩ := wq_lt_some h
  refine wq_namS eS15 ?_
  refine wq_aload_n F dX2_takePay_98 rfl rfl rfl ?_
  refine wq_iload_n F dX2_takePay_99 rfl rfl rfl ?_
  refine wq_p_X2_65 F (fun _ h9 => h9) dX2_takePay_100 rfl ?_
  cases h
  exact wq_vret F rfl rfl dX2_takePay_103
set_option maxHeartbeats 4000000 in
set_option maxRecDepth 100000 in
theorem tb_X2_renewMarkedTables_2 {p : Program} {l : Launch} {e : Env} {s : State} {m : MethodId} {args : Array Value} {below : List Frame} {meth : Method} {c : Code} {D : va_G} {Ar : Nat → ClassId} {b : Nat} (F : wq_Fr p s m args meth c cX2_renewMarkedTables 3 ((Option.none : Option Jvm.ClassFile.FieldType)) "WharfQuery$Crew" D Ar) {r0 : Int} {S0 : wq_St} {kx : wq_St → Option (Int × wq_St)} (hkx : ∀ (S : wq_St), kx S = some (r0, S0) → wq_Z p l e (wq_rm 4 0 0) s m args below meth c D (wq_EC Ar b) b 284 3 (wq_Ab b 284) (MQ below (wq_Qc D (wq_EC Ar b) b 284 none S0) args s 0 0 (wq_Ab b 284)) 0 0 67 [none, none, none] [] S) {rec : Int → wq_St → Option (Int × wq_St)} (hrec : ∀ (y1 : Int) (S : wq_St), rec y1 S = some (r0, S0) → wq_Z p l e (wq_rm 4 0 0) s m args below meth c D (wq_EC Ar b) b 284 3 (wq_Ab b 284) (MQ below (wq_Qc D (wq_EC Ar b) b 284 none S0) args s 0 0 (wq_Ab b 284)) 0 0 2 [some (.ref (b + 282)), some (.int (wq_I y1)), none] [] S) (y1 : Int) (S : wq_St) (h : b_X2_renewMarkedTables_2 kx rec y1 S = some (r0, S0)) : wq_Z p l e (wq_rm 4 0 0) s m args below meth c D (wq_EC Ar b) b 284 3 (wq_Ab b 284) (MQ below (wq_Qc D (wq_EC Ar b) b 284 none S0) args s 0 0 (wq_Ab b 284)) 0 0 2 [some (.ref (b + 282)), some (.int (wq_I y1)), none] [] S := by
  unfold b_X2_renewMarkedTables_2 at h
  refine wq_iload_n F dX2_renewMarkedTables_2 rfl rfl rfl ?_
  refine wq_iconst (n := 4) F dX2_renewMarkedTables_3 rfl ?_
  refine wq_icmp_ge (tgt := 67) F dX2_renewMarkedTables_4 (by decide) rfl (fun hc => ?_) (fun hc => ?_)
  · replace h := wq_ift hc h
    exact wq_lsub [none, none, none] (by simp [wq_sub]) (hkx S h)
  · replace h := wq_iff hc h
    refine wq_aload_n F dX2_renewMarkedTables_7 rfl rfl rfl ?_
    refine wq_g_X2_19 F dX2_renewMarkedTables_8 rfl ?_
    refine wq_iload_n F dX2_renewMarkedTables_11 rfl rfl rfl ?_
    obtain ⟨t1, ht1, wt1, h⟩ := wq_ix_some h
    refine wq_aald F (Nat.le_of_ble_eq_true rfl) wq_E_tabs rfl rfl ht1 wt1 dX2_renewMarkedTables_12 rfl ?_
    refine wq_astore_n (L' := [some (.ref (b + 282)), some (.int (wq_I y1)), some (.ref (b + (6 + 48 * t1)))]) F dX2_renewMarkedTables_13 rfl (by decide) rfl rfl rfl ?_
    refine wq_aload_n F dX2_renewMarkedTables_14 rfl rfl rfl ?_
    refine wq_g_X2_35 F (wq_tab_i ht1) dX2_renewMarkedTables_15 rfl ?_
    refine wq_if_eq (tgt := 61) F dX2_renewMarkedTables_18 (by decide) rfl (fun hc => ?_) (fun hc => ?_)
    · replace h := wq_ift hc h
      refine wq_iinc (L' := [some (.ref (b + 282)), some (.int (wq_I (y1 + 1))), some (.ref (b + (6 + 48 * t1)))]) F dX2_renewMarkedTables_61 rfl (by decide) rfl rfl rfl ?_
      refine wq_goto (tgt := 2) F dX2_renewMarkedTables_64 (by decide) ?_
      exact wq_lsub [some (.ref (b + 282)), some (.int (wq_I (y1 + 1))), none] (by simp [wq_sub]) (hrec (y1 + 1) S h)
    · replace h := wq_iff hc h
      refine wq_aload_n F dX2_renewMarkedTables_21 rfl rfl rfl ?_
      refine wq_aload_n F dX2_renewMarkedTables_22 rfl rfl rfl ?_
      refine wq_g_X2_15 F dX2_renewMarkedTables_23 rfl ?_
      obtain ⟨r2, S3, h1r2, h⟩ := wq_bd_some h
      refine wq_callV (As := [.int (wq_I (S 282 5))]) F lk_X2_41 (ct_X7_takeSample (wq_tab_i ht1) h1r2) ⟨Nat.le_of_ble_eq_true rfl, Nat.le_of_ble_eq_true rfl⟩ ⟨Nat.le_of_ble_eq_true rfl, Nat.le_of_ble_eq_true rfl⟩ (wq_tab_lt (wq_tab_i ht1)) (wq_E_tab (wq_tab_i ht1)) rfl (fun _ h9 => h9) rfl rfl (Nat.le_of_ble_eq_true rfl) dX2_renewMarkedTables_26 rfl ?_
      refine wq_aload_n F dX2_renewMarkedTables_29 rfl rfl rfl ?_
      refine wq_g_X2_65 F dX2_renewMarkedTables_30 rfl ?_
      refine wq_icmp_le (tgt := 39) F dX2_renewMarkedTables_33 (by decide) rfl (fun hc => ?_) (fun hc => ?_)
      · replace h := wq_ift hc h
        refine wq_aload_n F dX2_renewMarkedTables_39 rfl rfl rfl ?_
        refine wq_dup1 F rfl dX2_renewMarkedTables_40 rfl ?_
        refine wq_g_X2_65 F dX2_renewMarkedTables_41 rfl ?_
        refine wq_aload_n F dX2_renewMarkedTables_44 rfl rfl rfl ?_
        refine wq_aload_n F dX2_renewMarkedTables_45 rfl rfl rfl ?_
        refine wq_g_X2_15 F dX2_renewMarkedTables_46 rfl ?_
        obtain ⟨r4, S5, h1r4, h⟩ := wq_bd_some h
        refine wq_callV (As := [.int (wq_I (S3 282 5))]) F lk_X2_68 (ct_X7_renewCounts (wq_tab_i ht1) h1r4) ⟨Nat.le_of_ble_eq_true rfl, Nat.le_of_ble_eq_true rfl⟩ ⟨Nat.le_of_ble_eq_true rfl, Nat.le_of_ble_eq_true rfl⟩ (wq_tab_lt (wq_tab_i ht1)) (wq_E_tab (wq_tab_i ht1)) rfl (fun _ h9 => h9) rfl rfl (Nat.le_of_ble_eq_true rfl) dX2_renewMarkedTables_49 rfl ?_
        refine wq_isub F dX2_renewMarkedTables_52 rfl ?_
        refine wq_p_X2_65 F (fun _ h9 => h9) dX2_renewMarkedTables_53 rfl ?_
        obtain ⟨S6, eS6, h⟩ := wq_lt_some h
        refine wq_namS eS6 ?_
        refine wq_aload_n F dX2_renewMarkedTables_56 rfl rfl rfl ?_
        refine wq_iconst (n := 0) F dX2_renewMarkedTables_57 rfl ?_
        refine wq_p_X2_35 F (wq_tab_i ht1) (by decide) (fun _ h9 => h9) dX2_renewMarkedTables_58 rfl ?_
        obtain ⟨S7, eS7, h⟩ := wq_lt_some h
        refine wq_namS eS7 ?_
        refine wq_iinc (L' := [some (.ref (b + 282)), some (.int (wq_I (y1 + 1))), some (.ref (b + (6 + 48 * t1)))]) F dX2_renewMarkedTables_61 rfl (by decide) rfl rfl rfl ?_
        refine wq_goto (tgt := 2) F dX2_renewMarkedTables_64 (by decide) ?_
        exact wq_lsub [some (.ref (b + 282)), some (.int (wq_I (y1 + 1))), none] (by simp [wq_sub]) (hrec (y1 + 1) S7 h)
      · replace h := wq_iff hc h
        refine wq_goto (tgt := 61) F dX2_renewMarkedTables_36 (by decide) ?_
        refine wq_iinc (L' := [some (.ref (b + 282)), some (.int (wq_I (y1 + 1))), some (.ref (b + (6 + 48 * t1)))]) F dX2_renewMarkedTables_61 rfl (by decide) rfl rfl rfl ?_
        refine wq_goto (tgt := 2) F dX2_renewMarkedTables_64 (by decide) ?_
        exact wq_lsub [some (.ref (b + 282)), some (.int (wq_I (y1 + 1))), none] (by simp [wq_sub]) (hrec (y1 + 1) S3 h)
set_option maxHeartbeats 4000000 in
set_option maxRecDepth 100000 in
theorem tl_X2_renewMarkedTables_2 {p : Program} {l : Launch} {e : Env} {s : State} {m : MethodId} {args : Array Value} {below : List Frame} {meth : Method} {c : Code} {D : va_G} {Ar : Nat → ClassId} {b : Nat} (F : wq_Fr p s m args meth c cX2_renewMarkedTables 3 ((Option.none : Option Jvm.ClassFile.FieldType)) "WharfQuery$Crew" D Ar) {r0 : Int} {S0 : wq_St} {kx : wq_St → Option (Int × wq_St)} (hkx : ∀ (S : wq_St), kx S = some (r0, S0) → wq_Z p l e (wq_rm 4 0 0) s m args below meth c D (wq_EC Ar b) b 284 3 (wq_Ab b 284) (MQ below (wq_Qc D (wq_EC Ar b) b 284 none S0) args s 0 0 (wq_Ab b 284)) 0 0 67 [none, none, none] [] S) (n : Nat) (y1 : Int) (S : wq_St) (h : l_X2_renewMarkedTables_2 kx n y1 S = some (r0, S0)) : wq_Z p l e (wq_rm 4 0 0) s m args below meth c D (wq_EC Ar b) b 284 3 (wq_Ab b 284) (MQ below (wq_Qc D (wq_EC Ar b) b 284 none S0) args s 0 0 (wq_Ab b 284)) 0 0 2 [some (.ref (b + 282)), some (.int (wq_I y1)), none] [] S :=
  wq_loop_ind (f := fun (g : Int × wq_St → Option (Int × wq_St)) (x : Int × wq_St) => b_X2_renewMarkedTables_2 kx (fun y1 S => g (y1, S)) x.1 x.2) (P := (fun x : Int × wq_St => wq_Z p l e (wq_rm 4 0 0) s m args below meth c D (wq_EC Ar b) b 284 3 (wq_Ab b 284) (MQ below (wq_Qc D (wq_EC Ar b) b 284 none S0) args s 0 0 (wq_Ab b 284)) 0 0 2 [some (.ref (b + 282)), some (.int (wq_I (x.1))), none] [] x.2)) (fun g hg x hx => tb_X2_renewMarkedTables_2 F hkx (fun y1 S h => hg (y1, S) h) x.1 x.2 hx) n (y1, S) h
set_option maxHeartbeats 4000000 in
set_option maxRecDepth 100000 in
theorem ct_X2_renewMarkedTables {l : Launch} {D : va_G} {Ar : Nat → ClassId} {b : Nat} {S S0 : wq_St} {r0 : Int} (h : f_X2_renewMarkedTables S = some (r0, S0)) : wq_Ct l yX2_renewMarkedTables (.code yX2_renewMarkedTables cX2_renewMarkedTables 3 ((Option.none : Option Jvm.ClassFile.FieldType))) 4 D Ar (wq_EC Ar b) b 284 [.ref (b + 282)] S none S0 := by
  refine wq_start "WharfQuery$Crew" [some (.ref (b + 282)), none, none] (by decide +kernel) rfl (Nat.le_of_ble_eq_true rfl) rfl ?_
  intro p e s m args below meth c F
  unfold f_X2_renewMarkedTables at h
  refine wq_iconst (n := 0) F dX2_renewMarkedTables_0 rfl ?_
  refine wq_istore_n (L' := [some (.ref (b + 282)), some (.int (wq_I 0)), none]) F dX2_renewMarkedTables_1 rfl (by decide) rfl rfl rfl ?_
  refine wq_lsub [some (.ref (b + 282)), some (.int (wq_I 0)), none] (by simp [wq_sub]) (tl_X2_renewMarkedTables_2 F (fun S8 h => ?_) wq_fu 0 S h)
  cases h
  exact wq_vret F rfl rfl dX2_renewMarkedTables_67
set_option maxHeartbeats 4000000 in
set_option maxRecDepth 100000 in
theorem tb_X2_lineUpDueReports_27 {p : Program} {l : Launch} {e : Env} {s : State} {m : MethodId} {args : Array Value} {below : List Frame} {meth : Method} {c : Code} {D : va_G} {Ar : Nat → ClassId} {b : Nat} (F : wq_Fr p s m args meth c cX2_lineUpDueReports 4 ((Option.some Jvm.ClassFile.FieldType.int)) "WharfQuery$Crew" D Ar) {r0 : Int} {S0 : wq_St} {c1 : Int} {c2 : Int} {kx : Int → wq_St → Option (Int × wq_St)} (hkx : ∀ (u3 : Int) (S : wq_St), kx u3 S = some (r0, S0) → wq_Z p l e (wq_rm 1 0 0) s m args below meth c D (wq_EC Ar b) b 284 4 (wq_Ab b 284) (MQ below (wq_Qc D (wq_EC Ar b) b 284 (some (.int (wq_I r0))) S0) args s 0 0 (wq_Ab b 284)) 0 0 79 [some (.ref (b + 282)), some (.int (wq_I c1)), some (.int (wq_I c2)), some (.int (wq_I u3))] [] S) {rec : Int → wq_St → Option (Int × wq_St)} (hrec : ∀ (y3 : Int) (S : wq_St), rec y3 S = some (r0, S0) → wq_Z p l e (wq_rm 1 0 0) s m args below meth c D (wq_EC Ar b) b 284 4 (wq_Ab b 284) (MQ below (wq_Qc D (wq_EC Ar b) b 284 (some (.int (wq_I r0))) S0) args s 0 0 (wq_Ab b 284)) 0 0 27 [some (.ref (b + 282)), some (.int (wq_I c1)), some (.int (wq_I c2)), some (.int (wq_I y3))] [] S) (y3 : Int) (S : wq_St) (h : b_X2_lineUpDueReports_27 c1 c2 kx rec y3 S = some (r0, S0)) : wq_Z p l e (wq_rm 1 0 0) s m args below meth c D (wq_EC Ar b) b 284 4 (wq_Ab b 284) (MQ below (wq_Qc D (wq_EC Ar b) b 284 (some (.int (wq_I r0))) S0) args s 0 0 (wq_Ab b 284)) 0 0 27 [some (.ref (b + 282)), some (.int (wq_I c1)), some (.int (wq_I c2)), some (.int (wq_I y3))] [] S := by
  unfold b_X2_lineUpDueReports_27 at h
  refine wq_iload_n F dX2_lineUpDueReports_27 rfl rfl rfl ?_
  refine wq_if_le (tgt := 79) F dX2_lineUpDueReports_28 (by decide) rfl (fun hc => ?_) (fun hc => ?_)
  · replace h := wq_ift hc h
    exact wq_lsub [some (.ref (b + 282)), some (.int (wq_I c1)), some (.int (wq_I c2)), some (.int (wq_I y3))] (by simp [wq_sub]) (hkx y3 S h)
  · replace h := wq_iff hc h
    refine wq_aload_n F dX2_lineUpDueReports_31 rfl rfl rfl ?_
    refine wq_g_X2_23 F dX2_lineUpDueReports_32 rfl ?_
    refine wq_aload_n F dX2_lineUpDueReports_35 rfl rfl rfl ?_
    refine wq_g_X2_9 F dX2_lineUpDueReports_36 rfl ?_
    refine wq_iload_n F dX2_lineUpDueReports_39 rfl rfl rfl ?_
    refine wq_iconst (n := 1) F dX2_lineUpDueReports_40 rfl ?_
    refine wq_isub F dX2_lineUpDueReports_41 rfl ?_
    obtain ⟨t2, ht2, wt2, h⟩ := wq_ix_some h
    refine wq_iald F (Nat.le_of_ble_eq_true rfl) wq_E_line ht2 wt2 dX2_lineUpDueReports_42 rfl ?_
    obtain ⟨t3, ht3, wt3, h⟩ := wq_ix_some h
    refine wq_aald F (Nat.le_of_ble_eq_true rfl) wq_E_reps rfl rfl ht3 wt3 dX2_lineUpDueReports_43 rfl ?_
    refine wq_g_X2_90 F (wq_rep_i ht3) dX2_lineUpDueReports_44 rfl ?_
    refine wq_aload_n F dX2_lineUpDueReports_47 rfl rfl rfl ?_
    refine wq_g_X2_23 F dX2_lineUpDueReports_48 rfl ?_
    refine wq_iload_n F dX2_lineUpDueReports_51 rfl rfl rfl ?_
    obtain ⟨t4, ht4, wt4, h⟩ := wq_ix_some h
    refine wq_aald F (Nat.le_of_ble_eq_true rfl) wq_E_reps rfl rfl ht4 wt4 dX2_lineUpDueReports_52 rfl ?_
    refine wq_g_X2_90 F (wq_rep_i ht4) dX2_lineUpDueReports_53 rfl ?_
    refine wq_icmp_ge (tgt := 79) F dX2_lineUpDueReports_56 (by decide) rfl (fun hc => ?_) (fun hc => ?_)
    · replace h := wq_ift hc h
      exact wq_lsub [some (.ref (b + 282)), some (.int (wq_I c1)), some (.int (wq_I c2)), some (.int (wq_I y3))] (by simp [wq_sub]) (hkx y3 S h)
    · replace h := wq_iff hc h
      refine wq_aload_n F dX2_lineUpDueReports_59 rfl rfl rfl ?_
      refine wq_g_X2_9 F dX2_lineUpDueReports_60 rfl ?_
      refine wq_iload_n F dX2_lineUpDueReports_63 rfl rfl rfl ?_
      refine wq_aload_n F dX2_lineUpDueReports_64 rfl rfl rfl ?_
      refine wq_g_X2_9 F dX2_lineUpDueReports_65 rfl ?_
      refine wq_iload_n F dX2_lineUpDueReports_68 rfl rfl rfl ?_
      refine wq_iconst (n := 1) F dX2_lineUpDueReports_69 rfl ?_
      refine wq_isub F dX2_lineUpDueReports_70 rfl ?_
      obtain ⟨t5, ht5, wt5, h⟩ := wq_ix_some h
      refine wq_iald F (Nat.le_of_ble_eq_true rfl) wq_E_line ht5 wt5 dX2_lineUpDueReports_71 rfl ?_
      obtain ⟨t6, ht6, wt6, h⟩ := wq_ix_some h
      refine wq_iast F (Nat.le_of_ble_eq_true rfl) wq_E_line wq_E_line ht6 wt6 ⟨Nat.le_add_right _ _, Nat.add_lt_add_left (Nat.le_of_ble_eq_true rfl) b⟩ dX2_lineUpDueReports_72 rfl ?_
      obtain ⟨S7, eS7, h⟩ := wq_lt_some h
      refine wq_namS eS7 ?_
      refine wq_iinc (L' := [some (.ref (b + 282)), some (.int (wq_I c1)), some (.int (wq_I c2)), some (.int (wq_I (y3 + (-1))))]) F dX2_lineUpDueReports_73 rfl (by decide) rfl rfl rfl ?_
      refine wq_goto (tgt := 27) F dX2_lineUpDueReports_76 (by decide) ?_
      exact wq_lsub [some (.ref (b + 282)), some (.int (wq_I c1)), some (.int (wq_I c2)), some (.int (wq_I (y3 + (-1))))] (by simp [wq_sub]) (hrec (y3 + (-1)) S7 h)
set_option maxHeartbeats 4000000 in
set_option maxRecDepth 100000 in
theorem tl_X2_lineUpDueReports_27 {p : Program} {l : Launch} {e : Env} {s : State} {m : MethodId} {args : Array Value} {below : List Frame} {meth : Method} {c : Code} {D : va_G} {Ar : Nat → ClassId} {b : Nat} (F : wq_Fr p s m args meth c cX2_lineUpDueReports 4 ((Option.some Jvm.ClassFile.FieldType.int)) "WharfQuery$Crew" D Ar) {r0 : Int} {S0 : wq_St} {c1 : Int} {c2 : Int} {kx : Int → wq_St → Option (Int × wq_St)} (hkx : ∀ (u3 : Int) (S : wq_St), kx u3 S = some (r0, S0) → wq_Z p l e (wq_rm 1 0 0) s m args below meth c D (wq_EC Ar b) b 284 4 (wq_Ab b 284) (MQ below (wq_Qc D (wq_EC Ar b) b 284 (some (.int (wq_I r0))) S0) args s 0 0 (wq_Ab b 284)) 0 0 79 [some (.ref (b + 282)), some (.int (wq_I c1)), some (.int (wq_I c2)), some (.int (wq_I u3))] [] S) (n : Nat) (y3 : Int) (S : wq_St) (h : l_X2_lineUpDueReports_27 c1 c2 kx n y3 S = some (r0, S0)) : wq_Z p l e (wq_rm 1 0 0) s m args below meth c D (wq_EC Ar b) b 284 4 (wq_Ab b 284) (MQ below (wq_Qc D (wq_EC Ar b) b 284 (some (.int (wq_I r0))) S0) args s 0 0 (wq_Ab b 284)) 0 0 27 [some (.ref (b + 282)), some (.int (wq_I c1)), some (.int (wq_I c2)), some (.int (wq_I y3))] [] S :=
  wq_loop_ind (f := fun (g : Int × wq_St → Option (Int × wq_St)) (x : Int × wq_St) => b_X2_lineUpDueReports_27 c1 c2 kx (fun y3 S => g (y3, S)) x.1 x.2) (P := (fun x : Int × wq_St => wq_Z p l e (wq_rm 1 0 0) s m args below meth c D (wq_EC Ar b) b 284 4 (wq_Ab b 284) (MQ below (wq_Qc D (wq_EC Ar b) b 284 (some (.int (wq_I r0))) S0) args s 0 0 (wq_Ab b 284)) 0 0 27 [some (.ref (b + 282)), some (.int (wq_I c1)), some (.int (wq_I c2)), some (.int (wq_I (x.1)))] [] x.2)) (fun g hg x hx => tb_X2_lineUpDueReports_27 F hkx (fun y3 S h => hg (y3, S) h) x.1 x.2 hx) n (y3, S) h
set_option maxHeartbeats 4000000 in
set_option maxRecDepth 100000 in
theorem tb_X2_lineUpDueReports_4 {p : Program} {l : Launch} {e : Env} {s : State} {m : MethodId} {args : Array Value} {below : List Frame} {meth : Method} {c : Code} {D : va_G} {Ar : Nat → ClassId} {b : Nat} (F : wq_Fr p s m args meth c cX2_lineUpDueReports 4 ((Option.some Jvm.ClassFile.FieldType.int)) "WharfQuery$Crew" D Ar) {r0 : Int} {S0 : wq_St} {kx : Int → wq_St → Option (Int × wq_St)} (hkx : ∀ (u1 : Int) (S : wq_St), kx u1 S = some (r0, S0) → wq_Z p l e (wq_rm 1 0 0) s m args below meth c D (wq_EC Ar b) b 284 4 (wq_Ab b 284) (MQ below (wq_Qc D (wq_EC Ar b) b 284 (some (.int (wq_I r0))) S0) args s 0 0 (wq_Ab b 284)) 0 0 95 [none, some (.int (wq_I u1)), none, none] [] S) {rec : Int → Int → wq_St → Option (Int × wq_St)} (hrec : ∀ (y1 : Int) (y2 : Int) (S : wq_St), rec y1 y2 S = some (r0, S0) → wq_Z p l e (wq_rm 1 0 0) s m args below meth c D (wq_EC Ar b) b 284 4 (wq_Ab b 284) (MQ below (wq_Qc D (wq_EC Ar b) b 284 (some (.int (wq_I r0))) S0) args s 0 0 (wq_Ab b 284)) 0 0 4 [some (.ref (b + 282)), some (.int (wq_I y1)), some (.int (wq_I y2)), none] [] S) (y1 : Int) (y2 : Int) (S : wq_St) (h : b_X2_lineUpDueReports_4 kx rec y1 y2 S = some (r0, S0)) : wq_Z p l e (wq_rm 1 0 0) s m args below meth c D (wq_EC Ar b) b 284 4 (wq_Ab b 284) (MQ below (wq_Qc D (wq_EC Ar b) b 284 (some (.int (wq_I r0))) S0) args s 0 0 (wq_Ab b 284)) 0 0 4 [some (.ref (b + 282)), some (.int (wq_I y1)), some (.int (wq_I y2)), none] [] S := by
  unfold b_X2_lineUpDueReports_4 at h
  refine wq_iload_n F dX2_lineUpDueReports_4 rfl rfl rfl ?_
  refine wq_bipush (n := 8) F dX2_lineUpDueReports_5 (by decide) rfl ?_
  refine wq_icmp_ge (tgt := 95) F dX2_lineUpDueReports_7 (by decide) rfl (fun hc => ?_) (fun hc => ?_)
  · replace h := wq_ift hc h
    exact wq_lsub [none, some (.int (wq_I y1)), none, none] (by simp [wq_sub]) (hkx y1 S h)
  · replace h := wq_iff hc h
    refine wq_aload_n F dX2_lineUpDueReports_10 rfl rfl rfl ?_
    refine wq_g_X2_23 F dX2_lineUpDueReports_11 rfl ?_
    refine wq_iload_n F dX2_lineUpDueReports_14 rfl rfl rfl ?_
    obtain ⟨t1, ht1, wt1, h⟩ := wq_ix_some h
    refine wq_aald F (Nat.le_of_ble_eq_true rfl) wq_E_reps rfl rfl ht1 wt1 dX2_lineUpDueReports_15 rfl ?_
    refine wq_g_X2_45 F (wq_rep_i ht1) dX2_lineUpDueReports_16 rfl ?_
    refine wq_if_ne (tgt := 25) F dX2_lineUpDueReports_19 (by decide) rfl (fun hc => ?_) (fun hc => ?_)
    · replace h := wq_iff hc h
      refine wq_iload_n F dX2_lineUpDueReports_25 rfl rfl rfl ?_
      refine wq_istore_n (L' := [some (.ref (b + 282)), some (.int (wq_I y1)), some (.int (wq_I y2)), some (.int (wq_I y1))]) F dX2_lineUpDueReports_26 rfl (by decide) rfl rfl rfl ?_
      refine wq_lsub [some (.ref (b + 282)), some (.int (wq_I y1)), some (.int (wq_I y2)), some (.int (wq_I y1))] (by simp [wq_sub]) (tl_X2_lineUpDueReports_27 F (fun u8 S9 h => ?_) wq_fu y1 S h)
      refine wq_aload_n F dX2_lineUpDueReports_79 rfl rfl rfl ?_
      refine wq_g_X2_9 F dX2_lineUpDueReports_80 rfl ?_
      refine wq_iload_n F dX2_lineUpDueReports_83 rfl rfl rfl ?_
      refine wq_iload_n F dX2_lineUpDueReports_84 rfl rfl rfl ?_
      obtain ⟨t10, ht10, wt10, h⟩ := wq_ix_some h
      refine wq_iast F (Nat.le_of_ble_eq_true rfl) wq_E_line wq_E_line ht10 wt10 ⟨Nat.le_add_right _ _, Nat.add_lt_add_left (Nat.le_of_ble_eq_true rfl) b⟩ dX2_lineUpDueReports_85 rfl ?_
      obtain ⟨S11, eS11, h⟩ := wq_lt_some h
      refine wq_namS eS11 ?_
      refine wq_iinc (L' := [some (.ref (b + 282)), some (.int (wq_I (y1 + 1))), some (.int (wq_I y2)), some (.int (wq_I u8))]) F dX2_lineUpDueReports_86 rfl (by decide) rfl rfl rfl ?_
      refine wq_iinc (L' := [some (.ref (b + 282)), some (.int (wq_I (y1 + 1))), some (.int (wq_I (y2 + 1))), some (.int (wq_I u8))]) F dX2_lineUpDueReports_89 rfl (by decide) rfl rfl rfl ?_
      refine wq_goto (tgt := 4) F dX2_lineUpDueReports_92 (by decide) ?_
      exact wq_lsub [some (.ref (b + 282)), some (.int (wq_I (y1 + 1))), some (.int (wq_I (y2 + 1))), none] (by simp [wq_sub]) (hrec (y1 + 1) (y2 + 1) S11 h)
    · replace h := wq_ift hc h
      refine wq_goto (tgt := 89) F dX2_lineUpDueReports_22 (by decide) ?_
      refine wq_iinc (L' := [some (.ref (b + 282)), some (.int (wq_I y1)), some (.int (wq_I (y2 + 1))), none]) F dX2_lineUpDueReports_89 rfl (by decide) rfl rfl rfl ?_
      refine wq_goto (tgt := 4) F dX2_lineUpDueReports_92 (by decide) ?_
      exact wq_lsub [some (.ref (b + 282)), some (.int (wq_I y1)), some (.int (wq_I (y2 + 1))), none] (by simp [wq_sub]) (hrec y1 (y2 + 1) S h)
set_option maxHeartbeats 4000000 in
set_option maxRecDepth 100000 in
theorem tl_X2_lineUpDueReports_4 {p : Program} {l : Launch} {e : Env} {s : State} {m : MethodId} {args : Array Value} {below : List Frame} {meth : Method} {c : Code} {D : va_G} {Ar : Nat → ClassId} {b : Nat} (F : wq_Fr p s m args meth c cX2_lineUpDueReports 4 ((Option.some Jvm.ClassFile.FieldType.int)) "WharfQuery$Crew" D Ar) {r0 : Int} {S0 : wq_St} {kx : Int → wq_St → Option (Int × wq_St)} (hkx : ∀ (u1 : Int) (S : wq_St), kx u1 S = some (r0, S0) → wq_Z p l e (wq_rm 1 0 0) s m args below meth c D (wq_EC Ar b) b 284 4 (wq_Ab b 284) (MQ below (wq_Qc D (wq_EC Ar b) b 284 (some (.int (wq_I r0))) S0) args s 0 0 (wq_Ab b 284)) 0 0 95 [none, some (.int (wq_I u1)), none, none] [] S) (n : Nat) (y1 : Int) (y2 : Int) (S : wq_St) (h : l_X2_lineUpDueReports_4 kx n y1 y2 S = some (r0, S0)) : wq_Z p l e (wq_rm 1 0 0) s m args below meth c D (wq_EC Ar b) b 284 4 (wq_Ab b 284) (MQ below (wq_Qc D (wq_EC Ar b) b 284 (some (.int (wq_I r0))) S0) args s 0 0 (wq_Ab b 284)) 0 0 4 [some (.ref (b + 282)), some (.int (wq_I y1)), some (.int (wq_I y2)), none] [] S :=
  wq_loop_ind (f := fun (g : Int × Int × wq_St → Option (Int × wq_St)) (x : Int × Int × wq_St) => b_X2_lineUpDueReports_4 kx (fun y1 y2 S => g (y1, y2, S)) x.1 x.2.1 x.2.2) (P := (fun x : Int × Int × wq_St => wq_Z p l e (wq_rm 1 0 0) s m args below meth c D (wq_EC Ar b) b 284 4 (wq_Ab b 284) (MQ below (wq_Qc D (wq_EC Ar b) b 284 (some (.int (wq_I r0))) S0) args s 0 0 (wq_Ab b 284)) 0 0 4 [some (.ref (b + 282)), some (.int (wq_I (x.1))), some (.int (wq_I (x.2.1))), none] [] x.2.2)) (fun g hg x hx => tb_X2_lineUpDueReports_4 F hkx (fun y1 y2 S h => hg (y1, y2, S) h) x.1 x.2.1 x.2.2 hx) n (y1, y2, S) h
set_option maxHeartbeats 4000000 in
set_option maxRecDepth 100000 in
theorem ct_X2_lineUpDueReports {l : Launch} {D : va_G} {Ar : Nat → ClassId} {b : Nat} {S S0 : wq_St} {r0 : Int} (h : f_X2_lineUpDueReports S = some (r0, S0)) : wq_Ct l yX2_lineUpDueReports (.code yX2_lineUpDueReports cX2_lineUpDueReports 4 ((Option.some Jvm.ClassFile.FieldType.int))) 1 D Ar (wq_EC Ar b) b 284 [.ref (b + 282)] S (some (.int (wq_I r0))) S0 := by
  refine wq_start "WharfQuery$Crew" [some (.ref (b + 282)), none, none, none] (by decide +kernel) rfl (Nat.le_of_ble_eq_true rfl) rfl ?_
  intro p e s m args below meth c F
  unfold f_X2_lineUpDueReports at h
  refine wq_iconst (n := 0) F dX2_lineUpDueReports_0 rfl ?_
  refine wq_istore_n (L' := [some (.ref (b + 282)), some (.int (wq_I 0)), none, none]) F dX2_lineUpDueReports_1 rfl (by decide) rfl rfl rfl ?_
  refine wq_iconst (n := 0) F dX2_lineUpDueReports_2 rfl ?_
  refine wq_istore_n (L' := [some (.ref (b + 282)), some (.int (wq_I 0)), some (.int (wq_I 0)), none]) F dX2_lineUpDueReports_3 rfl (by decide) rfl rfl rfl ?_
  refine wq_lsub [some (.ref (b + 282)), some (.int (wq_I 0)), some (.int (wq_I 0)), none] (by simp [wq_sub]) (tl_X2_lineUpDueReports_4 F (fun u12 S13 h => ?_) wq_fu 0 0 S h)
  refine wq_iload_n F dX2_lineUpDueReports_95 rfl rfl rfl ?_
  cases h
  exact wq_iret F rfl rfl dX2_lineUpDueReports_96
set_option maxHeartbeats 4000000 in
set_option maxRecDepth 100000 in
theorem tb_X2_markTables_2 {p : Program} {l : Launch} {e : Env} {s : State} {m : MethodId} {args : Array Value} {below : List Frame} {meth : Method} {c : Code} {D : va_G} {Ar : Nat → ClassId} {b : Nat} (F : wq_Fr p s m args meth c cX2_markTables 3 ((Option.none : Option Jvm.ClassFile.FieldType)) "WharfQuery$Crew" D Ar) {r0 : Int} {S0 : wq_St} {q1 : Nat} (hq1 : wq_rep q1) {kx : wq_St → Option (Int × wq_St)} (hkx : ∀ (S : wq_St), kx S = some (r0, S0) → wq_Z p l e (wq_rm 1 0 0) s m args below meth c D (wq_EC Ar b) b 284 3 (wq_Ab b 284) (MQ below (wq_Qc D (wq_EC Ar b) b 284 none S0) args s 0 0 (wq_Ab b 284)) 0 0 31 [none, none, none] [] S) {rec : Int → wq_St → Option (Int × wq_St)} (hrec : ∀ (y2 : Int) (S : wq_St), rec y2 S = some (r0, S0) → wq_Z p l e (wq_rm 1 0 0) s m args below meth c D (wq_EC Ar b) b 284 3 (wq_Ab b 284) (MQ below (wq_Qc D (wq_EC Ar b) b 284 none S0) args s 0 0 (wq_Ab b 284)) 0 0 2 [some (.ref (b + 282)), some (.ref (b + q1)), some (.int (wq_I y2))] [] S) (y2 : Int) (S : wq_St) (h : b_X2_markTables_2 q1 kx rec y2 S = some (r0, S0)) : wq_Z p l e (wq_rm 1 0 0) s m args below meth c D (wq_EC Ar b) b 284 3 (wq_Ab b 284) (MQ below (wq_Qc D (wq_EC Ar b) b 284 none S0) args s 0 0 (wq_Ab b 284)) 0 0 2 [some (.ref (b + 282)), some (.ref (b + q1)), some (.int (wq_I y2))] [] S := by
  unfold b_X2_markTables_2 at h
  refine wq_iload_n F dX2_markTables_2 rfl rfl rfl ?_
  refine wq_aload_n F dX2_markTables_3 rfl rfl rfl ?_
  refine wq_g_X2_115 F hq1 dX2_markTables_4 rfl ?_
  refine wq_icmp_ge (tgt := 31) F dX2_markTables_7 (by decide) rfl (fun hc => ?_) (fun hc => ?_)
  · replace h := wq_ift hc h
    exact wq_lsub [none, none, none] (by simp [wq_sub]) (hkx S h)
  · replace h := wq_iff hc h
    refine wq_aload_n F dX2_markTables_10 rfl rfl rfl ?_
    refine wq_g_X2_19 F dX2_markTables_11 rfl ?_
    refine wq_aload_n F dX2_markTables_14 rfl rfl rfl ?_
    refine wq_g_X2_118 F hq1 dX2_markTables_15 rfl ?_
    refine wq_iload_n F dX2_markTables_18 rfl rfl rfl ?_
    obtain ⟨t1, ht1, wt1, h⟩ := wq_ix_some h
    refine wq_iald F (wq_rep_lt1 hq1) (wq_E_srcs hq1) ht1 wt1 dX2_markTables_19 rfl ?_
    obtain ⟨t2, ht2, wt2, h⟩ := wq_ix_some h
    refine wq_aald F (Nat.le_of_ble_eq_true rfl) wq_E_tabs rfl rfl ht2 wt2 dX2_markTables_20 rfl ?_
    refine wq_iconst (n := 1) F dX2_markTables_21 rfl ?_
    refine wq_p_X2_35 F (wq_tab_i ht2) (by decide) (fun _ h9 => h9) dX2_markTables_22 rfl ?_
    obtain ⟨S3, eS3, h⟩ := wq_lt_some h
    refine wq_namS eS3 ?_
    refine wq_iinc (L' := [some (.ref (b + 282)), some (.ref (b + q1)), some (.int (wq_I (y2 + 1)))]) F dX2_markTables_25 rfl (by decide) rfl rfl rfl ?_
    refine wq_goto (tgt := 2) F dX2_markTables_28 (by decide) ?_
    exact wq_lsub [some (.ref (b + 282)), some (.ref (b + q1)), some (.int (wq_I (y2 + 1)))] (by simp [wq_sub]) (hrec (y2 + 1) S3 h)
set_option maxHeartbeats 4000000 in
set_option maxRecDepth 100000 in
theorem tl_X2_markTables_2 {p : Program} {l : Launch} {e : Env} {s : State} {m : MethodId} {args : Array Value} {below : List Frame} {meth : Method} {c : Code} {D : va_G} {Ar : Nat → ClassId} {b : Nat} (F : wq_Fr p s m args meth c cX2_markTables 3 ((Option.none : Option Jvm.ClassFile.FieldType)) "WharfQuery$Crew" D Ar) {r0 : Int} {S0 : wq_St} {q1 : Nat} (hq1 : wq_rep q1) {kx : wq_St → Option (Int × wq_St)} (hkx : ∀ (S : wq_St), kx S = some (r0, S0) → wq_Z p l e (wq_rm 1 0 0) s m args below meth c D (wq_EC Ar b) b 284 3 (wq_Ab b 284) (MQ below (wq_Qc D (wq_EC Ar b) b 284 none S0) args s 0 0 (wq_Ab b 284)) 0 0 31 [none, none, none] [] S) (n : Nat) (y2 : Int) (S : wq_St) (h : l_X2_markTables_2 q1 kx n y2 S = some (r0, S0)) : wq_Z p l e (wq_rm 1 0 0) s m args below meth c D (wq_EC Ar b) b 284 3 (wq_Ab b 284) (MQ below (wq_Qc D (wq_EC Ar b) b 284 none S0) args s 0 0 (wq_Ab b 284)) 0 0 2 [some (.ref (b + 282)), some (.ref (b + q1)), some (.int (wq_I y2))] [] S :=
  wq_loop_ind (f := fun (g : Int × wq_St → Option (Int × wq_St)) (x : Int × wq_St) => b_X2_markTables_2 q1 kx (fun y2 S => g (y2, S)) x.1 x.2) (P := (fun x : Int × wq_St => wq_Z p l e (wq_rm 1 0 0) s m args below meth c D (wq_EC Ar b) b 284 3 (wq_Ab b 284) (MQ below (wq_Qc D (wq_EC Ar b) b 284 none S0) args s 0 0 (wq_Ab b 284)) 0 0 2 [some (.ref (b + 282)), some (.ref (b + q1)), some (.int (wq_I (x.1)))] [] x.2)) (fun g hg x hx => tb_X2_markTables_2 F hq1 hkx (fun y2 S h => hg (y2, S) h) x.1 x.2 hx) n (y2, S) h
set_option maxHeartbeats 4000000 in
set_option maxRecDepth 100000 in
theorem ct_X2_markTables {l : Launch} {D : va_G} {Ar : Nat → ClassId} {b : Nat} {k1 : Nat} {S S0 : wq_St} {r0 : Int} (hk1 : wq_rep k1) (h : f_X2_markTables k1 S = some (r0, S0)) : wq_Ct l yX2_markTables (.code yX2_markTables cX2_markTables 3 ((Option.none : Option Jvm.ClassFile.FieldType))) 1 D Ar (wq_EC Ar b) b 284 [.ref (b + 282), .ref (b + k1)] S none S0 := by
  refine wq_start "WharfQuery$Crew" [some (.ref (b + 282)), some (.ref (b + k1)), none] (by decide +kernel) rfl (Nat.le_of_ble_eq_true rfl) rfl ?_
  intro p e s m args below meth c F
  unfold f_X2_markTables at h
  refine wq_iconst (n := 0) F dX2_markTables_0 rfl ?_
  refine wq_istore_n (L' := [some (.ref (b + 282)), some (.ref (b + k1)), some (.int (wq_I 0))]) F dX2_markTables_1 rfl (by decide) rfl rfl rfl ?_
  refine wq_lsub [some (.ref (b + 282)), some (.ref (b + k1)), some (.int (wq_I 0))] (by simp [wq_sub]) (tl_X2_markTables_2 F hk1 (fun S4 h => ?_) wq_fu 0 S h)
  cases h
  exact wq_vret F rfl rfl dX2_markTables_31
set_option maxHeartbeats 4000000 in
set_option maxRecDepth 100000 in
theorem ct_X2_keep {l : Launch} {D : va_G} {Ar : Nat → ClassId} {b : Nat} {k1 : Nat} {x2 : Int} {S S0 : wq_St} {r0 : Int} (hk1 : wq_rep k1) (h : f_X2_keep k1 x2 S = some (r0, S0)) : wq_Ct l yX2_keep (.code yX2_keep cX2_keep 3 ((Option.none : Option Jvm.ClassFile.FieldType))) 2 D Ar (wq_EC Ar b) b 284 [.ref (b + 282), .ref (b + k1), .int (wq_I x2)] S none S0 := by
  refine wq_start "WharfQuery$Crew" [some (.ref (b + 282)), some (.ref (b + k1)), some (.int (wq_I x2))] (by decide +kernel) rfl (Nat.le_of_ble_eq_true rfl) rfl ?_
  intro p e s m args below meth c F
  unfold f_X2_keep at h
  refine wq_aload_n F dX2_keep_0 rfl rfl rfl ?_
  refine wq_dup1 F rfl dX2_keep_1 rfl ?_
  refine wq_g_X2_65 F dX2_keep_2 rfl ?_
  refine wq_aload_n F dX2_keep_5 rfl rfl rfl ?_
  refine wq_g_X2_31 F dX2_keep_6 rfl ?_
  refine wq_g_X2_80 F dX2_keep_9 rfl ?_
  refine wq_isub F dX2_keep_12 rfl ?_
  refine wq_p_X2_65 F (fun _ h9 => h9) dX2_keep_13 rfl ?_
  obtain ⟨S1, eS1, h⟩ := wq_lt_some h
  refine wq_namS eS1 ?_
  refine wq_aload_n F dX2_keep_16 rfl rfl rfl ?_
  refine wq_aload_n F dX2_keep_17 rfl rfl rfl ?_
  refine wq_g_X2_31 F dX2_keep_18 rfl ?_
  refine wq_g_X2_100 F dX2_keep_21 rfl ?_
  refine wq_p_X2_103 F hk1 (fun _ h9 => h9) dX2_keep_24 rfl ?_
  obtain ⟨S2, eS2, h⟩ := wq_lt_some h
  refine wq_namS eS2 ?_
  refine wq_aload_n F dX2_keep_27 rfl rfl rfl ?_
  refine wq_aload_n F dX2_keep_28 rfl rfl rfl ?_
  refine wq_g_X2_31 F dX2_keep_29 rfl ?_
  refine wq_g_X2_106 F dX2_keep_32 rfl ?_
  refine wq_p_X2_109 F hk1 (fun _ h9 => h9) dX2_keep_35 rfl ?_
  obtain ⟨S3, eS3, h⟩ := wq_lt_some h
  refine wq_namS eS3 ?_
  refine wq_aload_n F dX2_keep_38 rfl rfl rfl ?_
  refine wq_aload_n F dX2_keep_39 rfl rfl rfl ?_
  refine wq_g_X2_97 F dX2_keep_40 rfl ?_
  refine wq_p_X2_112 F hk1 (fun _ h9 => h9) dX2_keep_43 rfl ?_
  obtain ⟨S4, eS4, h⟩ := wq_lt_some h
  refine wq_namS eS4 ?_
  refine wq_aload_n F dX2_keep_46 rfl rfl rfl ?_
  refine wq_iconst (n := 0) F dX2_keep_47 rfl ?_
  refine wq_p_X2_45 F hk1 (by decide) (fun _ h9 => h9) dX2_keep_48 rfl ?_
  obtain ⟨S5, eS5, h⟩ := wq_lt_some h
  refine wq_namS eS5 ?_
  refine wq_aload_n F dX2_keep_51 rfl rfl rfl ?_
  refine wq_g_X2_31 F dX2_keep_52 rfl ?_
  refine wq_g_X2_80 F dX2_keep_55 rfl ?_
  refine wq_iconst (n := 2) F dX2_keep_58 rfl ?_
  refine wq_iload_n F dX2_keep_59 rfl rfl rfl ?_
  refine wq_imul F dX2_keep_60 rfl ?_
  refine wq_icmp_gt (tgt := 77) F dX2_keep_61 (by decide) rfl (fun hc => ?_) (fun hc => ?_)
  · replace h := wq_ift hc h
    refine wq_aload_n F dX2_keep_77 rfl rfl rfl ?_
    refine wq_aload_n F dX2_keep_78 rfl rfl rfl ?_
    obtain ⟨r6, S7, h1r6, h⟩ := wq_bd_some h
    refine wq_callV (As := [.ref (b + k1)]) F lk_X2_93 (ct_X2_markTables hk1 h1r6) ⟨Nat.le_of_ble_eq_true rfl, Nat.le_of_ble_eq_true rfl⟩ ⟨Nat.le_of_ble_eq_true rfl, Nat.le_of_ble_eq_true rfl⟩ (Nat.le_of_ble_eq_true rfl) rfl rfl (fun _ h9 => h9) rfl rfl (Nat.le_of_ble_eq_true rfl) dX2_keep_79 rfl ?_
    cases h
    exact wq_vret F rfl rfl dX2_keep_82
  · replace h := wq_iff hc h
    refine wq_iload_n F dX2_keep_64 rfl rfl rfl ?_
    refine wq_iconst (n := 2) F dX2_keep_65 rfl ?_
    refine wq_aload_n F dX2_keep_66 rfl rfl rfl ?_
    refine wq_g_X2_31 F dX2_keep_67 rfl ?_
    refine wq_g_X2_80 F dX2_keep_70 rfl ?_
    refine wq_imul F dX2_keep_73 rfl ?_
    refine wq_icmp_le (tgt := 82) F dX2_keep_74 (by decide) rfl (fun hc => ?_) (fun hc => ?_)
    · replace h := wq_ift hc h
      cases h
      exact wq_vret F rfl rfl dX2_keep_82
    · replace h := wq_iff hc h
      refine wq_aload_n F dX2_keep_77 rfl rfl rfl ?_
      refine wq_aload_n F dX2_keep_78 rfl rfl rfl ?_
      obtain ⟨r8, S9, h1r8, h⟩ := wq_bd_some h
      refine wq_callV (As := [.ref (b + k1)]) F lk_X2_93 (ct_X2_markTables hk1 h1r8) ⟨Nat.le_of_ble_eq_true rfl, Nat.le_of_ble_eq_true rfl⟩ ⟨Nat.le_of_ble_eq_true rfl, Nat.le_of_ble_eq_true rfl⟩ (Nat.le_of_ble_eq_true rfl) rfl rfl (fun _ h9 => h9) rfl rfl (Nat.le_of_ble_eq_true rfl) dX2_keep_79 rfl ?_
      cases h
      exact wq_vret F rfl rfl dX2_keep_82
set_option maxHeartbeats 4000000 in
set_option maxRecDepth 100000 in
theorem tb_X2_runDueReports_7 {p : Program} {l : Launch} {e : Env} {s : State} {m : MethodId} {args : Array Value} {below : List Frame} {meth : Method} {c : Code} {D : va_G} {Ar : Nat → ClassId} {b : Nat} (F : wq_Fr p s m args meth c cX2_runDueReports 5 ((Option.some Jvm.ClassFile.FieldType.int)) "WharfQuery$Crew" D Ar) {r0 : Int} {S0 : wq_St} {c1 : Int} {kx : Int → wq_St → Option (Int × wq_St)} (hkx : ∀ (u2 : Int) (S : wq_St), kx u2 S = some (r0, S0) → wq_Z p l e (wq_rm 13 0 0) s m args below meth c D (wq_EC Ar b) b 284 5 (wq_Ab b 284) (MQ below (wq_Qc D (wq_EC Ar b) b 284 (some (.int (wq_I r0))) S0) args s 0 0 (wq_Ab b 284)) 0 0 77 [some (.ref (b + 282)), some (.int (wq_I c1)), some (.int (wq_I u2)), none, none] [] S) {rec : Int → wq_St → Option (Int × wq_St)} (hrec : ∀ (y2 : Int) (S : wq_St), rec y2 S = some (r0, S0) → wq_Z p l e (wq_rm 13 0 0) s m args below meth c D (wq_EC Ar b) b 284 5 (wq_Ab b 284) (MQ below (wq_Qc D (wq_EC Ar b) b 284 (some (.int (wq_I r0))) S0) args s 0 0 (wq_Ab b 284)) 0 0 7 [some (.ref (b + 282)), some (.int (wq_I c1)), some (.int (wq_I y2)), none, none] [] S) (y2 : Int) (S : wq_St) (h : b_X2_runDueReports_7 c1 kx rec y2 S = some (r0, S0)) : wq_Z p l e (wq_rm 13 0 0) s m args below meth c D (wq_EC Ar b) b 284 5 (wq_Ab b 284) (MQ below (wq_Qc D (wq_EC Ar b) b 284 (some (.int (wq_I r0))) S0) args s 0 0 (wq_Ab b 284)) 0 0 7 [some (.ref (b + 282)), some (.int (wq_I c1)), some (.int (wq_I y2)), none, none] [] S := by
  unfold b_X2_runDueReports_7 at h
  refine wq_iload_n F dX2_runDueReports_7 rfl rfl rfl ?_
  refine wq_iload_n F dX2_runDueReports_8 rfl rfl rfl ?_
  refine wq_icmp_ge (tgt := 77) F dX2_runDueReports_9 (by decide) rfl (fun hc => ?_) (fun hc => ?_)
  · replace h := wq_ift hc h
    exact wq_lsub [some (.ref (b + 282)), some (.int (wq_I c1)), some (.int (wq_I y2)), none, none] (by simp [wq_sub]) (hkx y2 S h)
  · replace h := wq_iff hc h
    refine wq_aload_n F dX2_runDueReports_12 rfl rfl rfl ?_
    refine wq_g_X2_23 F dX2_runDueReports_13 rfl ?_
    refine wq_aload_n F dX2_runDueReports_16 rfl rfl rfl ?_
    refine wq_g_X2_9 F dX2_runDueReports_17 rfl ?_
    refine wq_iload_n F dX2_runDueReports_20 rfl rfl rfl ?_
    obtain ⟨t3, ht3, wt3, h⟩ := wq_ix_some h
    refine wq_iald F (Nat.le_of_ble_eq_true rfl) wq_E_line ht3 wt3 dX2_runDueReports_21 rfl ?_
    obtain ⟨t4, ht4, wt4, h⟩ := wq_ix_some h
    refine wq_aald F (Nat.le_of_ble_eq_true rfl) wq_E_reps rfl rfl ht4 wt4 dX2_runDueReports_22 rfl ?_
    refine wq_astore_n (L' := [some (.ref (b + 282)), some (.int (wq_I c1)), some (.int (wq_I y2)), some (.ref (b + (199 + 9 * t4))), none]) F dX2_runDueReports_23 rfl (by decide) rfl rfl rfl ?_
    refine wq_aload_n F dX2_runDueReports_24 rfl rfl rfl ?_
    refine wq_g_X2_27 F dX2_runDueReports_25 rfl ?_
    refine wq_aload_n F dX2_runDueReports_28 rfl rfl rfl ?_
    obtain ⟨r5, S6, h1r5, h⟩ := wq_bd_some h
    refine wq_callV (As := [.ref (b + (199 + 9 * t4))]) F lk_X2_50 (ct_X4_choose (wq_rep_i ht4) h1r5) ⟨Nat.le_of_ble_eq_true rfl, Nat.le_of_ble_eq_true rfl⟩ ⟨Nat.le_of_ble_eq_true rfl, Nat.le_of_ble_eq_true rfl⟩ (Nat.le_of_ble_eq_true rfl) rfl rfl (fun _ h9 => h9) rfl rfl (Nat.le_of_ble_eq_true rfl) dX2_runDueReports_29 rfl ?_
    refine wq_astore (L' := [some (.ref (b + 282)), some (.int (wq_I c1)), some (.int (wq_I y2)), some (.ref (b + (199 + 9 * t4))), some (.ref (b + r5))]) F dX2_runDueReports_32 (by decide) rfl rfl rfl ?_
    refine wq_aload_n F dX2_runDueReports_34 rfl rfl rfl ?_
    refine wq_g_X2_31 F dX2_runDueReports_35 rfl ?_
    refine wq_aload_n F dX2_runDueReports_38 rfl rfl rfl ?_
    refine wq_aload F dX2_runDueReports_39 rfl rfl ?_
    obtain ⟨r7, S8, h1r7, h⟩ := wq_bd_some h
    refine wq_callV (As := [.ref (b + (199 + 9 * t4)), .ref (b + r5)]) F lk_X2_74 (ct_X6_goThrough (wq_rep_i ht4) (pd_X4_choose (wq_rep_i ht4) h1r5) h1r7) ⟨Nat.le_of_ble_eq_true rfl, Nat.le_of_ble_eq_true rfl⟩ ⟨Nat.le_of_ble_eq_true rfl, Nat.le_of_ble_eq_true rfl⟩ (Nat.le_of_ble_eq_true rfl) rfl rfl (fun _ h9 => h9) rfl rfl (Nat.le_of_ble_eq_true rfl) dX2_runDueReports_41 rfl ?_
    refine wq_aload_n F dX2_runDueReports_44 rfl rfl rfl ?_
    refine wq_g_X2_31 F dX2_runDueReports_45 rfl ?_
    refine wq_g_X2_80 F dX2_runDueReports_48 rfl ?_
    refine wq_aload_n F dX2_runDueReports_51 rfl rfl rfl ?_
    refine wq_g_X2_65 F dX2_runDueReports_52 rfl ?_
    refine wq_icmp_le (tgt := 61) F dX2_runDueReports_55 (by decide) rfl (fun hc => ?_) (fun hc => ?_)
    · replace h := wq_ift hc h
      refine wq_aload_n F dX2_runDueReports_61 rfl rfl rfl ?_
      refine wq_aload_n F dX2_runDueReports_62 rfl rfl rfl ?_
      refine wq_aload F dX2_runDueReports_63 rfl rfl ?_
      obtain ⟨r9, S10, h1r9, h⟩ := wq_bd_some h
      refine wq_callV (As := []) F lk_X2_56 (ct_X3_foretoldMinutes (pd_X4_choose (wq_rep_i ht4) h1r5) h1r9) ⟨Nat.le_of_ble_eq_true rfl, Nat.le_of_ble_eq_true rfl⟩ ⟨Nat.le_of_ble_eq_true rfl, Nat.le_of_ble_eq_true rfl⟩ (wq_pln_lt (pd_X4_choose (wq_rep_i ht4) h1r5)) (wq_E_pln (pd_X4_choose (wq_rep_i ht4) h1r5)) rfl (fun _ h9 => h9) rfl rfl (Nat.le_of_ble_eq_true rfl) dX2_runDueReports_65 rfl ?_
      obtain ⟨r11, S12, h1r11, h⟩ := wq_bd_some h
      refine wq_callV (As := [.ref (b + (199 + 9 * t4)), .int (wq_I r9)]) F lk_X2_83 (ct_X2_keep (wq_rep_i ht4) h1r11) ⟨Nat.le_of_ble_eq_true rfl, Nat.le_of_ble_eq_true rfl⟩ ⟨Nat.le_of_ble_eq_true rfl, Nat.le_of_ble_eq_true rfl⟩ (Nat.le_of_ble_eq_true rfl) rfl rfl (fun _ h9 => h9) rfl rfl (Nat.le_of_ble_eq_true rfl) dX2_runDueReports_68 rfl ?_
      refine wq_iinc (L' := [some (.ref (b + 282)), some (.int (wq_I c1)), some (.int (wq_I (y2 + 1))), some (.ref (b + (199 + 9 * t4))), some (.ref (b + r5))]) F dX2_runDueReports_71 rfl (by decide) rfl rfl rfl ?_
      refine wq_goto (tgt := 7) F dX2_runDueReports_74 (by decide) ?_
      exact wq_lsub [some (.ref (b + 282)), some (.int (wq_I c1)), some (.int (wq_I (y2 + 1))), none, none] (by simp [wq_sub]) (hrec (y2 + 1) S12 h)
    · replace h := wq_iff hc h
      refine wq_goto (tgt := 77) F dX2_runDueReports_58 (by decide) ?_
      exact wq_lsub [some (.ref (b + 282)), some (.int (wq_I c1)), some (.int (wq_I y2)), none, none] (by simp [wq_sub]) (hkx y2 S8 h)
set_option maxHeartbeats 4000000 in
set_option maxRecDepth 100000 in
theorem tl_X2_runDueReports_7 {p : Program} {l : Launch} {e : Env} {s : State} {m : MethodId} {args : Array Value} {below : List Frame} {meth : Method} {c : Code} {D : va_G} {Ar : Nat → ClassId} {b : Nat} (F : wq_Fr p s m args meth c cX2_runDueReports 5 ((Option.some Jvm.ClassFile.FieldType.int)) "WharfQuery$Crew" D Ar) {r0 : Int} {S0 : wq_St} {c1 : Int} {kx : Int → wq_St → Option (Int × wq_St)} (hkx : ∀ (u2 : Int) (S : wq_St), kx u2 S = some (r0, S0) → wq_Z p l e (wq_rm 13 0 0) s m args below meth c D (wq_EC Ar b) b 284 5 (wq_Ab b 284) (MQ below (wq_Qc D (wq_EC Ar b) b 284 (some (.int (wq_I r0))) S0) args s 0 0 (wq_Ab b 284)) 0 0 77 [some (.ref (b + 282)), some (.int (wq_I c1)), some (.int (wq_I u2)), none, none] [] S) (n : Nat) (y2 : Int) (S : wq_St) (h : l_X2_runDueReports_7 c1 kx n y2 S = some (r0, S0)) : wq_Z p l e (wq_rm 13 0 0) s m args below meth c D (wq_EC Ar b) b 284 5 (wq_Ab b 284) (MQ below (wq_Qc D (wq_EC Ar b) b 284 (some (.int (wq_I r0))) S0) args s 0 0 (wq_Ab b 284)) 0 0 7 [some (.ref (b + 282)), some (.int (wq_I c1)), some (.int (wq_I y2)), none, none] [] S :=
  wq_loop_ind (f := fun (g : Int × wq_St → Option (Int × wq_St)) (x : Int × wq_St) => b_X2_runDueReports_7 c1 kx (fun y2 S => g (y2, S)) x.1 x.2) (P := (fun x : Int × wq_St => wq_Z p l e (wq_rm 13 0 0) s m args below meth c D (wq_EC Ar b) b 284 5 (wq_Ab b 284) (MQ below (wq_Qc D (wq_EC Ar b) b 284 (some (.int (wq_I r0))) S0) args s 0 0 (wq_Ab b 284)) 0 0 7 [some (.ref (b + 282)), some (.int (wq_I c1)), some (.int (wq_I (x.1))), none, none] [] x.2)) (fun g hg x hx => tb_X2_runDueReports_7 F hkx (fun y2 S h => hg (y2, S) h) x.1 x.2 hx) n (y2, S) h
set_option maxHeartbeats 4000000 in
set_option maxRecDepth 100000 in
theorem tb_X2_runDueReports_79 {p : Program} {l : Launch} {e : Env} {s : State} {m : MethodId} {args : Array Value} {below : List Frame} {meth : Method} {c : Code} {D : va_G} {Ar : Nat → ClassId} {b : Nat} (F : wq_Fr p s m args meth c cX2_runDueReports 5 ((Option.some Jvm.ClassFile.FieldType.int)) "WharfQuery$Crew" D Ar) {r0 : Int} {S0 : wq_St} {c1 : Int} {c2 : Int} {kx : wq_St → Option (Int × wq_St)} (hkx : ∀ (S : wq_St), kx S = some (r0, S0) → wq_Z p l e (wq_rm 13 0 0) s m args below meth c D (wq_EC Ar b) b 284 5 (wq_Ab b 284) (MQ below (wq_Qc D (wq_EC Ar b) b 284 (some (.int (wq_I r0))) S0) args s 0 0 (wq_Ab b 284)) 0 0 123 [some (.ref (b + 282)), none, some (.int (wq_I c2)), none, none] [] S) {rec : Int → wq_St → Option (Int × wq_St)} (hrec : ∀ (y3 : Int) (S : wq_St), rec y3 S = some (r0, S0) → wq_Z p l e (wq_rm 13 0 0) s m args below meth c D (wq_EC Ar b) b 284 5 (wq_Ab b 284) (MQ below (wq_Qc D (wq_EC Ar b) b 284 (some (.int (wq_I r0))) S0) args s 0 0 (wq_Ab b 284)) 0 0 79 [some (.ref (b + 282)), some (.int (wq_I c1)), some (.int (wq_I c2)), some (.int (wq_I y3)), none] [] S) (y3 : Int) (S : wq_St) (h : b_X2_runDueReports_79 c1 c2 kx rec y3 S = some (r0, S0)) : wq_Z p l e (wq_rm 13 0 0) s m args below meth c D (wq_EC Ar b) b 284 5 (wq_Ab b 284) (MQ below (wq_Qc D (wq_EC Ar b) b 284 (some (.int (wq_I r0))) S0) args s 0 0 (wq_Ab b 284)) 0 0 79 [some (.ref (b + 282)), some (.int (wq_I c1)), some (.int (wq_I c2)), some (.int (wq_I y3)), none] [] S := by
  unfold b_X2_runDueReports_79 at h
  refine wq_iload_n F dX2_runDueReports_79 rfl rfl rfl ?_
  refine wq_iload_n F dX2_runDueReports_80 rfl rfl rfl ?_
  refine wq_icmp_ge (tgt := 123) F dX2_runDueReports_81 (by decide) rfl (fun hc => ?_) (fun hc => ?_)
  · replace h := wq_ift hc h
    exact wq_lsub [some (.ref (b + 282)), none, some (.int (wq_I c2)), none, none] (by simp [wq_sub]) (hkx S h)
  · replace h := wq_iff hc h
    refine wq_aload_n F dX2_runDueReports_84 rfl rfl rfl ?_
    refine wq_g_X2_23 F dX2_runDueReports_85 rfl ?_
    refine wq_aload_n F dX2_runDueReports_88 rfl rfl rfl ?_
    refine wq_g_X2_9 F dX2_runDueReports_89 rfl ?_
    refine wq_iload_n F dX2_runDueReports_92 rfl rfl rfl ?_
    obtain ⟨t15, ht15, wt15, h⟩ := wq_ix_some h
    refine wq_iald F (Nat.le_of_ble_eq_true rfl) wq_E_line ht15 wt15 dX2_runDueReports_93 rfl ?_
    obtain ⟨t16, ht16, wt16, h⟩ := wq_ix_some h
    refine wq_aald F (Nat.le_of_ble_eq_true rfl) wq_E_reps rfl rfl ht16 wt16 dX2_runDueReports_94 rfl ?_
    refine wq_astore (L' := [some (.ref (b + 282)), some (.int (wq_I c1)), some (.int (wq_I c2)), some (.int (wq_I y3)), some (.ref (b + (199 + 9 * t16)))]) F dX2_runDueReports_95 (by decide) rfl rfl rfl ?_
    refine wq_aload_n F dX2_runDueReports_97 rfl rfl rfl ?_
    refine wq_dup1 F rfl dX2_runDueReports_98 rfl ?_
    refine wq_g_X2_87 F dX2_runDueReports_99 rfl ?_
    refine wq_aload F dX2_runDueReports_102 rfl rfl ?_
    refine wq_g_X2_90 F (wq_rep_i ht16) dX2_runDueReports_104 rfl ?_
    refine wq_iadd F dX2_runDueReports_107 rfl ?_
    refine wq_p_X2_87 F (fun _ h9 => h9) dX2_runDueReports_108 rfl ?_
    obtain ⟨S17, eS17, h⟩ := wq_lt_some h
    refine wq_namS eS17 ?_
    refine wq_aload_n F dX2_runDueReports_111 rfl rfl rfl ?_
    refine wq_aload F dX2_runDueReports_112 rfl rfl ?_
    obtain ⟨r18, S19, h1r18, h⟩ := wq_bd_some h
    refine wq_callV (As := [.ref (b + (199 + 9 * t16))]) F lk_X2_93 (ct_X2_markTables (wq_rep_i ht16) h1r18) ⟨Nat.le_of_ble_eq_true rfl, Nat.le_of_ble_eq_true rfl⟩ ⟨Nat.le_of_ble_eq_true rfl, Nat.le_of_ble_eq_true rfl⟩ (Nat.le_of_ble_eq_true rfl) rfl rfl (fun _ h9 => h9) rfl rfl (Nat.le_of_ble_eq_true rfl) dX2_runDueReports_114 rfl ?_
    refine wq_iinc (L' := [some (.ref (b + 282)), some (.int (wq_I c1)), some (.int (wq_I c2)), some (.int (wq_I (y3 + 1))), some (.ref (b + (199 + 9 * t16)))]) F dX2_runDueReports_117 rfl (by decide) rfl rfl rfl ?_
    refine wq_goto (tgt := 79) F dX2_runDueReports_120 (by decide) ?_
    exact wq_lsub [some (.ref (b + 282)), some (.int (wq_I c1)), some (.int (wq_I c2)), some (.int (wq_I (y3 + 1))), none] (by simp [wq_sub]) (hrec (y3 + 1) S19 h)
set_option maxHeartbeats 4000000 in
set_option maxRecDepth 100000 in
theorem tl_X2_runDueReports_79 {p : Program} {l : Launch} {e : Env} {s : State} {m : MethodId} {args : Array Value} {below : List Frame} {meth : Method} {c : Code} {D : va_G} {Ar : Nat → ClassId} {b : Nat} (F : wq_Fr p s m args meth c cX2_runDueReports 5 ((Option.some Jvm.ClassFile.FieldType.int)) "WharfQuery$Crew" D Ar) {r0 : Int} {S0 : wq_St} {c1 : Int} {c2 : Int} {kx : wq_St → Option (Int × wq_St)} (hkx : ∀ (S : wq_St), kx S = some (r0, S0) → wq_Z p l e (wq_rm 13 0 0) s m args below meth c D (wq_EC Ar b) b 284 5 (wq_Ab b 284) (MQ below (wq_Qc D (wq_EC Ar b) b 284 (some (.int (wq_I r0))) S0) args s 0 0 (wq_Ab b 284)) 0 0 123 [some (.ref (b + 282)), none, some (.int (wq_I c2)), none, none] [] S) (n : Nat) (y3 : Int) (S : wq_St) (h : l_X2_runDueReports_79 c1 c2 kx n y3 S = some (r0, S0)) : wq_Z p l e (wq_rm 13 0 0) s m args below meth c D (wq_EC Ar b) b 284 5 (wq_Ab b 284) (MQ below (wq_Qc D (wq_EC Ar b) b 284 (some (.int (wq_I r0))) S0) args s 0 0 (wq_Ab b 284)) 0 0 79 [some (.ref (b + 282)), some (.int (wq_I c1)), some (.int (wq_I c2)), some (.int (wq_I y3)), none] [] S :=
  wq_loop_ind (f := fun (g : Int × wq_St → Option (Int × wq_St)) (x : Int × wq_St) => b_X2_runDueReports_79 c1 c2 kx (fun y3 S => g (y3, S)) x.1 x.2) (P := (fun x : Int × wq_St => wq_Z p l e (wq_rm 13 0 0) s m args below meth c D (wq_EC Ar b) b 284 5 (wq_Ab b 284) (MQ below (wq_Qc D (wq_EC Ar b) b 284 (some (.int (wq_I r0))) S0) args s 0 0 (wq_Ab b 284)) 0 0 79 [some (.ref (b + 282)), some (.int (wq_I c1)), some (.int (wq_I c2)), some (.int (wq_I (x.1))), none] [] x.2)) (fun g hg x hx => tb_X2_runDueReports_79 F hkx (fun y3 S h => hg (y3, S) h) x.1 x.2 hx) n (y3, S) h
set_option maxHeartbeats 4000000 in
set_option maxRecDepth 100000 in
theorem tj_X2_runDueReports_77 {p : Program} {l : Launch} {e : Env} {s : State} {m : MethodId} {args : Array Value} {below : List Frame} {meth : Method} {c : Code} {D : va_G} {Ar : Nat → ClassId} {b : Nat} (F : wq_Fr p s m args meth c cX2_runDueReports 5 ((Option.some Jvm.ClassFile.FieldType.int)) "WharfQuery$Crew" D Ar) {r0 : Int} {S0 : wq_St} {j1 : Int} {j2 : Int} (S : wq_St) (h : j_X2_runDueReports_77 j1 j2 S = some (r0, S0)) : wq_Z p l e (wq_rm 13 0 0) s m args below meth c D (wq_EC Ar b) b 284 5 (wq_Ab b 284) (MQ below (wq_Qc D (wq_EC Ar b) b 284 (some (.int (wq_I r0))) S0) args s 0 0 (wq_Ab b 284)) 0 0 77 [some (.ref (b + 282)), some (.int (wq_I j1)), some (.int (wq_I j2)), none, none] [] S := by
  unfold j_X2_runDueReports_77 at h
  refine wq_iload_n F dX2_runDueReports_77 rfl rfl rfl ?_
  refine wq_istore_n (L' := [some (.ref (b + 282)), some (.int (wq_I j1)), some (.int (wq_I j2)), some (.int (wq_I j2)), none]) F dX2_runDueReports_78 rfl (by decide) rfl rfl rfl ?_
  refine wq_lsub [some (.ref (b + 282)), some (.int (wq_I j1)), some (.int (wq_I j2)), some (.int (wq_I j2)), none] (by simp [wq_sub]) (tl_X2_runDueReports_79 F (fun S20 h => ?_) wq_fu j2 S h)
  refine wq_aload_n F dX2_runDueReports_123 rfl rfl rfl ?_
  refine wq_dup1 F rfl dX2_runDueReports_124 rfl ?_
  refine wq_g_X2_97 F dX2_runDueReports_125 rfl ?_
  refine wq_iconst (n := 1) F dX2_runDueReports_128 rfl ?_
  refine wq_iadd F dX2_runDueReports_129 rfl ?_
  refine wq_p_X2_97 F (fun _ h9 => h9) dX2_runDueReports_130 rfl ?_
  obtain ⟨S21, eS21, h⟩ := wq_lt_some h
  refine wq_namS eS21 ?_
  refine wq_iload_n F dX2_runDueReports_133 rfl rfl rfl ?_
  cases h
  exact wq_iret F rfl rfl dX2_runDueReports_134
set_option maxHeartbeats 4000000 in
set_option maxRecDepth 100000 in
theorem ct_X2_runDueReports {l : Launch} {D : va_G} {Ar : Nat → ClassId} {b : Nat} {S S0 : wq_St} {r0 : Int} (h : f_X2_runDueReports S = some (r0, S0)) : wq_Ct l yX2_runDueReports (.code yX2_runDueReports cX2_runDueReports 5 ((Option.some Jvm.ClassFile.FieldType.int))) 13 D Ar (wq_EC Ar b) b 284 [.ref (b + 282)] S (some (.int (wq_I r0))) S0 := by
  refine wq_start "WharfQuery$Crew" [some (.ref (b + 282)), none, none, none, none] (by decide +kernel) rfl (Nat.le_of_ble_eq_true rfl) rfl ?_
  intro p e s m args below meth c F
  unfold f_X2_runDueReports at h
  refine wq_aload_n F dX2_runDueReports_0 rfl rfl rfl ?_
  obtain ⟨r1, S2, h1r1, h⟩ := wq_bd_some h
  refine wq_callV (As := []) F lk_X2_71 (ct_X2_lineUpDueReports h1r1) ⟨Nat.le_of_ble_eq_true rfl, Nat.le_of_ble_eq_true rfl⟩ ⟨Nat.le_of_ble_eq_true rfl, Nat.le_of_ble_eq_true rfl⟩ (Nat.le_of_ble_eq_true rfl) rfl rfl (fun _ h9 => h9) rfl rfl (Nat.le_of_ble_eq_true rfl) dX2_runDueReports_1 rfl ?_
  refine wq_istore_n (L' := [some (.ref (b + 282)), some (.int (wq_I r1)), none, none, none]) F dX2_runDueReports_4 rfl (by decide) rfl rfl rfl ?_
  refine wq_iconst (n := 0) F dX2_runDueReports_5 rfl ?_
  refine wq_istore_n (L' := [some (.ref (b + 282)), some (.int (wq_I r1)), some (.int (wq_I 0)), none, none]) F dX2_runDueReports_6 rfl (by decide) rfl rfl rfl ?_
  refine wq_lsub [some (.ref (b + 282)), some (.int (wq_I r1)), some (.int (wq_I 0)), none, none] (by simp [wq_sub]) (tl_X2_runDueReports_7 F (fun u13 S14 h => ?_) wq_fu 0 S2 h)
  exact wq_lsub [some (.ref (b + 282)), some (.int (wq_I r1)), some (.int (wq_I u13)), none, none] (by simp [wq_sub]) (tj_X2_runDueReports_77 F S14 h)
