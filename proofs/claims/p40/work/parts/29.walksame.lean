set_option maxHeartbeats 40000000 in
set_option maxRecDepth 100000 in
theorem tj_L_same_348 {p : Program} {l : Launch} {e : Env} {s : State} {m : MethodId} {args : Array Value} {below : List Frame} {meth : Method} {c : Code} {D : va_G} {Ar : Nat → ClassId} {b : Nat} (F : wq_Fr p s m args meth c cL_same 15 ((Option.some Jvm.ClassFile.FieldType.boolean)) "WharfQueryLaw" D Ar) (K : wq_Kx b 570 s) (Kn : wq_Nx s) (hlt : l.stackTraces = false) {cc ss c9 s9 : Nat} (hC : cc + 0 ≤ c9) (hD : ss + 0 ≤ s9) (hE : c9 ≤ 60) (hF : s9 ≤ 360) {r0 : Int} {S0 : wq_St} {kx : Int → wq_St → Option (Int × wq_St)} {rec : Int → Int → wq_St → Option (Int × wq_St)} {j4 : Int} {j5 : Int} {j6 : Int} {j12 : Int} {j13 : Int} (hkx : ∀ (u9 : Int) (S : wq_St), kx u9 S = some (r0, S0) → wq_Z p l e (wq_rm 16 60 360) s m args below meth c D (wq_EL Ar b) b 570 15 (wq_AX b 570 s.heap.size) (wq_MX below D (wq_EL Ar b) b 570 0 (some (.int (wq_I r0))) S0 args s 60 360) c9 s9 356 [some (.ref (b + 0)), some (.ref (b + 284)), none, some (.ref (b + 569)), some (.int (wq_I j4)), some (.int (wq_I j5)), none, none, none, some (.int (wq_I u9)), none, none, some (.int (wq_I j12)), none, none] [] S) (hrec : ∀ (y9 : Int) (y13 : Int) (S : wq_St), rec y9 y13 S = some (r0, S0) → wq_Z p l e (wq_rm 16 60 360) s m args below meth c D (wq_EL Ar b) b 570 15 (wq_AX b 570 s.heap.size) (wq_MX below D (wq_EL Ar b) b 570 0 (some (.int (wq_I r0))) S0 args s 60 360) c9 s9 257 [some (.ref (b + 0)), some (.ref (b + 284)), none, some (.ref (b + 569)), some (.int (wq_I j4)), some (.int (wq_I j5)), some (.int (wq_I j6)), none, none, some (.int (wq_I y9)), none, none, some (.int (wq_I j12)), some (.int (wq_I y13)), none] [] S) (z0 : Int) (S : wq_St) (h : j_L_same_348 kx rec j4 j5 j6 j12 j13 z0 S = some (r0, S0)) : wq_Z p l e (wq_rm 16 60 360) s m args below meth c D (wq_EL Ar b) b 570 15 (wq_AX b 570 s.heap.size) (wq_MX below D (wq_EL Ar b) b 570 0 (some (.int (wq_I r0))) S0 args s 60 360) cc ss 348 [some (.ref (b + 0)), some (.ref (b + 284)), none, some (.ref (b + 569)), some (.int (wq_I j4)), some (.int (wq_I j5)), some (.int (wq_I j6)), none, none, none, none, none, some (.int (wq_I j12)), some (.int (wq_I j13)), none] [.int (wq_I z0)] S := by
  unfold j_L_same_348 at h
  refine wq_istore (L' := [some (.ref (b + 0)), some (.ref (b + 284)), none, some (.ref (b + 569)), some (.int (wq_I j4)), some (.int (wq_I j5)), some (.int (wq_I j6)), none, none, some (.int (wq_I z0)), none, none, some (.int (wq_I j12)), some (.int (wq_I j13)), none]) F dL_same_348 (by decide) rfl rfl rfl ?_
  refine wq_iinc (L' := [some (.ref (b + 0)), some (.ref (b + 284)), none, some (.ref (b + 569)), some (.int (wq_I j4)), some (.int (wq_I j5)), some (.int (wq_I j6)), none, none, some (.int (wq_I z0)), none, none, some (.int (wq_I j12)), some (.int (wq_I (j13 + 1))), none]) F dL_same_350 rfl (by decide) rfl rfl rfl ?_
  refine wq_goto (tgt := 257) F dL_same_353 (by decide) ?_
  exact wq_wid (k := c9) (n := s9) (by omega) (by omega) <| wq_lsub [some (.ref (b + 0)), some (.ref (b + 284)), none, some (.ref (b + 569)), some (.int (wq_I j4)), some (.int (wq_I j5)), some (.int (wq_I j6)), none, none, some (.int (wq_I z0)), none, none, some (.int (wq_I j12)), some (.int (wq_I (j13 + 1))), none] (by simp [wq_sub]) (hrec z0 (j13 + 1) S h)
set_option maxHeartbeats 40000000 in
set_option maxRecDepth 100000 in
theorem tj_L_same_343 {p : Program} {l : Launch} {e : Env} {s : State} {m : MethodId} {args : Array Value} {below : List Frame} {meth : Method} {c : Code} {D : va_G} {Ar : Nat → ClassId} {b : Nat} (F : wq_Fr p s m args meth c cL_same 15 ((Option.some Jvm.ClassFile.FieldType.boolean)) "WharfQueryLaw" D Ar) (K : wq_Kx b 570 s) (Kn : wq_Nx s) (hlt : l.stackTraces = false) {cc ss c9 s9 : Nat} (hC : cc + 0 ≤ c9) (hD : ss + 0 ≤ s9) (hE : c9 ≤ 60) (hF : s9 ≤ 360) {r0 : Int} {S0 : wq_St} {kx : Int → wq_St → Option (Int × wq_St)} {rec : Int → Int → wq_St → Option (Int × wq_St)} {j4 : Int} {j5 : Int} {j6 : Int} {j12 : Int} {j13 : Int} (hkx : ∀ (u9 : Int) (S : wq_St), kx u9 S = some (r0, S0) → wq_Z p l e (wq_rm 16 60 360) s m args below meth c D (wq_EL Ar b) b 570 15 (wq_AX b 570 s.heap.size) (wq_MX below D (wq_EL Ar b) b 570 0 (some (.int (wq_I r0))) S0 args s 60 360) c9 s9 356 [some (.ref (b + 0)), some (.ref (b + 284)), none, some (.ref (b + 569)), some (.int (wq_I j4)), some (.int (wq_I j5)), none, none, none, some (.int (wq_I u9)), none, none, some (.int (wq_I j12)), none, none] [] S) (hrec : ∀ (y9 : Int) (y13 : Int) (S : wq_St), rec y9 y13 S = some (r0, S0) → wq_Z p l e (wq_rm 16 60 360) s m args below meth c D (wq_EL Ar b) b 570 15 (wq_AX b 570 s.heap.size) (wq_MX below D (wq_EL Ar b) b 570 0 (some (.int (wq_I r0))) S0 args s 60 360) c9 s9 257 [some (.ref (b + 0)), some (.ref (b + 284)), none, some (.ref (b + 569)), some (.int (wq_I j4)), some (.int (wq_I j5)), some (.int (wq_I j6)), none, none, some (.int (wq_I y9)), none, none, some (.int (wq_I j12)), some (.int (wq_I y13)), none] [] S) (S : wq_St) (h : j_L_same_343 kx rec j4 j5 j6 j12 j13 S = some (r0, S0)) : wq_Z p l e (wq_rm 16 60 360) s m args below meth c D (wq_EL Ar b) b 570 15 (wq_AX b 570 s.heap.size) (wq_MX below D (wq_EL Ar b) b 570 0 (some (.int (wq_I r0))) S0 args s 60 360) cc ss 343 [some (.ref (b + 0)), some (.ref (b + 284)), none, some (.ref (b + 569)), some (.int (wq_I j4)), some (.int (wq_I j5)), some (.int (wq_I j6)), none, none, none, none, none, some (.int (wq_I j12)), some (.int (wq_I j13)), none] [] S := by
  unfold j_L_same_343 at h
  refine wq_iconst (n := 1) F dL_same_343 rfl ?_
  refine wq_goto (tgt := 348) F dL_same_344 (by decide) ?_
  exact wq_wid (k := cc + 0) (n := ss + 0) (by omega) (by omega) <| wq_lsub [some (.ref (b + 0)), some (.ref (b + 284)), none, some (.ref (b + 569)), some (.int (wq_I j4)), some (.int (wq_I j5)), some (.int (wq_I j6)), none, none, none, none, none, some (.int (wq_I j12)), some (.int (wq_I j13)), none] (by simp [wq_sub]) (tj_L_same_348 (cc := cc + 0) (ss := ss + 0) (c9 := c9) (s9 := s9) F K Kn hlt (by omega) (by omega) hE hF hkx hrec 1 S h)
set_option maxHeartbeats 40000000 in
set_option maxRecDepth 100000 in
theorem tj_L_same_337 {p : Program} {l : Launch} {e : Env} {s : State} {m : MethodId} {args : Array Value} {below : List Frame} {meth : Method} {c : Code} {D : va_G} {Ar : Nat → ClassId} {b : Nat} (F : wq_Fr p s m args meth c cL_same 15 ((Option.some Jvm.ClassFile.FieldType.boolean)) "WharfQueryLaw" D Ar) (K : wq_Kx b 570 s) (Kn : wq_Nx s) (hlt : l.stackTraces = false) {cc ss c9 s9 : Nat} (hC : cc + 1 ≤ c9) (hD : ss + 6 ≤ s9) (hE : c9 ≤ 60) (hF : s9 ≤ 360) {r0 : Int} {S0 : wq_St} {kx : Int → wq_St → Option (Int × wq_St)} {rec : Int → Int → wq_St → Option (Int × wq_St)} {j4 : Int} {j5 : Int} {j6 : Int} {j12 : Int} {j13 : Int} (hkx : ∀ (u9 : Int) (S : wq_St), kx u9 S = some (r0, S0) → wq_Z p l e (wq_rm 16 60 360) s m args below meth c D (wq_EL Ar b) b 570 15 (wq_AX b 570 s.heap.size) (wq_MX below D (wq_EL Ar b) b 570 0 (some (.int (wq_I r0))) S0 args s 60 360) c9 s9 356 [some (.ref (b + 0)), some (.ref (b + 284)), none, some (.ref (b + 569)), some (.int (wq_I j4)), some (.int (wq_I j5)), none, none, none, some (.int (wq_I u9)), none, none, some (.int (wq_I j12)), none, none] [] S) (hrec : ∀ (y9 : Int) (y13 : Int) (S : wq_St), rec y9 y13 S = some (r0, S0) → wq_Z p l e (wq_rm 16 60 360) s m args below meth c D (wq_EL Ar b) b 570 15 (wq_AX b 570 s.heap.size) (wq_MX below D (wq_EL Ar b) b 570 0 (some (.int (wq_I r0))) S0 args s 60 360) c9 s9 257 [some (.ref (b + 0)), some (.ref (b + 284)), none, some (.ref (b + 569)), some (.int (wq_I j4)), some (.int (wq_I j5)), some (.int (wq_I j6)), none, none, some (.int (wq_I y9)), none, none, some (.int (wq_I j12)), some (.int (wq_I y13)), none] [] S) (z0 : Int) (z1 : Int) (z3 : Int) (S : wq_St) (h : j_L_same_337 kx rec j4 j5 j6 j12 j13 z0 z1 z3 S = some (r0, S0)) : wq_Z p l e (wq_rm 16 60 360) s m args below meth c D (wq_EL Ar b) b 570 15 (wq_AX b 570 s.heap.size) (wq_MX below D (wq_EL Ar b) b 570 0 (some (.int (wq_I r0))) S0 args s 60 360) cc ss 337 [some (.ref (b + 0)), some (.ref (b + 284)), none, some (.ref (b + 569)), some (.int (wq_I j4)), some (.int (wq_I j5)), some (.int (wq_I j6)), none, none, none, none, none, some (.int (wq_I j12)), some (.int (wq_I j13)), none] [.int (wq_I z0), .int (wq_I z1), .ref (b + 284), .int (wq_I z3)] S := by
  unfold j_L_same_337 at h
  obtain ⟨r20, S21, h1r20, h⟩ := wq_bd_some h
  obtain ⟨S22, eS22, h⟩ := wq_lt_some h
  refine wq_callW (As := [.ref (b + 284), .int (wq_I z1), .int (wq_I z0)]) (mc := 1) (ms := 6) (n := 15) F K Kn lk_L_145 (wq_Cw_emb (o := 284) (ct_L_of hlt h1r20) (Nat.le_of_ble_eq_true rfl) wq_EL_b (wq_clt_at _)) ⟨(Nat.le_of_ble_eq_true rfl), (Nat.le_of_ble_eq_true rfl)⟩ ⟨by show cc + 0 + 1 ≤ 60; omega, by show ss + 0 + 6 ≤ 360; omega⟩ rfl rfl (Nat.le_of_ble_eq_true rfl) dL_same_337 rfl ?_
  refine wq_namS eS22 ?_
  refine wq_icmp_ne (tgt := 347) F dL_same_340 (by decide) rfl (fun hc => ?_) (fun hc => ?_)
  · replace h := wq_iff hc h
    refine wq_iconst (n := 0) F dL_same_347 rfl ?_
    exact wq_wid (k := cc + 1) (n := ss + 6) (by omega) (by omega) <| wq_lsub [some (.ref (b + 0)), some (.ref (b + 284)), none, some (.ref (b + 569)), some (.int (wq_I j4)), some (.int (wq_I j5)), some (.int (wq_I j6)), none, none, none, none, none, some (.int (wq_I j12)), some (.int (wq_I j13)), none] (by simp [wq_sub]) (tj_L_same_348 (cc := cc + 1) (ss := ss + 6) (c9 := c9) (s9 := s9) F K Kn hlt (by omega) (by omega) hE hF hkx hrec 0 S22 h)
  · replace h := wq_ift hc h
    exact wq_wid (k := cc + 1) (n := ss + 6) (by omega) (by omega) <| wq_lsub [some (.ref (b + 0)), some (.ref (b + 284)), none, some (.ref (b + 569)), some (.int (wq_I j4)), some (.int (wq_I j5)), some (.int (wq_I j6)), none, none, none, none, none, some (.int (wq_I j12)), some (.int (wq_I j13)), none] (by simp [wq_sub]) (tj_L_same_343 (cc := cc + 1) (ss := ss + 6) (c9 := c9) (s9 := s9) F K Kn hlt (by omega) (by omega) hE hF hkx hrec S22 h)
set_option maxHeartbeats 40000000 in
set_option maxRecDepth 100000 in
theorem tj_L_same_318 {p : Program} {l : Launch} {e : Env} {s : State} {m : MethodId} {args : Array Value} {below : List Frame} {meth : Method} {c : Code} {D : va_G} {Ar : Nat → ClassId} {b : Nat} (F : wq_Fr p s m args meth c cL_same 15 ((Option.some Jvm.ClassFile.FieldType.boolean)) "WharfQueryLaw" D Ar) (K : wq_Kx b 570 s) (Kn : wq_Nx s) (hlt : l.stackTraces = false) {cc ss c9 s9 : Nat} (hC : cc + 2 ≤ c9) (hD : ss + 12 ≤ s9) (hE : c9 ≤ 60) (hF : s9 ≤ 360) {r0 : Int} {S0 : wq_St} {kx : Int → wq_St → Option (Int × wq_St)} {rec : Int → Int → wq_St → Option (Int × wq_St)} {j4 : Int} {j5 : Int} {j6 : Int} {j12 : Int} {j13 : Int} (hkx : ∀ (u9 : Int) (S : wq_St), kx u9 S = some (r0, S0) → wq_Z p l e (wq_rm 16 60 360) s m args below meth c D (wq_EL Ar b) b 570 15 (wq_AX b 570 s.heap.size) (wq_MX below D (wq_EL Ar b) b 570 0 (some (.int (wq_I r0))) S0 args s 60 360) c9 s9 356 [some (.ref (b + 0)), some (.ref (b + 284)), none, some (.ref (b + 569)), some (.int (wq_I j4)), some (.int (wq_I j5)), none, none, none, some (.int (wq_I u9)), none, none, some (.int (wq_I j12)), none, none] [] S) (hrec : ∀ (y9 : Int) (y13 : Int) (S : wq_St), rec y9 y13 S = some (r0, S0) → wq_Z p l e (wq_rm 16 60 360) s m args below meth c D (wq_EL Ar b) b 570 15 (wq_AX b 570 s.heap.size) (wq_MX below D (wq_EL Ar b) b 570 0 (some (.int (wq_I r0))) S0 args s 60 360) c9 s9 257 [some (.ref (b + 0)), some (.ref (b + 284)), none, some (.ref (b + 569)), some (.int (wq_I j4)), some (.int (wq_I j5)), some (.int (wq_I j6)), none, none, some (.int (wq_I y9)), none, none, some (.int (wq_I j12)), some (.int (wq_I y13)), none] [] S) (z0 : Int) (z1 : Int) (S : wq_St) (h : j_L_same_318 kx rec j4 j5 j6 j12 j13 z0 z1 S = some (r0, S0)) : wq_Z p l e (wq_rm 16 60 360) s m args below meth c D (wq_EL Ar b) b 570 15 (wq_AX b 570 s.heap.size) (wq_MX below D (wq_EL Ar b) b 570 0 (some (.int (wq_I r0))) S0 args s 60 360) cc ss 318 [some (.ref (b + 0)), some (.ref (b + 284)), none, some (.ref (b + 569)), some (.int (wq_I j4)), some (.int (wq_I j5)), some (.int (wq_I j6)), none, none, none, none, none, some (.int (wq_I j12)), some (.int (wq_I j13)), none] [.int (wq_I z0), .int (wq_I z1), .ref (b + 0)] S := by
  unfold j_L_same_318 at h
  obtain ⟨r17, S18, h1r17, h⟩ := wq_bd_some h
  obtain ⟨S19, eS19, h⟩ := wq_lt_some h
  refine wq_callW (As := [.ref (b + 0), .int (wq_I z1), .int (wq_I z0)]) (mc := 1) (ms := 6) (n := 15) F K Kn lk_L_145 (wq_Cw_emb (o := 0) (ct_L_of hlt h1r17) (Nat.le_of_ble_eq_true rfl) wq_EL_a (wq_cls_at _)) ⟨(Nat.le_of_ble_eq_true rfl), (Nat.le_of_ble_eq_true rfl)⟩ ⟨by show cc + 0 + 1 ≤ 60; omega, by show ss + 0 + 6 ≤ 360; omega⟩ rfl rfl (Nat.le_of_ble_eq_true rfl) dL_same_318 rfl ?_
  refine wq_namS eS19 ?_
  refine wq_aload_n F dL_same_321 rfl rfl rfl ?_
  refine wq_iload F dL_same_322 rfl rfl ?_
  refine wq_iload F dL_same_324 rfl rfl ?_
  refine wq_iconst (n := 3) F dL_same_326 rfl ?_
  refine wq_icmp_ge (tgt := 335) F dL_same_327 (by decide) rfl (fun hc => ?_) (fun hc => ?_)
  · replace h := wq_ift hc h
    refine wq_iload F dL_same_335 rfl rfl ?_
    exact wq_wid (k := cc + 1) (n := ss + 6) (by omega) (by omega) <| wq_lsub [some (.ref (b + 0)), some (.ref (b + 284)), none, some (.ref (b + 569)), some (.int (wq_I j4)), some (.int (wq_I j5)), some (.int (wq_I j6)), none, none, none, none, none, some (.int (wq_I j12)), some (.int (wq_I j13)), none] (by simp [wq_sub]) (tj_L_same_337 (cc := cc + 1) (ss := ss + 6) (c9 := c9) (s9 := s9) F K Kn hlt (by omega) (by omega) hE hF hkx hrec j12 j13 r17 S19 h)
  · replace h := wq_iff hc h
    refine wq_iload F dL_same_330 rfl rfl ?_
    refine wq_goto (tgt := 337) F dL_same_332 (by decide) ?_
    exact wq_wid (k := cc + 1) (n := ss + 6) (by omega) (by omega) <| wq_lsub [some (.ref (b + 0)), some (.ref (b + 284)), none, some (.ref (b + 569)), some (.int (wq_I j4)), some (.int (wq_I j5)), some (.int (wq_I j6)), none, none, none, none, none, some (.int (wq_I j12)), some (.int (wq_I j13)), none] (by simp [wq_sub]) (tj_L_same_337 (cc := cc + 1) (ss := ss + 6) (c9 := c9) (s9 := s9) F K Kn hlt (by omega) (by omega) hE hF hkx hrec j6 j13 r17 S19 h)
set_option maxHeartbeats 40000000 in
set_option maxRecDepth 100000 in
theorem tj_L_same_295 {p : Program} {l : Launch} {e : Env} {s : State} {m : MethodId} {args : Array Value} {below : List Frame} {meth : Method} {c : Code} {D : va_G} {Ar : Nat → ClassId} {b : Nat} (F : wq_Fr p s m args meth c cL_same 15 ((Option.some Jvm.ClassFile.FieldType.boolean)) "WharfQueryLaw" D Ar) (K : wq_Kx b 570 s) (Kn : wq_Nx s) (hlt : l.stackTraces = false) {cc ss c9 s9 : Nat} (hC : cc + 2 ≤ c9) (hD : ss + 12 ≤ s9) (hE : c9 ≤ 60) (hF : s9 ≤ 360) {r0 : Int} {S0 : wq_St} {kx : Int → wq_St → Option (Int × wq_St)} {rec : Int → Int → wq_St → Option (Int × wq_St)} {j4 : Int} {j5 : Int} {j6 : Int} {j12 : Int} {j13 : Int} (hkx : ∀ (u9 : Int) (S : wq_St), kx u9 S = some (r0, S0) → wq_Z p l e (wq_rm 16 60 360) s m args below meth c D (wq_EL Ar b) b 570 15 (wq_AX b 570 s.heap.size) (wq_MX below D (wq_EL Ar b) b 570 0 (some (.int (wq_I r0))) S0 args s 60 360) c9 s9 356 [some (.ref (b + 0)), some (.ref (b + 284)), none, some (.ref (b + 569)), some (.int (wq_I j4)), some (.int (wq_I j5)), none, none, none, some (.int (wq_I u9)), none, none, some (.int (wq_I j12)), none, none] [] S) (hrec : ∀ (y9 : Int) (y13 : Int) (S : wq_St), rec y9 y13 S = some (r0, S0) → wq_Z p l e (wq_rm 16 60 360) s m args below meth c D (wq_EL Ar b) b 570 15 (wq_AX b 570 s.heap.size) (wq_MX below D (wq_EL Ar b) b 570 0 (some (.int (wq_I r0))) S0 args s 60 360) c9 s9 257 [some (.ref (b + 0)), some (.ref (b + 284)), none, some (.ref (b + 569)), some (.int (wq_I j4)), some (.int (wq_I j5)), some (.int (wq_I j6)), none, none, some (.int (wq_I y9)), none, none, some (.int (wq_I j12)), some (.int (wq_I y13)), none] [] S) (z0 : Int) (S : wq_St) (h : j_L_same_295 kx rec j4 j5 j6 j12 j13 z0 S = some (r0, S0)) : wq_Z p l e (wq_rm 16 60 360) s m args below meth c D (wq_EL Ar b) b 570 15 (wq_AX b 570 s.heap.size) (wq_MX below D (wq_EL Ar b) b 570 0 (some (.int (wq_I r0))) S0 args s 60 360) cc ss 295 [some (.ref (b + 0)), some (.ref (b + 284)), none, some (.ref (b + 569)), some (.int (wq_I j4)), some (.int (wq_I j5)), some (.int (wq_I j6)), none, none, none, none, none, some (.int (wq_I j12)), some (.int (wq_I j13)), none] [.int (wq_I z0)] S := by
  unfold j_L_same_295 at h
  refine wq_istore (L' := [some (.ref (b + 0)), some (.ref (b + 284)), none, some (.ref (b + 569)), some (.int (wq_I j4)), some (.int (wq_I j5)), some (.int (wq_I j6)), none, none, none, none, none, some (.int (wq_I j12)), some (.int (wq_I j13)), some (.int (wq_I z0))]) F dL_same_295 (by decide) rfl rfl rfl ?_
  refine wq_iload F dL_same_297 rfl rfl ?_
  refine wq_if_ne (tgt := 343) F dL_same_299 (by decide) rfl (fun hc => ?_) (fun hc => ?_)
  · replace h := wq_iff hc h
    exact wq_wid (k := cc + 0) (n := ss + 0) (by omega) (by omega) <| wq_lsub [some (.ref (b + 0)), some (.ref (b + 284)), none, some (.ref (b + 569)), some (.int (wq_I j4)), some (.int (wq_I j5)), some (.int (wq_I j6)), none, none, none, none, none, some (.int (wq_I j12)), some (.int (wq_I j13)), none] (by simp [wq_sub]) (tj_L_same_343 (cc := cc + 0) (ss := ss + 0) (c9 := c9) (s9 := s9) F K Kn hlt (by omega) (by omega) hE hF hkx hrec S h)
  · replace h := wq_ift hc h
    refine wq_aload_n F dL_same_302 rfl rfl rfl ?_
    refine wq_iload F dL_same_303 rfl rfl ?_
    refine wq_iload F dL_same_305 rfl rfl ?_
    refine wq_iconst (n := 3) F dL_same_307 rfl ?_
    refine wq_icmp_ge (tgt := 316) F dL_same_308 (by decide) rfl (fun hc => ?_) (fun hc => ?_)
    · replace h := wq_ift hc h
      refine wq_iload F dL_same_316 rfl rfl ?_
      exact wq_wid (k := cc + 0) (n := ss + 0) (by omega) (by omega) <| wq_lsub [some (.ref (b + 0)), some (.ref (b + 284)), none, some (.ref (b + 569)), some (.int (wq_I j4)), some (.int (wq_I j5)), some (.int (wq_I j6)), none, none, none, none, none, some (.int (wq_I j12)), some (.int (wq_I j13)), none] (by simp [wq_sub]) (tj_L_same_318 (cc := cc + 0) (ss := ss + 0) (c9 := c9) (s9 := s9) F K Kn hlt (by omega) (by omega) hE hF hkx hrec j12 j13 S h)
    · replace h := wq_iff hc h
      refine wq_iload F dL_same_311 rfl rfl ?_
      refine wq_goto (tgt := 318) F dL_same_313 (by decide) ?_
      exact wq_wid (k := cc + 0) (n := ss + 0) (by omega) (by omega) <| wq_lsub [some (.ref (b + 0)), some (.ref (b + 284)), none, some (.ref (b + 569)), some (.int (wq_I j4)), some (.int (wq_I j5)), some (.int (wq_I j6)), none, none, none, none, none, some (.int (wq_I j12)), some (.int (wq_I j13)), none] (by simp [wq_sub]) (tj_L_same_318 (cc := cc + 0) (ss := ss + 0) (c9 := c9) (s9 := s9) F K Kn hlt (by omega) (by omega) hE hF hkx hrec j6 j13 S h)
set_option maxHeartbeats 40000000 in
set_option maxRecDepth 100000 in
theorem tj_L_same_290 {p : Program} {l : Launch} {e : Env} {s : State} {m : MethodId} {args : Array Value} {below : List Frame} {meth : Method} {c : Code} {D : va_G} {Ar : Nat → ClassId} {b : Nat} (F : wq_Fr p s m args meth c cL_same 15 ((Option.some Jvm.ClassFile.FieldType.boolean)) "WharfQueryLaw" D Ar) (K : wq_Kx b 570 s) (Kn : wq_Nx s) (hlt : l.stackTraces = false) {cc ss c9 s9 : Nat} (hC : cc + 2 ≤ c9) (hD : ss + 12 ≤ s9) (hE : c9 ≤ 60) (hF : s9 ≤ 360) {r0 : Int} {S0 : wq_St} {kx : Int → wq_St → Option (Int × wq_St)} {rec : Int → Int → wq_St → Option (Int × wq_St)} {j4 : Int} {j5 : Int} {j6 : Int} {j12 : Int} {j13 : Int} (hkx : ∀ (u9 : Int) (S : wq_St), kx u9 S = some (r0, S0) → wq_Z p l e (wq_rm 16 60 360) s m args below meth c D (wq_EL Ar b) b 570 15 (wq_AX b 570 s.heap.size) (wq_MX below D (wq_EL Ar b) b 570 0 (some (.int (wq_I r0))) S0 args s 60 360) c9 s9 356 [some (.ref (b + 0)), some (.ref (b + 284)), none, some (.ref (b + 569)), some (.int (wq_I j4)), some (.int (wq_I j5)), none, none, none, some (.int (wq_I u9)), none, none, some (.int (wq_I j12)), none, none] [] S) (hrec : ∀ (y9 : Int) (y13 : Int) (S : wq_St), rec y9 y13 S = some (r0, S0) → wq_Z p l e (wq_rm 16 60 360) s m args below meth c D (wq_EL Ar b) b 570 15 (wq_AX b 570 s.heap.size) (wq_MX below D (wq_EL Ar b) b 570 0 (some (.int (wq_I r0))) S0 args s 60 360) c9 s9 257 [some (.ref (b + 0)), some (.ref (b + 284)), none, some (.ref (b + 569)), some (.int (wq_I j4)), some (.int (wq_I j5)), some (.int (wq_I j6)), none, none, some (.int (wq_I y9)), none, none, some (.int (wq_I j12)), some (.int (wq_I y13)), none] [] S) (S : wq_St) (h : j_L_same_290 kx rec j4 j5 j6 j12 j13 S = some (r0, S0)) : wq_Z p l e (wq_rm 16 60 360) s m args below meth c D (wq_EL Ar b) b 570 15 (wq_AX b 570 s.heap.size) (wq_MX below D (wq_EL Ar b) b 570 0 (some (.int (wq_I r0))) S0 args s 60 360) cc ss 290 [some (.ref (b + 0)), some (.ref (b + 284)), none, some (.ref (b + 569)), some (.int (wq_I j4)), some (.int (wq_I j5)), some (.int (wq_I j6)), none, none, none, none, none, some (.int (wq_I j12)), some (.int (wq_I j13)), none] [] S := by
  unfold j_L_same_290 at h
  refine wq_iconst (n := 1) F dL_same_290 rfl ?_
  refine wq_goto (tgt := 295) F dL_same_291 (by decide) ?_
  exact wq_wid (k := cc + 0) (n := ss + 0) (by omega) (by omega) <| wq_lsub [some (.ref (b + 0)), some (.ref (b + 284)), none, some (.ref (b + 569)), some (.int (wq_I j4)), some (.int (wq_I j5)), some (.int (wq_I j6)), none, none, none, none, none, some (.int (wq_I j12)), some (.int (wq_I j13)), none] (by simp [wq_sub]) (tj_L_same_295 (cc := cc + 0) (ss := ss + 0) (c9 := c9) (s9 := s9) F K Kn hlt (by omega) (by omega) hE hF hkx hrec 1 S h)
set_option maxHeartbeats 40000000 in
set_option maxRecDepth 100000 in
theorem tb_L_same_257 {p : Program} {l : Launch} {e : Env} {s : State} {m : MethodId} {args : Array Value} {below : List Frame} {meth : Method} {c : Code} {D : va_G} {Ar : Nat → ClassId} {b : Nat} (F : wq_Fr p s m args meth c cL_same 15 ((Option.some Jvm.ClassFile.FieldType.boolean)) "WharfQueryLaw" D Ar) (K : wq_Kx b 570 s) (Kn : wq_Nx s) (hlt : l.stackTraces = false) {cc ss c9 s9 : Nat} (hC : cc + 2 ≤ c9) (hD : ss + 12 ≤ s9) (hE : c9 ≤ 60) (hF : s9 ≤ 360) {r0 : Int} {S0 : wq_St} {c4 : Int} {c5 : Int} {c6 : Int} {c12 : Int} {kx : Int → wq_St → Option (Int × wq_St)} (hkx : ∀ (u9 : Int) (S : wq_St), kx u9 S = some (r0, S0) → wq_Z p l e (wq_rm 16 60 360) s m args below meth c D (wq_EL Ar b) b 570 15 (wq_AX b 570 s.heap.size) (wq_MX below D (wq_EL Ar b) b 570 0 (some (.int (wq_I r0))) S0 args s 60 360) c9 s9 356 [some (.ref (b + 0)), some (.ref (b + 284)), none, some (.ref (b + 569)), some (.int (wq_I c4)), some (.int (wq_I c5)), none, none, none, some (.int (wq_I u9)), none, none, some (.int (wq_I c12)), none, none] [] S) {rec : Int → Int → wq_St → Option (Int × wq_St)} (hrec : ∀ (y9 : Int) (y13 : Int) (S : wq_St), rec y9 y13 S = some (r0, S0) → wq_Z p l e (wq_rm 16 60 360) s m args below meth c D (wq_EL Ar b) b 570 15 (wq_AX b 570 s.heap.size) (wq_MX below D (wq_EL Ar b) b 570 0 (some (.int (wq_I r0))) S0 args s 60 360) c9 s9 257 [some (.ref (b + 0)), some (.ref (b + 284)), none, some (.ref (b + 569)), some (.int (wq_I c4)), some (.int (wq_I c5)), some (.int (wq_I c6)), none, none, some (.int (wq_I y9)), none, none, some (.int (wq_I c12)), some (.int (wq_I y13)), none] [] S) (y9 : Int) (y13 : Int) (S : wq_St) (h : b_L_same_257 c4 c5 c6 c12 kx rec y9 y13 S = some (r0, S0)) : wq_Z p l e (wq_rm 16 60 360) s m args below meth c D (wq_EL Ar b) b 570 15 (wq_AX b 570 s.heap.size) (wq_MX below D (wq_EL Ar b) b 570 0 (some (.int (wq_I r0))) S0 args s 60 360) cc ss 257 [some (.ref (b + 0)), some (.ref (b + 284)), none, some (.ref (b + 569)), some (.int (wq_I c4)), some (.int (wq_I c5)), some (.int (wq_I c6)), none, none, some (.int (wq_I y9)), none, none, some (.int (wq_I c12)), some (.int (wq_I y13)), none] [] S := by
  unfold b_L_same_257 at h
  refine wq_iload F dL_same_257 rfl rfl ?_
  refine wq_bipush (n := 13) F dL_same_259 (by decide) rfl ?_
  refine wq_icmp_ge (tgt := 356) F dL_same_261 (by decide) rfl (fun hc => ?_) (fun hc => ?_)
  · replace h := wq_ift hc h
    exact wq_wid (k := c9) (n := s9) (by omega) (by omega) <| wq_lsub [some (.ref (b + 0)), some (.ref (b + 284)), none, some (.ref (b + 569)), some (.int (wq_I c4)), some (.int (wq_I c5)), none, none, none, some (.int (wq_I y9)), none, none, some (.int (wq_I c12)), none, none] (by simp [wq_sub]) (hkx y9 S h)
  · replace h := wq_iff hc h
    refine wq_iload F dL_same_264 rfl rfl ?_
    refine wq_if_eq (tgt := 356) F dL_same_266 (by decide) rfl (fun hc => ?_) (fun hc => ?_)
    · replace h := wq_ift hc h
      exact wq_wid (k := c9) (n := s9) (by omega) (by omega) <| wq_lsub [some (.ref (b + 0)), some (.ref (b + 284)), none, some (.ref (b + 569)), some (.int (wq_I c4)), some (.int (wq_I c5)), none, none, none, some (.int (wq_I y9)), none, none, some (.int (wq_I c12)), none, none] (by simp [wq_sub]) (hkx y9 S h)
    · replace h := wq_iff hc h
      refine wq_iload F dL_same_269 rfl rfl ?_
      refine wq_bipush (n := 7) F dL_same_271 (by decide) rfl ?_
      refine wq_icmp_eq (tgt := 290) F dL_same_273 (by decide) rfl (fun hc => ?_) (fun hc => ?_)
      · replace h := wq_ift hc h
        exact wq_wid (k := cc + 0) (n := ss + 0) (by omega) (by omega) <| wq_lsub [some (.ref (b + 0)), some (.ref (b + 284)), none, some (.ref (b + 569)), some (.int (wq_I c4)), some (.int (wq_I c5)), some (.int (wq_I c6)), none, none, none, none, none, some (.int (wq_I c12)), some (.int (wq_I y13)), none] (by simp [wq_sub]) (tj_L_same_290 (cc := cc + 0) (ss := ss + 0) (c9 := c9) (s9 := s9) F K Kn hlt (by omega) (by omega) hE hF hkx hrec S h)
      · replace h := wq_iff hc h
        refine wq_iload F dL_same_276 rfl rfl ?_
        refine wq_bipush (n := 9) F dL_same_278 (by decide) rfl ?_
        refine wq_icmp_eq (tgt := 290) F dL_same_280 (by decide) rfl (fun hc => ?_) (fun hc => ?_)
        · replace h := wq_ift hc h
          exact wq_wid (k := cc + 0) (n := ss + 0) (by omega) (by omega) <| wq_lsub [some (.ref (b + 0)), some (.ref (b + 284)), none, some (.ref (b + 569)), some (.int (wq_I c4)), some (.int (wq_I c5)), some (.int (wq_I c6)), none, none, none, none, none, some (.int (wq_I c12)), some (.int (wq_I y13)), none] (by simp [wq_sub]) (tj_L_same_290 (cc := cc + 0) (ss := ss + 0) (c9 := c9) (s9 := s9) F K Kn hlt (by omega) (by omega) hE hF hkx hrec S h)
        · replace h := wq_iff hc h
          refine wq_iload F dL_same_283 rfl rfl ?_
          refine wq_bipush (n := 11) F dL_same_285 (by decide) rfl ?_
          refine wq_icmp_ne (tgt := 294) F dL_same_287 (by decide) rfl (fun hc => ?_) (fun hc => ?_)
          · replace h := wq_iff hc h
            refine wq_iconst (n := 0) F dL_same_294 rfl ?_
            exact wq_wid (k := cc + 0) (n := ss + 0) (by omega) (by omega) <| wq_lsub [some (.ref (b + 0)), some (.ref (b + 284)), none, some (.ref (b + 569)), some (.int (wq_I c4)), some (.int (wq_I c5)), some (.int (wq_I c6)), none, none, none, none, none, some (.int (wq_I c12)), some (.int (wq_I y13)), none] (by simp [wq_sub]) (tj_L_same_295 (cc := cc + 0) (ss := ss + 0) (c9 := c9) (s9 := s9) F K Kn hlt (by omega) (by omega) hE hF hkx hrec 0 S h)
          · replace h := wq_ift hc h
            exact wq_wid (k := cc + 0) (n := ss + 0) (by omega) (by omega) <| wq_lsub [some (.ref (b + 0)), some (.ref (b + 284)), none, some (.ref (b + 569)), some (.int (wq_I c4)), some (.int (wq_I c5)), some (.int (wq_I c6)), none, none, none, none, none, some (.int (wq_I c12)), some (.int (wq_I y13)), none] (by simp [wq_sub]) (tj_L_same_290 (cc := cc + 0) (ss := ss + 0) (c9 := c9) (s9 := s9) F K Kn hlt (by omega) (by omega) hE hF hkx hrec S h)
set_option maxHeartbeats 40000000 in
set_option maxRecDepth 100000 in
theorem tl_L_same_257 {p : Program} {l : Launch} {e : Env} {s : State} {m : MethodId} {args : Array Value} {below : List Frame} {meth : Method} {c : Code} {D : va_G} {Ar : Nat → ClassId} {b : Nat} (F : wq_Fr p s m args meth c cL_same 15 ((Option.some Jvm.ClassFile.FieldType.boolean)) "WharfQueryLaw" D Ar) (K : wq_Kx b 570 s) (Kn : wq_Nx s) (hlt : l.stackTraces = false) {cE sE : Nat} (hE : cE ≤ 60) (hF : sE ≤ 360) (hM : 28 ≤ cE) (hN : 168 ≤ sE) {r0 : Int} {S0 : wq_St} {c4 : Int} {c5 : Int} {c6 : Int} {c12 : Int} {kx : Int → wq_St → Option (Int × wq_St)} (hkx : ∀ (u9 : Int) (S : wq_St), kx u9 S = some (r0, S0) → wq_Z p l e (wq_rm 16 60 360) s m args below meth c D (wq_EL Ar b) b 570 15 (wq_AX b 570 s.heap.size) (wq_MX below D (wq_EL Ar b) b 570 0 (some (.int (wq_I r0))) S0 args s 60 360) cE sE 356 [some (.ref (b + 0)), some (.ref (b + 284)), none, some (.ref (b + 569)), some (.int (wq_I c4)), some (.int (wq_I c5)), none, none, none, some (.int (wq_I u9)), none, none, some (.int (wq_I c12)), none, none] [] S) : ∀ (n : Nat), n ≤ 14 → ∀ (y9 : Int) (y13 : Int) (S : wq_St), l_L_same_257 c4 c5 c6 c12 kx n y9 y13 S = some (r0, S0) → wq_Z p l e (wq_rm 16 60 360) s m args below meth c D (wq_EL Ar b) b 570 15 (wq_AX b 570 s.heap.size) (wq_MX below D (wq_EL Ar b) b 570 0 (some (.int (wq_I r0))) S0 args s 60 360) (cE - 2 * n) (sE - 12 * n) 257 [some (.ref (b + 0)), some (.ref (b + 284)), none, some (.ref (b + 569)), some (.int (wq_I c4)), some (.int (wq_I c5)), some (.int (wq_I c6)), none, none, some (.int (wq_I y9)), none, none, some (.int (wq_I c12)), some (.int (wq_I y13)), none] [] S
  | 0, _, y9, y13, S, h => absurd ((l_L_same_257_0 c4 c5 c6 c12 kx y9 y13 S).symm.trans h) (by simp)
  | n + 1, hn, y9, y13, S, h => tb_L_same_257 (cc := cE - 2 * (n + 1)) (ss := sE - 12 * (n + 1)) (c9 := cE - 2 * n) (s9 := sE - 12 * n) F K Kn hlt (by omega) (by omega) (by omega) (by omega) (fun u9 S9 h9 => wq_wid (by omega) (by omega) (hkx u9 S9 h9)) (fun y9 y13 S9 h9 => tl_L_same_257 F K Kn hlt hE hF hM hN hkx n (by omega) y9 y13 S9 h9) y9 y13 S ((l_L_same_257_s c4 c5 c6 c12 kx n y9 y13 S).symm.trans h)
set_option maxHeartbeats 40000000 in
set_option maxRecDepth 100000 in
theorem tj_L_same_445 {p : Program} {l : Launch} {e : Env} {s : State} {m : MethodId} {args : Array Value} {below : List Frame} {meth : Method} {c : Code} {D : va_G} {Ar : Nat → ClassId} {b : Nat} (F : wq_Fr p s m args meth c cL_same 15 ((Option.some Jvm.ClassFile.FieldType.boolean)) "WharfQueryLaw" D Ar) (K : wq_Kx b 570 s) (Kn : wq_Nx s) (hlt : l.stackTraces = false) {cc ss c9 s9 : Nat} (hC : cc + 8 ≤ c9) (hD : ss + 48 ≤ s9) (hE : c9 ≤ 60) (hF : s9 ≤ 360) {r0 : Int} {S0 : wq_St} {j4 : Int} {j12 : Int} (z0 : Int) (S : wq_St) (h : j_L_same_445 j4 j12 z0 S = some (r0, S0)) : wq_Z p l e (wq_rm 16 60 360) s m args below meth c D (wq_EL Ar b) b 570 15 (wq_AX b 570 s.heap.size) (wq_MX below D (wq_EL Ar b) b 570 0 (some (.int (wq_I r0))) S0 args s 60 360) cc ss 445 [some (.ref (b + 0)), some (.ref (b + 284)), none, none, some (.int (wq_I j4)), none, none, none, none, none, none, none, some (.int (wq_I j12)), none, none] [.int (wq_I z0)] S := by
  unfold j_L_same_445 at h
  refine wq_istore (L' := [some (.ref (b + 0)), some (.ref (b + 284)), none, none, some (.int (wq_I j4)), none, none, none, none, some (.int (wq_I z0)), none, none, some (.int (wq_I j12)), none, none]) F dL_same_445 (by decide) rfl rfl rfl ?_
  refine wq_iload F dL_same_447 rfl rfl ?_
  refine wq_if_eq (tgt := 506) F dL_same_449 (by decide) rfl (fun hc => ?_) (fun hc => ?_)
  · replace h := wq_ift hc h
    refine wq_iconst (n := 0) F dL_same_506 rfl ?_
    cases h
    exact wq_zretx F (by decide) rfl rfl rfl (by omega) (by omega) dL_same_507
  · replace h := wq_iff hc h
    refine wq_aload_n F dL_same_452 rfl rfl rfl ?_
    refine wq_iconst (n := 3) F dL_same_453 rfl ?_
    refine wq_iload F dL_same_454 rfl rfl ?_
    refine wq_iload F dL_same_456 rfl rfl ?_
    refine wq_iconst (n := 3) F dL_same_458 rfl ?_
    obtain ⟨hg, h⟩ := wq_gd_some h
    refine wq_irem (hy := hg) F dL_same_459 rfl ?_
    obtain ⟨r26, S27, h1r26, h⟩ := wq_bd_some h
    obtain ⟨S28, eS28, h⟩ := wq_lt_some h
    refine wq_callW (As := [.ref (b + 0), .int (wq_I 3), .int (wq_I j12), .int (wq_I (wq_rem j4 3))]) (mc := 2) (ms := 12) (n := 14) F K Kn lk_L_137 (wq_Cw_emb (o := 0) (ct_L_at hlt h1r26) (Nat.le_of_ble_eq_true rfl) wq_EL_a (wq_cls_at _)) ⟨(Nat.le_of_ble_eq_true rfl), (Nat.le_of_ble_eq_true rfl)⟩ ⟨by show cc + 0 + 2 ≤ 60; omega, by show ss + 0 + 12 ≤ 360; omega⟩ rfl rfl (Nat.le_of_ble_eq_true rfl) dL_same_460 rfl ?_
    refine wq_namS eS28 ?_
    refine wq_aload_n F dL_same_463 rfl rfl rfl ?_
    refine wq_iconst (n := 3) F dL_same_464 rfl ?_
    refine wq_iload F dL_same_465 rfl rfl ?_
    refine wq_iload F dL_same_467 rfl rfl ?_
    refine wq_iconst (n := 3) F dL_same_469 rfl ?_
    obtain ⟨hg, h⟩ := wq_gd_some h
    refine wq_irem (hy := hg) F dL_same_470 rfl ?_
    obtain ⟨r29, S30, h1r29, h⟩ := wq_bd_some h
    obtain ⟨S31, eS31, h⟩ := wq_lt_some h
    refine wq_callW (As := [.ref (b + 284), .int (wq_I 3), .int (wq_I j12), .int (wq_I (wq_rem j4 3))]) (mc := 2) (ms := 12) (n := 14) F K Kn lk_L_137 (wq_Cw_emb (o := 284) (ct_L_at hlt h1r29) (Nat.le_of_ble_eq_true rfl) wq_EL_b (wq_clt_at _)) ⟨(Nat.le_of_ble_eq_true rfl), (Nat.le_of_ble_eq_true rfl)⟩ ⟨by show cc + 2 + 2 ≤ 60; omega, by show ss + 12 + 12 ≤ 360; omega⟩ rfl rfl (Nat.le_of_ble_eq_true rfl) dL_same_471 rfl ?_
    refine wq_namS eS31 ?_
    refine wq_icmp_ne (tgt := 506) F dL_same_474 (by decide) rfl (fun hc => ?_) (fun hc => ?_)
    · replace h := wq_iff hc h
      refine wq_iconst (n := 0) F dL_same_506 rfl ?_
      cases h
      exact wq_zretx F (by decide) rfl rfl rfl (by omega) (by omega) dL_same_507
    · replace h := wq_ift hc h
      refine wq_aload_n F dL_same_477 rfl rfl rfl ?_
      refine wq_iconst (n := 4) F dL_same_478 rfl ?_
      refine wq_iload F dL_same_479 rfl rfl ?_
      refine wq_iload F dL_same_481 rfl rfl ?_
      refine wq_iconst (n := 3) F dL_same_483 rfl ?_
      obtain ⟨hg, h⟩ := wq_gd_some h
      refine wq_irem (hy := hg) F dL_same_484 rfl ?_
      obtain ⟨r32, S33, h1r32, h⟩ := wq_bd_some h
      obtain ⟨S34, eS34, h⟩ := wq_lt_some h
      refine wq_callW (As := [.ref (b + 0), .int (wq_I 4), .int (wq_I j12), .int (wq_I (wq_rem j4 3))]) (mc := 2) (ms := 12) (n := 14) F K Kn lk_L_137 (wq_Cw_emb (o := 0) (ct_L_at hlt h1r32) (Nat.le_of_ble_eq_true rfl) wq_EL_a (wq_cls_at _)) ⟨(Nat.le_of_ble_eq_true rfl), (Nat.le_of_ble_eq_true rfl)⟩ ⟨by show cc + 4 + 2 ≤ 60; omega, by show ss + 24 + 12 ≤ 360; omega⟩ rfl rfl (Nat.le_of_ble_eq_true rfl) dL_same_485 rfl ?_
      refine wq_namS eS34 ?_
      refine wq_aload_n F dL_same_488 rfl rfl rfl ?_
      refine wq_iconst (n := 4) F dL_same_489 rfl ?_
      refine wq_iload F dL_same_490 rfl rfl ?_
      refine wq_iload F dL_same_492 rfl rfl ?_
      refine wq_iconst (n := 3) F dL_same_494 rfl ?_
      obtain ⟨hg, h⟩ := wq_gd_some h
      refine wq_irem (hy := hg) F dL_same_495 rfl ?_
      obtain ⟨r35, S36, h1r35, h⟩ := wq_bd_some h
      obtain ⟨S37, eS37, h⟩ := wq_lt_some h
      refine wq_callW (As := [.ref (b + 284), .int (wq_I 4), .int (wq_I j12), .int (wq_I (wq_rem j4 3))]) (mc := 2) (ms := 12) (n := 14) F K Kn lk_L_137 (wq_Cw_emb (o := 284) (ct_L_at hlt h1r35) (Nat.le_of_ble_eq_true rfl) wq_EL_b (wq_clt_at _)) ⟨(Nat.le_of_ble_eq_true rfl), (Nat.le_of_ble_eq_true rfl)⟩ ⟨by show cc + 6 + 2 ≤ 60; omega, by show ss + 36 + 12 ≤ 360; omega⟩ rfl rfl (Nat.le_of_ble_eq_true rfl) dL_same_496 rfl ?_
      refine wq_namS eS37 ?_
      refine wq_icmp_ne (tgt := 506) F dL_same_499 (by decide) rfl (fun hc => ?_) (fun hc => ?_)
      · replace h := wq_iff hc h
        refine wq_iconst (n := 0) F dL_same_506 rfl ?_
        cases h
        exact wq_zretx F (by decide) rfl rfl rfl (by omega) (by omega) dL_same_507
      · replace h := wq_ift hc h
        refine wq_iconst (n := 1) F dL_same_502 rfl ?_
        refine wq_goto (tgt := 507) F dL_same_503 (by decide) ?_
        cases h
        exact wq_zretx F (by decide) rfl rfl rfl (by omega) (by omega) dL_same_507
set_option maxHeartbeats 40000000 in
set_option maxRecDepth 100000 in
theorem tj_L_same_444 {p : Program} {l : Launch} {e : Env} {s : State} {m : MethodId} {args : Array Value} {below : List Frame} {meth : Method} {c : Code} {D : va_G} {Ar : Nat → ClassId} {b : Nat} (F : wq_Fr p s m args meth c cL_same 15 ((Option.some Jvm.ClassFile.FieldType.boolean)) "WharfQueryLaw" D Ar) (K : wq_Kx b 570 s) (Kn : wq_Nx s) (hlt : l.stackTraces = false) {cc ss c9 s9 : Nat} (hC : cc + 8 ≤ c9) (hD : ss + 48 ≤ s9) (hE : c9 ≤ 60) (hF : s9 ≤ 360) {r0 : Int} {S0 : wq_St} {j4 : Int} {j12 : Int} (S : wq_St) (h : j_L_same_444 j4 j12 S = some (r0, S0)) : wq_Z p l e (wq_rm 16 60 360) s m args below meth c D (wq_EL Ar b) b 570 15 (wq_AX b 570 s.heap.size) (wq_MX below D (wq_EL Ar b) b 570 0 (some (.int (wq_I r0))) S0 args s 60 360) cc ss 444 [some (.ref (b + 0)), some (.ref (b + 284)), none, none, some (.int (wq_I j4)), none, none, none, none, none, none, none, some (.int (wq_I j12)), none, none] [] S := by
  unfold j_L_same_444 at h
  refine wq_iconst (n := 0) F dL_same_444 rfl ?_
  exact wq_wid (k := cc + 0) (n := ss + 0) (by omega) (by omega) <| wq_lsub [some (.ref (b + 0)), some (.ref (b + 284)), none, none, some (.int (wq_I j4)), none, none, none, none, none, none, none, some (.int (wq_I j12)), none, none] (by simp [wq_sub]) (tj_L_same_445 (cc := cc + 0) (ss := ss + 0) (c9 := c9) (s9 := s9) F K Kn hlt (by omega) (by omega) hE hF 0 S h)
set_option maxHeartbeats 40000000 in
set_option maxRecDepth 100000 in
theorem tj_L_same_440 {p : Program} {l : Launch} {e : Env} {s : State} {m : MethodId} {args : Array Value} {below : List Frame} {meth : Method} {c : Code} {D : va_G} {Ar : Nat → ClassId} {b : Nat} (F : wq_Fr p s m args meth c cL_same 15 ((Option.some Jvm.ClassFile.FieldType.boolean)) "WharfQueryLaw" D Ar) (K : wq_Kx b 570 s) (Kn : wq_Nx s) (hlt : l.stackTraces = false) {cc ss c9 s9 : Nat} (hC : cc + 8 ≤ c9) (hD : ss + 48 ≤ s9) (hE : c9 ≤ 60) (hF : s9 ≤ 360) {r0 : Int} {S0 : wq_St} {j4 : Int} {j12 : Int} (S : wq_St) (h : j_L_same_440 j4 j12 S = some (r0, S0)) : wq_Z p l e (wq_rm 16 60 360) s m args below meth c D (wq_EL Ar b) b 570 15 (wq_AX b 570 s.heap.size) (wq_MX below D (wq_EL Ar b) b 570 0 (some (.int (wq_I r0))) S0 args s 60 360) cc ss 440 [some (.ref (b + 0)), some (.ref (b + 284)), none, none, some (.int (wq_I j4)), none, none, none, none, none, none, none, some (.int (wq_I j12)), none, none] [] S := by
  unfold j_L_same_440 at h
  refine wq_iconst (n := 1) F dL_same_440 rfl ?_
  refine wq_goto (tgt := 445) F dL_same_441 (by decide) ?_
  exact wq_wid (k := cc + 0) (n := ss + 0) (by omega) (by omega) <| wq_lsub [some (.ref (b + 0)), some (.ref (b + 284)), none, none, some (.int (wq_I j4)), none, none, none, none, none, none, none, some (.int (wq_I j12)), none, none] (by simp [wq_sub]) (tj_L_same_445 (cc := cc + 0) (ss := ss + 0) (c9 := c9) (s9 := s9) F K Kn hlt (by omega) (by omega) hE hF 1 S h)
set_option maxHeartbeats 40000000 in
set_option maxRecDepth 100000 in
theorem tj_L_same_383 {p : Program} {l : Launch} {e : Env} {s : State} {m : MethodId} {args : Array Value} {below : List Frame} {meth : Method} {c : Code} {D : va_G} {Ar : Nat → ClassId} {b : Nat} (F : wq_Fr p s m args meth c cL_same 15 ((Option.some Jvm.ClassFile.FieldType.boolean)) "WharfQueryLaw" D Ar) (K : wq_Kx b 570 s) (Kn : wq_Nx s) (hlt : l.stackTraces = false) {cc ss c9 s9 : Nat} (hC : cc + 12 ≤ c9) (hD : ss + 72 ≤ s9) (hE : c9 ≤ 60) (hF : s9 ≤ 360) {r0 : Int} {S0 : wq_St} {j4 : Int} {j9 : Int} {j12 : Int} (z0 : Int) (S : wq_St) (h : j_L_same_383 j4 j9 j12 z0 S = some (r0, S0)) : wq_Z p l e (wq_rm 16 60 360) s m args below meth c D (wq_EL Ar b) b 570 15 (wq_AX b 570 s.heap.size) (wq_MX below D (wq_EL Ar b) b 570 0 (some (.int (wq_I r0))) S0 args s 60 360) cc ss 383 [some (.ref (b + 0)), some (.ref (b + 284)), none, some (.ref (b + 569)), some (.int (wq_I j4)), none, none, none, none, some (.int (wq_I j9)), none, none, some (.int (wq_I j12)), none, none] [.int (wq_I z0)] S := by
  unfold j_L_same_383 at h
  refine wq_istore (L' := [some (.ref (b + 0)), some (.ref (b + 284)), none, some (.ref (b + 569)), some (.int (wq_I j4)), none, none, none, none, some (.int (wq_I j9)), none, none, some (.int (wq_I j12)), some (.int (wq_I z0)), none]) F dL_same_383 (by decide) rfl rfl rfl ?_
  refine wq_iload F dL_same_385 rfl rfl ?_
  refine wq_if_eq (tgt := 444) F dL_same_387 (by decide) rfl (fun hc => ?_) (fun hc => ?_)
  · replace h := wq_ift hc h
    exact wq_wid (k := cc + 0) (n := ss + 0) (by omega) (by omega) <| wq_lsub [some (.ref (b + 0)), some (.ref (b + 284)), none, none, some (.int (wq_I j4)), none, none, none, none, none, none, none, some (.int (wq_I j12)), none, none] (by simp [wq_sub]) (tj_L_same_444 (cc := cc + 0) (ss := ss + 0) (c9 := c9) (s9 := s9) F K Kn hlt (by omega) (by omega) hE hF S h)
  · replace h := wq_iff hc h
    refine wq_aload_n F dL_same_390 rfl rfl rfl ?_
    refine wq_iconst (n := 0) F dL_same_391 rfl ?_
    obtain ⟨t38, ht38, wt38, h⟩ := wq_ix_some h
    refine wq_iald F (Nat.le_of_ble_eq_true rfl) wq_EL_cnt ht38 wt38 dL_same_392 rfl ?_
    refine wq_if_eq (tgt := 440) F dL_same_393 (by decide) rfl (fun hc => ?_) (fun hc => ?_)
    · replace h := wq_ift hc h
      exact wq_wid (k := cc + 0) (n := ss + 0) (by omega) (by omega) <| wq_lsub [some (.ref (b + 0)), some (.ref (b + 284)), none, none, some (.int (wq_I j4)), none, none, none, none, none, none, none, some (.int (wq_I j12)), none, none] (by simp [wq_sub]) (tj_L_same_440 (cc := cc + 0) (ss := ss + 0) (c9 := c9) (s9 := s9) F K Kn hlt (by omega) (by omega) hE hF S h)
    · replace h := wq_iff hc h
      refine wq_aload_n F dL_same_396 rfl rfl rfl ?_
      refine wq_bipush (n := 7) F dL_same_397 (by decide) rfl ?_
      refine wq_iload F dL_same_399 rfl rfl ?_
      obtain ⟨r39, S40, h1r39, h⟩ := wq_bd_some h
      obtain ⟨S41, eS41, h⟩ := wq_lt_some h
      refine wq_callW (As := [.ref (b + 284), .int (wq_I 7), .int (wq_I j12)]) (mc := 1) (ms := 6) (n := 15) F K Kn lk_L_145 (wq_Cw_emb (o := 284) (ct_L_of hlt h1r39) (Nat.le_of_ble_eq_true rfl) wq_EL_b (wq_clt_at _)) ⟨(Nat.le_of_ble_eq_true rfl), (Nat.le_of_ble_eq_true rfl)⟩ ⟨by show cc + 0 + 1 ≤ 60; omega, by show ss + 0 + 6 ≤ 360; omega⟩ rfl rfl (Nat.le_of_ble_eq_true rfl) dL_same_401 rfl ?_
      refine wq_namS eS41 ?_
      refine wq_aload_n F dL_same_404 rfl rfl rfl ?_
      refine wq_bipush (n := 7) F dL_same_405 (by decide) rfl ?_
      refine wq_iload F dL_same_407 rfl rfl ?_
      obtain ⟨r42, S43, h1r42, h⟩ := wq_bd_some h
      obtain ⟨S44, eS44, h⟩ := wq_lt_some h
      refine wq_callW (As := [.ref (b + 0), .int (wq_I 7), .int (wq_I j12)]) (mc := 1) (ms := 6) (n := 15) F K Kn lk_L_145 (wq_Cw_emb (o := 0) (ct_L_of hlt h1r42) (Nat.le_of_ble_eq_true rfl) wq_EL_a (wq_cls_at _)) ⟨(Nat.le_of_ble_eq_true rfl), (Nat.le_of_ble_eq_true rfl)⟩ ⟨by show cc + 1 + 1 ≤ 60; omega, by show ss + 6 + 6 ≤ 360; omega⟩ rfl rfl (Nat.le_of_ble_eq_true rfl) dL_same_409 rfl ?_
      refine wq_namS eS44 ?_
      refine wq_iload F dL_same_412 rfl rfl ?_
      refine wq_iadd F dL_same_414 rfl ?_
      refine wq_icmp_ne (tgt := 444) F dL_same_415 (by decide) rfl (fun hc => ?_) (fun hc => ?_)
      · replace h := wq_iff hc h
        exact wq_wid (k := cc + 2) (n := ss + 12) (by omega) (by omega) <| wq_lsub [some (.ref (b + 0)), some (.ref (b + 284)), none, none, some (.int (wq_I j4)), none, none, none, none, none, none, none, some (.int (wq_I j12)), none, none] (by simp [wq_sub]) (tj_L_same_444 (cc := cc + 2) (ss := ss + 12) (c9 := c9) (s9 := s9) F K Kn hlt (by omega) (by omega) hE hF S44 h)
      · replace h := wq_ift hc h
        refine wq_aload_n F dL_same_418 rfl rfl rfl ?_
        refine wq_bipush (n := 9) F dL_same_419 (by decide) rfl ?_
        refine wq_iload F dL_same_421 rfl rfl ?_
        obtain ⟨r45, S46, h1r45, h⟩ := wq_bd_some h
        obtain ⟨S47, eS47, h⟩ := wq_lt_some h
        refine wq_callW (As := [.ref (b + 284), .int (wq_I 9), .int (wq_I j12)]) (mc := 1) (ms := 6) (n := 15) F K Kn lk_L_145 (wq_Cw_emb (o := 284) (ct_L_of hlt h1r45) (Nat.le_of_ble_eq_true rfl) wq_EL_b (wq_clt_at _)) ⟨(Nat.le_of_ble_eq_true rfl), (Nat.le_of_ble_eq_true rfl)⟩ ⟨by show cc + 2 + 1 ≤ 60; omega, by show ss + 12 + 6 ≤ 360; omega⟩ rfl rfl (Nat.le_of_ble_eq_true rfl) dL_same_423 rfl ?_
        refine wq_namS eS47 ?_
        refine wq_aload_n F dL_same_426 rfl rfl rfl ?_
        refine wq_bipush (n := 9) F dL_same_427 (by decide) rfl ?_
        refine wq_iload F dL_same_429 rfl rfl ?_
        obtain ⟨r48, S49, h1r48, h⟩ := wq_bd_some h
        obtain ⟨S50, eS50, h⟩ := wq_lt_some h
        refine wq_callW (As := [.ref (b + 0), .int (wq_I 9), .int (wq_I j12)]) (mc := 1) (ms := 6) (n := 15) F K Kn lk_L_145 (wq_Cw_emb (o := 0) (ct_L_of hlt h1r48) (Nat.le_of_ble_eq_true rfl) wq_EL_a (wq_cls_at _)) ⟨(Nat.le_of_ble_eq_true rfl), (Nat.le_of_ble_eq_true rfl)⟩ ⟨by show cc + 3 + 1 ≤ 60; omega, by show ss + 18 + 6 ≤ 360; omega⟩ rfl rfl (Nat.le_of_ble_eq_true rfl) dL_same_431 rfl ?_
        refine wq_namS eS50 ?_
        refine wq_iload F dL_same_434 rfl rfl ?_
        refine wq_iadd F dL_same_436 rfl ?_
        refine wq_icmp_ne (tgt := 444) F dL_same_437 (by decide) rfl (fun hc => ?_) (fun hc => ?_)
        · replace h := wq_iff hc h
          exact wq_wid (k := cc + 4) (n := ss + 24) (by omega) (by omega) <| wq_lsub [some (.ref (b + 0)), some (.ref (b + 284)), none, none, some (.int (wq_I j4)), none, none, none, none, none, none, none, some (.int (wq_I j12)), none, none] (by simp [wq_sub]) (tj_L_same_444 (cc := cc + 4) (ss := ss + 24) (c9 := c9) (s9 := s9) F K Kn hlt (by omega) (by omega) hE hF S50 h)
        · replace h := wq_ift hc h
          exact wq_wid (k := cc + 4) (n := ss + 24) (by omega) (by omega) <| wq_lsub [some (.ref (b + 0)), some (.ref (b + 284)), none, none, some (.int (wq_I j4)), none, none, none, none, none, none, none, some (.int (wq_I j12)), none, none] (by simp [wq_sub]) (tj_L_same_440 (cc := cc + 4) (ss := ss + 24) (c9 := c9) (s9 := s9) F K Kn hlt (by omega) (by omega) hE hF S50 h)
set_option maxHeartbeats 40000000 in
set_option maxRecDepth 100000 in
theorem tj_L_same_356 {p : Program} {l : Launch} {e : Env} {s : State} {m : MethodId} {args : Array Value} {below : List Frame} {meth : Method} {c : Code} {D : va_G} {Ar : Nat → ClassId} {b : Nat} (F : wq_Fr p s m args meth c cL_same 15 ((Option.some Jvm.ClassFile.FieldType.boolean)) "WharfQueryLaw" D Ar) (K : wq_Kx b 570 s) (Kn : wq_Nx s) (hlt : l.stackTraces = false) {cc ss c9 s9 : Nat} (hC : cc + 13 ≤ c9) (hD : ss + 78 ≤ s9) (hE : c9 ≤ 60) (hF : s9 ≤ 360) {r0 : Int} {S0 : wq_St} {j4 : Int} {j5 : Int} {j9 : Int} {j12 : Int} (S : wq_St) (h : j_L_same_356 j4 j5 j9 j12 S = some (r0, S0)) : wq_Z p l e (wq_rm 16 60 360) s m args below meth c D (wq_EL Ar b) b 570 15 (wq_AX b 570 s.heap.size) (wq_MX below D (wq_EL Ar b) b 570 0 (some (.int (wq_I r0))) S0 args s 60 360) cc ss 356 [some (.ref (b + 0)), some (.ref (b + 284)), none, some (.ref (b + 569)), some (.int (wq_I j4)), some (.int (wq_I j5)), none, none, none, some (.int (wq_I j9)), none, none, some (.int (wq_I j12)), none, none] [] S := by
  unfold j_L_same_356 at h
  refine wq_aload_n F dL_same_356 rfl rfl rfl ?_
  refine wq_iconst (n := 1) F dL_same_357 rfl ?_
  obtain ⟨t25, ht25, wt25, h⟩ := wq_ix_some h
  refine wq_iald F (Nat.le_of_ble_eq_true rfl) wq_EL_cnt ht25 wt25 dL_same_358 rfl ?_
  refine wq_iload F dL_same_359 rfl rfl ?_
  refine wq_ishr F dL_same_361 rfl ?_
  refine wq_iconst (n := 1) F dL_same_362 rfl ?_
  refine wq_iand F dL_same_363 rfl ?_
  refine wq_iconst (n := 1) F dL_same_364 rfl ?_
  refine wq_icmp_ne (tgt := 382) F dL_same_365 (by decide) rfl (fun hc => ?_) (fun hc => ?_)
  · replace h := wq_iff hc h
    refine wq_iconst (n := 0) F dL_same_382 rfl ?_
    exact wq_wid (k := cc + 0) (n := ss + 0) (by omega) (by omega) <| wq_lsub [some (.ref (b + 0)), some (.ref (b + 284)), none, some (.ref (b + 569)), some (.int (wq_I j4)), none, none, none, none, some (.int (wq_I j9)), none, none, some (.int (wq_I j12)), none, none] (by simp [wq_sub]) (tj_L_same_383 (cc := cc + 0) (ss := ss + 0) (c9 := c9) (s9 := s9) F K Kn hlt (by omega) (by omega) hE hF 0 S h)
  · replace h := wq_ift hc h
    refine wq_iload F dL_same_368 rfl rfl ?_
    refine wq_aload_n F dL_same_370 rfl rfl rfl ?_
    refine wq_bipush (n := 6) F dL_same_371 (by decide) rfl ?_
    refine wq_iload F dL_same_373 rfl rfl ?_
    obtain ⟨r51, S52, h1r51, h⟩ := wq_bd_some h
    obtain ⟨S53, eS53, h⟩ := wq_lt_some h
    refine wq_callW (As := [.ref (b + 0), .int (wq_I 6), .int (wq_I j12)]) (mc := 1) (ms := 6) (n := 15) F K Kn lk_L_145 (wq_Cw_emb (o := 0) (ct_L_of hlt h1r51) (Nat.le_of_ble_eq_true rfl) wq_EL_a (wq_cls_at _)) ⟨(Nat.le_of_ble_eq_true rfl), (Nat.le_of_ble_eq_true rfl)⟩ ⟨by show cc + 0 + 1 ≤ 60; omega, by show ss + 0 + 6 ≤ 360; omega⟩ rfl rfl (Nat.le_of_ble_eq_true rfl) dL_same_375 rfl ?_
    refine wq_namS eS53 ?_
    refine wq_imul F dL_same_378 rfl ?_
    refine wq_goto (tgt := 383) F dL_same_379 (by decide) ?_
    exact wq_wid (k := cc + 1) (n := ss + 6) (by omega) (by omega) <| wq_lsub [some (.ref (b + 0)), some (.ref (b + 284)), none, some (.ref (b + 569)), some (.int (wq_I j4)), none, none, none, none, some (.int (wq_I j9)), none, none, some (.int (wq_I j12)), none, none] (by simp [wq_sub]) (tj_L_same_383 (cc := cc + 1) (ss := ss + 6) (c9 := c9) (s9 := s9) F K Kn hlt (by omega) (by omega) hE hF (j5 * r51) S53 h)
set_option maxHeartbeats 40000000 in
set_option maxRecDepth 100000 in
theorem tj_L_same_252 {p : Program} {l : Launch} {e : Env} {s : State} {m : MethodId} {args : Array Value} {below : List Frame} {meth : Method} {c : Code} {D : va_G} {Ar : Nat → ClassId} {b : Nat} (F : wq_Fr p s m args meth c cL_same 15 ((Option.some Jvm.ClassFile.FieldType.boolean)) "WharfQueryLaw" D Ar) (K : wq_Kx b 570 s) (Kn : wq_Nx s) (hlt : l.stackTraces = false) {cc ss c9 s9 : Nat} (hC : cc + 41 ≤ c9) (hD : ss + 246 ≤ s9) (hE : c9 ≤ 60) (hF : s9 ≤ 360) {r0 : Int} {S0 : wq_St} {j4 : Int} {j5 : Int} {j6 : Int} {j9 : Int} (z0 : Int) (S : wq_St) (h : j_L_same_252 j4 j5 j6 j9 z0 S = some (r0, S0)) : wq_Z p l e (wq_rm 16 60 360) s m args below meth c D (wq_EL Ar b) b 570 15 (wq_AX b 570 s.heap.size) (wq_MX below D (wq_EL Ar b) b 570 0 (some (.int (wq_I r0))) S0 args s 60 360) cc ss 252 [some (.ref (b + 0)), some (.ref (b + 284)), none, some (.ref (b + 569)), some (.int (wq_I j4)), some (.int (wq_I j5)), some (.int (wq_I j6)), none, none, some (.int (wq_I j9)), none, none, none, none, none] [.int (wq_I z0)] S := by
  unfold j_L_same_252 at h
  refine wq_istore (L' := [some (.ref (b + 0)), some (.ref (b + 284)), none, some (.ref (b + 569)), some (.int (wq_I j4)), some (.int (wq_I j5)), some (.int (wq_I j6)), none, none, some (.int (wq_I j9)), none, none, some (.int (wq_I z0)), none, none]) F dL_same_252 (by decide) rfl rfl rfl ?_
  refine wq_iconst (n := 0) F dL_same_254 rfl ?_
  refine wq_istore (L' := [some (.ref (b + 0)), some (.ref (b + 284)), none, some (.ref (b + 569)), some (.int (wq_I j4)), some (.int (wq_I j5)), some (.int (wq_I j6)), none, none, some (.int (wq_I j9)), none, none, some (.int (wq_I z0)), some (.int (wq_I 0)), none]) F dL_same_255 (by decide) rfl rfl rfl ?_
  refine wq_wid (k := cc + 0 + 28 - 2 * 14) (n := ss + 0 + 168 - 12 * 14) (by omega) (by omega) <| wq_lsub [some (.ref (b + 0)), some (.ref (b + 284)), none, some (.ref (b + 569)), some (.int (wq_I j4)), some (.int (wq_I j5)), some (.int (wq_I j6)), none, none, some (.int (wq_I j9)), none, none, some (.int (wq_I z0)), some (.int (wq_I 0)), none] (by simp [wq_sub]) (tl_L_same_257 (cE := cc + 0 + 28) (sE := ss + 0 + 168) F K Kn hlt (by omega) (by omega) (by omega) (by omega) (fun u23 S24 h => ?_) 14 (Nat.le_refl _) j9 0 S h)
  exact wq_wid (k := cc + 28) (n := ss + 168) (by omega) (by omega) <| wq_lsub [some (.ref (b + 0)), some (.ref (b + 284)), none, some (.ref (b + 569)), some (.int (wq_I j4)), some (.int (wq_I j5)), none, none, none, some (.int (wq_I u23)), none, none, some (.int (wq_I z0)), none, none] (by simp [wq_sub]) (tj_L_same_356 (cc := cc + 28) (ss := ss + 168) (c9 := c9) (s9 := s9) F K Kn hlt (by omega) (by omega) hE hF S24 h)
set_option maxHeartbeats 40000000 in
set_option maxRecDepth 100000 in
theorem tj_L_same_232 {p : Program} {l : Launch} {e : Env} {s : State} {m : MethodId} {args : Array Value} {below : List Frame} {meth : Method} {c : Code} {D : va_G} {Ar : Nat → ClassId} {b : Nat} (F : wq_Fr p s m args meth c cL_same 15 ((Option.some Jvm.ClassFile.FieldType.boolean)) "WharfQueryLaw" D Ar) (K : wq_Kx b 570 s) (Kn : wq_Nx s) (hlt : l.stackTraces = false) {cc ss c9 s9 : Nat} (hC : cc + 41 ≤ c9) (hD : ss + 246 ≤ s9) (hE : c9 ≤ 60) (hF : s9 ≤ 360) {r0 : Int} {S0 : wq_St} {j4 : Int} {j5 : Int} {j6 : Int} (z0 : Int) (S : wq_St) (h : j_L_same_232 j4 j5 j6 z0 S = some (r0, S0)) : wq_Z p l e (wq_rm 16 60 360) s m args below meth c D (wq_EL Ar b) b 570 15 (wq_AX b 570 s.heap.size) (wq_MX below D (wq_EL Ar b) b 570 0 (some (.int (wq_I r0))) S0 args s 60 360) cc ss 232 [some (.ref (b + 0)), some (.ref (b + 284)), none, some (.ref (b + 569)), some (.int (wq_I j4)), some (.int (wq_I j5)), some (.int (wq_I j6)), none, none, none, none, none, none, none, none] [.int (wq_I z0)] S := by
  unfold j_L_same_232 at h
  refine wq_istore (L' := [some (.ref (b + 0)), some (.ref (b + 284)), none, some (.ref (b + 569)), some (.int (wq_I j4)), some (.int (wq_I j5)), some (.int (wq_I j6)), none, none, some (.int (wq_I z0)), none, none, none, none, none]) F dL_same_232 (by decide) rfl rfl rfl ?_
  refine wq_aload_n F dL_same_234 rfl rfl rfl ?_
  refine wq_iconst (n := 0) F dL_same_235 rfl ?_
  obtain ⟨t15, ht15, wt15, h⟩ := wq_ix_some h
  refine wq_iald F (Nat.le_of_ble_eq_true rfl) wq_EL_cnt ht15 wt15 dL_same_236 rfl ?_
  refine wq_if_ne (tgt := 244) F dL_same_237 (by decide) rfl (fun hc => ?_) (fun hc => ?_)
  · replace h := wq_iff hc h
    refine wq_iload F dL_same_244 rfl rfl ?_
    refine wq_iconst (n := 5) F dL_same_246 rfl ?_
    obtain ⟨hg, h⟩ := wq_gd_some h
    refine wq_idiv (hy := hg) F dL_same_247 rfl ?_
    refine wq_aload_n F dL_same_248 rfl rfl rfl ?_
    refine wq_iconst (n := 0) F dL_same_249 rfl ?_
    obtain ⟨t16, ht16, wt16, h⟩ := wq_ix_some h
    refine wq_iald F (Nat.le_of_ble_eq_true rfl) wq_EL_cnt ht16 wt16 dL_same_250 rfl ?_
    obtain ⟨hg, h⟩ := wq_gd_some h
    refine wq_irem (hy := hg) F dL_same_251 rfl ?_
    exact wq_wid (k := cc + 0) (n := ss + 0) (by omega) (by omega) <| wq_lsub [some (.ref (b + 0)), some (.ref (b + 284)), none, some (.ref (b + 569)), some (.int (wq_I j4)), some (.int (wq_I j5)), some (.int (wq_I j6)), none, none, some (.int (wq_I z0)), none, none, none, none, none] (by simp [wq_sub]) (tj_L_same_252 (cc := cc + 0) (ss := ss + 0) (c9 := c9) (s9 := s9) F K Kn hlt (by omega) (by omega) hE hF (wq_rem (wq_div j4 5) (S 569 t16)) S h)
  · replace h := wq_ift hc h
    refine wq_iconst (n := 0) F dL_same_240 rfl ?_
    refine wq_goto (tgt := 252) F dL_same_241 (by decide) ?_
    exact wq_wid (k := cc + 0) (n := ss + 0) (by omega) (by omega) <| wq_lsub [some (.ref (b + 0)), some (.ref (b + 284)), none, some (.ref (b + 569)), some (.int (wq_I j4)), some (.int (wq_I j5)), some (.int (wq_I j6)), none, none, some (.int (wq_I z0)), none, none, none, none, none] (by simp [wq_sub]) (tj_L_same_252 (cc := cc + 0) (ss := ss + 0) (c9 := c9) (s9 := s9) F K Kn hlt (by omega) (by omega) hE hF 0 S h)
set_option maxHeartbeats 40000000 in
set_option maxRecDepth 100000 in
theorem tj_L_same_231 {p : Program} {l : Launch} {e : Env} {s : State} {m : MethodId} {args : Array Value} {below : List Frame} {meth : Method} {c : Code} {D : va_G} {Ar : Nat → ClassId} {b : Nat} (F : wq_Fr p s m args meth c cL_same 15 ((Option.some Jvm.ClassFile.FieldType.boolean)) "WharfQueryLaw" D Ar) (K : wq_Kx b 570 s) (Kn : wq_Nx s) (hlt : l.stackTraces = false) {cc ss c9 s9 : Nat} (hC : cc + 41 ≤ c9) (hD : ss + 246 ≤ s9) (hE : c9 ≤ 60) (hF : s9 ≤ 360) {r0 : Int} {S0 : wq_St} {j4 : Int} {j5 : Int} {j6 : Int} (S : wq_St) (h : j_L_same_231 j4 j5 j6 S = some (r0, S0)) : wq_Z p l e (wq_rm 16 60 360) s m args below meth c D (wq_EL Ar b) b 570 15 (wq_AX b 570 s.heap.size) (wq_MX below D (wq_EL Ar b) b 570 0 (some (.int (wq_I r0))) S0 args s 60 360) cc ss 231 [some (.ref (b + 0)), some (.ref (b + 284)), none, some (.ref (b + 569)), some (.int (wq_I j4)), some (.int (wq_I j5)), some (.int (wq_I j6)), none, none, none, none, none, none, none, none] [] S := by
  unfold j_L_same_231 at h
  refine wq_iconst (n := 0) F dL_same_231 rfl ?_
  exact wq_wid (k := cc + 0) (n := ss + 0) (by omega) (by omega) <| wq_lsub [some (.ref (b + 0)), some (.ref (b + 284)), none, some (.ref (b + 569)), some (.int (wq_I j4)), some (.int (wq_I j5)), some (.int (wq_I j6)), none, none, none, none, none, none, none, none] (by simp [wq_sub]) (tj_L_same_232 (cc := cc + 0) (ss := ss + 0) (c9 := c9) (s9 := s9) F K Kn hlt (by omega) (by omega) hE hF 0 S h)
set_option maxHeartbeats 40000000 in
set_option maxRecDepth 100000 in
theorem tj_L_same_224 {p : Program} {l : Launch} {e : Env} {s : State} {m : MethodId} {args : Array Value} {below : List Frame} {meth : Method} {c : Code} {D : va_G} {Ar : Nat → ClassId} {b : Nat} (F : wq_Fr p s m args meth c cL_same 15 ((Option.some Jvm.ClassFile.FieldType.boolean)) "WharfQueryLaw" D Ar) (K : wq_Kx b 570 s) (Kn : wq_Nx s) (hlt : l.stackTraces = false) {cc ss c9 s9 : Nat} (hC : cc + 41 ≤ c9) (hD : ss + 246 ≤ s9) (hE : c9 ≤ 60) (hF : s9 ≤ 360) {r0 : Int} {S0 : wq_St} {j4 : Int} {j5 : Int} {j6 : Int} (z0 : Int) (z1 : Int) (S : wq_St) (h : j_L_same_224 j4 j5 j6 z0 z1 S = some (r0, S0)) : wq_Z p l e (wq_rm 16 60 360) s m args below meth c D (wq_EL Ar b) b 570 15 (wq_AX b 570 s.heap.size) (wq_MX below D (wq_EL Ar b) b 570 0 (some (.int (wq_I r0))) S0 args s 60 360) cc ss 224 [some (.ref (b + 0)), some (.ref (b + 284)), none, some (.ref (b + 569)), some (.int (wq_I j4)), some (.int (wq_I j5)), some (.int (wq_I j6)), none, none, none, none, none, none, none, none] [.int (wq_I z0), .int (wq_I z1)] S := by
  unfold j_L_same_224 at h
  refine wq_icmp_ne (tgt := 231) F dL_same_224 (by decide) rfl (fun hc => ?_) (fun hc => ?_)
  · replace h := wq_iff hc h
    exact wq_wid (k := cc + 0) (n := ss + 0) (by omega) (by omega) <| wq_lsub [some (.ref (b + 0)), some (.ref (b + 284)), none, some (.ref (b + 569)), some (.int (wq_I j4)), some (.int (wq_I j5)), some (.int (wq_I j6)), none, none, none, none, none, none, none, none] (by simp [wq_sub]) (tj_L_same_231 (cc := cc + 0) (ss := ss + 0) (c9 := c9) (s9 := s9) F K Kn hlt (by omega) (by omega) hE hF S h)
  · replace h := wq_ift hc h
    refine wq_iconst (n := 1) F dL_same_227 rfl ?_
    refine wq_goto (tgt := 232) F dL_same_228 (by decide) ?_
    exact wq_wid (k := cc + 0) (n := ss + 0) (by omega) (by omega) <| wq_lsub [some (.ref (b + 0)), some (.ref (b + 284)), none, some (.ref (b + 569)), some (.int (wq_I j4)), some (.int (wq_I j5)), some (.int (wq_I j6)), none, none, none, none, none, none, none, none] (by simp [wq_sub]) (tj_L_same_232 (cc := cc + 0) (ss := ss + 0) (c9 := c9) (s9 := s9) F K Kn hlt (by omega) (by omega) hE hF 1 S h)
set_option maxHeartbeats 40000000 in
set_option maxRecDepth 100000 in
theorem tj_L_same_191 {p : Program} {l : Launch} {e : Env} {s : State} {m : MethodId} {args : Array Value} {below : List Frame} {meth : Method} {c : Code} {D : va_G} {Ar : Nat → ClassId} {b : Nat} (F : wq_Fr p s m args meth c cL_same 15 ((Option.some Jvm.ClassFile.FieldType.boolean)) "WharfQueryLaw" D Ar) (K : wq_Kx b 570 s) (Kn : wq_Nx s) (hlt : l.stackTraces = false) {cc ss c9 s9 : Nat} (hC : cc + 45 ≤ c9) (hD : ss + 270 ≤ s9) (hE : c9 ≤ 60) (hF : s9 ≤ 360) {r0 : Int} {S0 : wq_St} {j4 : Int} {j5 : Int} {j6 : Int} {j7 : Int} {j11 : Int} (z0 : Int) (z1 : Int) (S : wq_St) (h : j_L_same_191 j4 j5 j6 j7 j11 z0 z1 S = some (r0, S0)) : wq_Z p l e (wq_rm 16 60 360) s m args below meth c D (wq_EL Ar b) b 570 15 (wq_AX b 570 s.heap.size) (wq_MX below D (wq_EL Ar b) b 570 0 (some (.int (wq_I r0))) S0 args s 60 360) cc ss 191 [some (.ref (b + 0)), some (.ref (b + 284)), none, some (.ref (b + 569)), some (.int (wq_I j4)), some (.int (wq_I j5)), some (.int (wq_I j6)), some (.int (wq_I j7)), none, none, none, some (.int (wq_I j11)), none, none, none] [.int (wq_I z0), .int (wq_I z1)] S := by
  unfold j_L_same_191 at h
  refine wq_icmp_ne (tgt := 231) F dL_same_191 (by decide) rfl (fun hc => ?_) (fun hc => ?_)
  · replace h := wq_iff hc h
    exact wq_wid (k := cc + 0) (n := ss + 0) (by omega) (by omega) <| wq_lsub [some (.ref (b + 0)), some (.ref (b + 284)), none, some (.ref (b + 569)), some (.int (wq_I j4)), some (.int (wq_I j5)), some (.int (wq_I j6)), none, none, none, none, none, none, none, none] (by simp [wq_sub]) (tj_L_same_231 (cc := cc + 0) (ss := ss + 0) (c9 := c9) (s9 := s9) F K Kn hlt (by omega) (by omega) hE hF S h)
  · replace h := wq_ift hc h
    refine wq_aload_n F dL_same_194 rfl rfl rfl ?_
    refine wq_iconst (n := 2) F dL_same_195 rfl ?_
    refine wq_iload F dL_same_196 rfl rfl ?_
    refine wq_iload F dL_same_198 rfl rfl ?_
    obtain ⟨r63, S64, h1r63, h⟩ := wq_bd_some h
    obtain ⟨S65, eS65, h⟩ := wq_lt_some h
    refine wq_callW (As := [.ref (b + 284), .int (wq_I 2), .int (wq_I j6), .int (wq_I j7)]) (mc := 2) (ms := 12) (n := 14) F K Kn lk_L_137 (wq_Cw_emb (o := 284) (ct_L_at hlt h1r63) (Nat.le_of_ble_eq_true rfl) wq_EL_b (wq_clt_at _)) ⟨(Nat.le_of_ble_eq_true rfl), (Nat.le_of_ble_eq_true rfl)⟩ ⟨by show cc + 0 + 2 ≤ 60; omega, by show ss + 0 + 12 ≤ 360; omega⟩ rfl rfl (Nat.le_of_ble_eq_true rfl) dL_same_200 rfl ?_
    refine wq_namS eS65 ?_
    refine wq_iload F dL_same_203 rfl rfl ?_
    refine wq_if_eq (tgt := 212) F dL_same_205 (by decide) rfl (fun hc => ?_) (fun hc => ?_)
    · replace h := wq_ift hc h
      refine wq_aload_n F dL_same_212 rfl rfl rfl ?_
      refine wq_iconst (n := 2) F dL_same_213 rfl ?_
      refine wq_iload F dL_same_214 rfl rfl ?_
      refine wq_iload F dL_same_216 rfl rfl ?_
      obtain ⟨r66, S67, h1r66, h⟩ := wq_bd_some h
      obtain ⟨S68, eS68, h⟩ := wq_lt_some h
      refine wq_callW (As := [.ref (b + 0), .int (wq_I 2), .int (wq_I j6), .int (wq_I j7)]) (mc := 2) (ms := 12) (n := 14) F K Kn lk_L_137 (wq_Cw_emb (o := 0) (ct_L_at hlt h1r66) (Nat.le_of_ble_eq_true rfl) wq_EL_a (wq_cls_at _)) ⟨(Nat.le_of_ble_eq_true rfl), (Nat.le_of_ble_eq_true rfl)⟩ ⟨by show cc + 2 + 2 ≤ 60; omega, by show ss + 12 + 12 ≤ 360; omega⟩ rfl rfl (Nat.le_of_ble_eq_true rfl) dL_same_218 rfl ?_
      refine wq_namS eS68 ?_
      refine wq_iload F dL_same_221 rfl rfl ?_
      refine wq_iadd F dL_same_223 rfl ?_
      exact wq_wid (k := cc + 4) (n := ss + 24) (by omega) (by omega) <| wq_lsub [some (.ref (b + 0)), some (.ref (b + 284)), none, some (.ref (b + 569)), some (.int (wq_I j4)), some (.int (wq_I j5)), some (.int (wq_I j6)), none, none, none, none, none, none, none, none] (by simp [wq_sub]) (tj_L_same_224 (cc := cc + 4) (ss := ss + 24) (c9 := c9) (s9 := s9) F K Kn hlt (by omega) (by omega) hE hF (r66 + j5) r63 S68 h)
    · replace h := wq_iff hc h
      refine wq_iconst (n := 0) F dL_same_208 rfl ?_
      refine wq_goto (tgt := 224) F dL_same_209 (by decide) ?_
      exact wq_wid (k := cc + 2) (n := ss + 12) (by omega) (by omega) <| wq_lsub [some (.ref (b + 0)), some (.ref (b + 284)), none, some (.ref (b + 569)), some (.int (wq_I j4)), some (.int (wq_I j5)), some (.int (wq_I j6)), none, none, none, none, none, none, none, none] (by simp [wq_sub]) (tj_L_same_224 (cc := cc + 2) (ss := ss + 12) (c9 := c9) (s9 := s9) F K Kn hlt (by omega) (by omega) hE hF 0 r63 S65 h)
set_option maxHeartbeats 40000000 in
set_option maxRecDepth 100000 in
theorem tj_L_same_158 {p : Program} {l : Launch} {e : Env} {s : State} {m : MethodId} {args : Array Value} {below : List Frame} {meth : Method} {c : Code} {D : va_G} {Ar : Nat → ClassId} {b : Nat} (F : wq_Fr p s m args meth c cL_same 15 ((Option.some Jvm.ClassFile.FieldType.boolean)) "WharfQueryLaw" D Ar) (K : wq_Kx b 570 s) (Kn : wq_Nx s) (hlt : l.stackTraces = false) {cc ss c9 s9 : Nat} (hC : cc + 49 ≤ c9) (hD : ss + 294 ≤ s9) (hE : c9 ≤ 60) (hF : s9 ≤ 360) {r0 : Int} {S0 : wq_St} {j4 : Int} {j5 : Int} {j6 : Int} {j7 : Int} {j11 : Int} (z0 : Int) (z1 : Int) (S : wq_St) (h : j_L_same_158 j4 j5 j6 j7 j11 z0 z1 S = some (r0, S0)) : wq_Z p l e (wq_rm 16 60 360) s m args below meth c D (wq_EL Ar b) b 570 15 (wq_AX b 570 s.heap.size) (wq_MX below D (wq_EL Ar b) b 570 0 (some (.int (wq_I r0))) S0 args s 60 360) cc ss 158 [some (.ref (b + 0)), some (.ref (b + 284)), none, some (.ref (b + 569)), some (.int (wq_I j4)), some (.int (wq_I j5)), some (.int (wq_I j6)), some (.int (wq_I j7)), none, none, none, some (.int (wq_I j11)), none, none, none] [.int (wq_I z0), .int (wq_I z1)] S := by
  unfold j_L_same_158 at h
  refine wq_icmp_ne (tgt := 231) F dL_same_158 (by decide) rfl (fun hc => ?_) (fun hc => ?_)
  · replace h := wq_iff hc h
    exact wq_wid (k := cc + 0) (n := ss + 0) (by omega) (by omega) <| wq_lsub [some (.ref (b + 0)), some (.ref (b + 284)), none, some (.ref (b + 569)), some (.int (wq_I j4)), some (.int (wq_I j5)), some (.int (wq_I j6)), none, none, none, none, none, none, none, none] (by simp [wq_sub]) (tj_L_same_231 (cc := cc + 0) (ss := ss + 0) (c9 := c9) (s9 := s9) F K Kn hlt (by omega) (by omega) hE hF S h)
  · replace h := wq_ift hc h
    refine wq_aload_n F dL_same_161 rfl rfl rfl ?_
    refine wq_iconst (n := 1) F dL_same_162 rfl ?_
    refine wq_iload F dL_same_163 rfl rfl ?_
    refine wq_iload F dL_same_165 rfl rfl ?_
    obtain ⟨r57, S58, h1r57, h⟩ := wq_bd_some h
    obtain ⟨S59, eS59, h⟩ := wq_lt_some h
    refine wq_callW (As := [.ref (b + 284), .int (wq_I 1), .int (wq_I j6), .int (wq_I j7)]) (mc := 2) (ms := 12) (n := 14) F K Kn lk_L_137 (wq_Cw_emb (o := 284) (ct_L_at hlt h1r57) (Nat.le_of_ble_eq_true rfl) wq_EL_b (wq_clt_at _)) ⟨(Nat.le_of_ble_eq_true rfl), (Nat.le_of_ble_eq_true rfl)⟩ ⟨by show cc + 0 + 2 ≤ 60; omega, by show ss + 0 + 12 ≤ 360; omega⟩ rfl rfl (Nat.le_of_ble_eq_true rfl) dL_same_167 rfl ?_
    refine wq_namS eS59 ?_
    refine wq_iload F dL_same_170 rfl rfl ?_
    refine wq_if_eq (tgt := 179) F dL_same_172 (by decide) rfl (fun hc => ?_) (fun hc => ?_)
    · replace h := wq_ift hc h
      refine wq_aload_n F dL_same_179 rfl rfl rfl ?_
      refine wq_iconst (n := 1) F dL_same_180 rfl ?_
      refine wq_iload F dL_same_181 rfl rfl ?_
      refine wq_iload F dL_same_183 rfl rfl ?_
      obtain ⟨r60, S61, h1r60, h⟩ := wq_bd_some h
      obtain ⟨S62, eS62, h⟩ := wq_lt_some h
      refine wq_callW (As := [.ref (b + 0), .int (wq_I 1), .int (wq_I j6), .int (wq_I j7)]) (mc := 2) (ms := 12) (n := 14) F K Kn lk_L_137 (wq_Cw_emb (o := 0) (ct_L_at hlt h1r60) (Nat.le_of_ble_eq_true rfl) wq_EL_a (wq_cls_at _)) ⟨(Nat.le_of_ble_eq_true rfl), (Nat.le_of_ble_eq_true rfl)⟩ ⟨by show cc + 2 + 2 ≤ 60; omega, by show ss + 12 + 12 ≤ 360; omega⟩ rfl rfl (Nat.le_of_ble_eq_true rfl) dL_same_185 rfl ?_
      refine wq_namS eS62 ?_
      refine wq_iload F dL_same_188 rfl rfl ?_
      refine wq_iadd F dL_same_190 rfl ?_
      exact wq_wid (k := cc + 4) (n := ss + 24) (by omega) (by omega) <| wq_lsub [some (.ref (b + 0)), some (.ref (b + 284)), none, some (.ref (b + 569)), some (.int (wq_I j4)), some (.int (wq_I j5)), some (.int (wq_I j6)), some (.int (wq_I j7)), none, none, none, some (.int (wq_I j11)), none, none, none] (by simp [wq_sub]) (tj_L_same_191 (cc := cc + 4) (ss := ss + 24) (c9 := c9) (s9 := s9) F K Kn hlt (by omega) (by omega) hE hF (r60 + j5) r57 S62 h)
    · replace h := wq_iff hc h
      refine wq_iconst (n := 0) F dL_same_175 rfl ?_
      refine wq_goto (tgt := 191) F dL_same_176 (by decide) ?_
      exact wq_wid (k := cc + 2) (n := ss + 12) (by omega) (by omega) <| wq_lsub [some (.ref (b + 0)), some (.ref (b + 284)), none, some (.ref (b + 569)), some (.int (wq_I j4)), some (.int (wq_I j5)), some (.int (wq_I j6)), some (.int (wq_I j7)), none, none, none, some (.int (wq_I j11)), none, none, none] (by simp [wq_sub]) (tj_L_same_191 (cc := cc + 2) (ss := ss + 12) (c9 := c9) (s9 := s9) F K Kn hlt (by omega) (by omega) hE hF 0 r57 S59 h)
set_option maxHeartbeats 40000000 in
set_option maxRecDepth 100000 in
theorem tj_L_same_126 {p : Program} {l : Launch} {e : Env} {s : State} {m : MethodId} {args : Array Value} {below : List Frame} {meth : Method} {c : Code} {D : va_G} {Ar : Nat → ClassId} {b : Nat} (F : wq_Fr p s m args meth c cL_same 15 ((Option.some Jvm.ClassFile.FieldType.boolean)) "WharfQueryLaw" D Ar) (K : wq_Kx b 570 s) (Kn : wq_Nx s) (hlt : l.stackTraces = false) {cc ss c9 s9 : Nat} (hC : cc + 52 ≤ c9) (hD : ss + 312 ≤ s9) (hE : c9 ≤ 60) (hF : s9 ≤ 360) {r0 : Int} {S0 : wq_St} {j4 : Int} {j5 : Int} {j6 : Int} {j7 : Int} {j8 : Int} {j9 : Int} {j10 : Int} (z0 : Int) (S : wq_St) (h : j_L_same_126 j4 j5 j6 j7 j8 j9 j10 z0 S = some (r0, S0)) : wq_Z p l e (wq_rm 16 60 360) s m args below meth c D (wq_EL Ar b) b 570 15 (wq_AX b 570 s.heap.size) (wq_MX below D (wq_EL Ar b) b 570 0 (some (.int (wq_I r0))) S0 args s 60 360) cc ss 126 [some (.ref (b + 0)), some (.ref (b + 284)), none, some (.ref (b + 569)), some (.int (wq_I j4)), some (.int (wq_I j5)), some (.int (wq_I j6)), some (.int (wq_I j7)), some (.int (wq_I j8)), some (.int (wq_I j9)), some (.int (wq_I j10)), none, none, none, none] [.int (wq_I z0)] S := by
  unfold j_L_same_126 at h
  refine wq_istore (L' := [some (.ref (b + 0)), some (.ref (b + 284)), none, some (.ref (b + 569)), some (.int (wq_I j4)), some (.int (wq_I j5)), some (.int (wq_I j6)), some (.int (wq_I j7)), some (.int (wq_I j8)), some (.int (wq_I j9)), some (.int (wq_I j10)), some (.int (wq_I z0)), none, none, none]) F dL_same_126 (by decide) rfl rfl rfl ?_
  refine wq_iload F dL_same_128 rfl rfl ?_
  refine wq_if_eq (tgt := 231) F dL_same_130 (by decide) rfl (fun hc => ?_) (fun hc => ?_)
  · replace h := wq_ift hc h
    exact wq_wid (k := cc + 0) (n := ss + 0) (by omega) (by omega) <| wq_lsub [some (.ref (b + 0)), some (.ref (b + 284)), none, some (.ref (b + 569)), some (.int (wq_I j4)), some (.int (wq_I j5)), some (.int (wq_I j6)), none, none, none, none, none, none, none, none] (by simp [wq_sub]) (tj_L_same_231 (cc := cc + 0) (ss := ss + 0) (c9 := c9) (s9 := s9) F K Kn hlt (by omega) (by omega) hE hF S h)
  · replace h := wq_iff hc h
    refine wq_aload_n F dL_same_133 rfl rfl rfl ?_
    refine wq_iload F dL_same_134 rfl rfl ?_
    refine wq_iload F dL_same_136 rfl rfl ?_
    refine wq_iload F dL_same_138 rfl rfl ?_
    obtain ⟨r54, S55, h1r54, h⟩ := wq_bd_some h
    obtain ⟨S56, eS56, h⟩ := wq_lt_some h
    refine wq_callW (As := [.ref (b + 284), .int (wq_I j6), .int (wq_I j8), .int (wq_I j7)]) (mc := 3) (ms := 18) (n := 9) F K Kn lk_L_143 (wq_Cw_emb (o := 284) (ct_L_value hlt h1r54) (Nat.le_of_ble_eq_true rfl) wq_EL_b (wq_clt_at _)) ⟨(Nat.le_of_ble_eq_true rfl), (Nat.le_of_ble_eq_true rfl)⟩ ⟨by show cc + 0 + 3 ≤ 60; omega, by show ss + 0 + 18 ≤ 360; omega⟩ rfl rfl (Nat.le_of_ble_eq_true rfl) dL_same_140 rfl ?_
    refine wq_namS eS56 ?_
    refine wq_iload F dL_same_143 rfl rfl ?_
    refine wq_if_ge (tgt := 153) F dL_same_145 (by decide) rfl (fun hc => ?_) (fun hc => ?_)
    · replace h := wq_ift hc h
      refine wq_iload F dL_same_153 rfl rfl ?_
      refine wq_iload F dL_same_155 rfl rfl ?_
      refine wq_iadd F dL_same_157 rfl ?_
      exact wq_wid (k := cc + 3) (n := ss + 18) (by omega) (by omega) <| wq_lsub [some (.ref (b + 0)), some (.ref (b + 284)), none, some (.ref (b + 569)), some (.int (wq_I j4)), some (.int (wq_I j5)), some (.int (wq_I j6)), some (.int (wq_I j7)), none, none, none, some (.int (wq_I z0)), none, none, none] (by simp [wq_sub]) (tj_L_same_158 (cc := cc + 3) (ss := ss + 18) (c9 := c9) (s9 := s9) F K Kn hlt (by omega) (by omega) hE hF (j10 + j5) r54 S56 h)
    · replace h := wq_iff hc h
      refine wq_iload F dL_same_148 rfl rfl ?_
      refine wq_goto (tgt := 158) F dL_same_150 (by decide) ?_
      exact wq_wid (k := cc + 3) (n := ss + 18) (by omega) (by omega) <| wq_lsub [some (.ref (b + 0)), some (.ref (b + 284)), none, some (.ref (b + 569)), some (.int (wq_I j4)), some (.int (wq_I j5)), some (.int (wq_I j6)), some (.int (wq_I j7)), none, none, none, some (.int (wq_I z0)), none, none, none] (by simp [wq_sub]) (tj_L_same_158 (cc := cc + 3) (ss := ss + 18) (c9 := c9) (s9 := s9) F K Kn hlt (by omega) (by omega) hE hF j10 r54 S56 h)
set_option maxHeartbeats 40000000 in
set_option maxRecDepth 100000 in
theorem tj_L_same_97 {p : Program} {l : Launch} {e : Env} {s : State} {m : MethodId} {args : Array Value} {below : List Frame} {meth : Method} {c : Code} {D : va_G} {Ar : Nat → ClassId} {b : Nat} (F : wq_Fr p s m args meth c cL_same 15 ((Option.some Jvm.ClassFile.FieldType.boolean)) "WharfQueryLaw" D Ar) (K : wq_Kx b 570 s) (Kn : wq_Nx s) (hlt : l.stackTraces = false) {cc ss c9 s9 : Nat} (hC : cc + 56 ≤ c9) (hD : ss + 336 ≤ s9) (hE : c9 ≤ 60) (hF : s9 ≤ 360) {r0 : Int} {S0 : wq_St} {j4 : Int} {j5 : Int} {j6 : Int} {j7 : Int} {j8 : Int} (z0 : Int) (S : wq_St) (h : j_L_same_97 j4 j5 j6 j7 j8 z0 S = some (r0, S0)) : wq_Z p l e (wq_rm 16 60 360) s m args below meth c D (wq_EL Ar b) b 570 15 (wq_AX b 570 s.heap.size) (wq_MX below D (wq_EL Ar b) b 570 0 (some (.int (wq_I r0))) S0 args s 60 360) cc ss 97 [some (.ref (b + 0)), some (.ref (b + 284)), none, some (.ref (b + 569)), some (.int (wq_I j4)), some (.int (wq_I j5)), some (.int (wq_I j6)), some (.int (wq_I j7)), some (.int (wq_I j8)), none, none, none, none, none, none] [.int (wq_I z0)] S := by
  unfold j_L_same_97 at h
  refine wq_istore (L' := [some (.ref (b + 0)), some (.ref (b + 284)), none, some (.ref (b + 569)), some (.int (wq_I j4)), some (.int (wq_I j5)), some (.int (wq_I j6)), some (.int (wq_I j7)), some (.int (wq_I j8)), some (.int (wq_I z0)), none, none, none, none, none]) F dL_same_97 (by decide) rfl rfl rfl ?_
  refine wq_aload_n F dL_same_99 rfl rfl rfl ?_
  refine wq_iload F dL_same_100 rfl rfl ?_
  refine wq_iload F dL_same_102 rfl rfl ?_
  refine wq_iload F dL_same_104 rfl rfl ?_
  obtain ⟨r9, S10, h1r9, h⟩ := wq_bd_some h
  obtain ⟨S11, eS11, h⟩ := wq_lt_some h
  refine wq_callW (As := [.ref (b + 0), .int (wq_I j6), .int (wq_I j8), .int (wq_I j7)]) (mc := 3) (ms := 18) (n := 9) F K Kn lk_L_143 (wq_Cw_emb (o := 0) (ct_L_value hlt h1r9) (Nat.le_of_ble_eq_true rfl) wq_EL_a (wq_cls_at _)) ⟨(Nat.le_of_ble_eq_true rfl), (Nat.le_of_ble_eq_true rfl)⟩ ⟨by show cc + 0 + 3 ≤ 60; omega, by show ss + 0 + 18 ≤ 360; omega⟩ rfl rfl (Nat.le_of_ble_eq_true rfl) dL_same_106 rfl ?_
  refine wq_namS eS11 ?_
  refine wq_istore (L' := [some (.ref (b + 0)), some (.ref (b + 284)), none, some (.ref (b + 569)), some (.int (wq_I j4)), some (.int (wq_I j5)), some (.int (wq_I j6)), some (.int (wq_I j7)), some (.int (wq_I j8)), some (.int (wq_I z0)), some (.int (wq_I r9)), none, none, none, none]) F dL_same_109 (by decide) rfl rfl rfl ?_
  refine wq_aload_n F dL_same_111 rfl rfl rfl ?_
  refine wq_iconst (n := 1) F dL_same_112 rfl ?_
  refine wq_iload F dL_same_113 rfl rfl ?_
  obtain ⟨r12, S13, h1r12, h⟩ := wq_bd_some h
  obtain ⟨S14, eS14, h⟩ := wq_lt_some h
  refine wq_callW (As := [.ref (b + 0), .int (wq_I 1), .int (wq_I j6)]) (mc := 1) (ms := 6) (n := 15) F K Kn lk_L_145 (wq_Cw_emb (o := 0) (ct_L_of hlt h1r12) (Nat.le_of_ble_eq_true rfl) wq_EL_a (wq_cls_at _)) ⟨(Nat.le_of_ble_eq_true rfl), (Nat.le_of_ble_eq_true rfl)⟩ ⟨by show cc + 3 + 1 ≤ 60; omega, by show ss + 18 + 6 ≤ 360; omega⟩ rfl rfl (Nat.le_of_ble_eq_true rfl) dL_same_115 rfl ?_
  refine wq_namS eS14 ?_
  refine wq_if_ne (tgt := 125) F dL_same_118 (by decide) rfl (fun hc => ?_) (fun hc => ?_)
  · replace h := wq_iff hc h
    refine wq_iconst (n := 0) F dL_same_125 rfl ?_
    exact wq_wid (k := cc + 4) (n := ss + 24) (by omega) (by omega) <| wq_lsub [some (.ref (b + 0)), some (.ref (b + 284)), none, some (.ref (b + 569)), some (.int (wq_I j4)), some (.int (wq_I j5)), some (.int (wq_I j6)), some (.int (wq_I j7)), some (.int (wq_I j8)), some (.int (wq_I z0)), some (.int (wq_I r9)), none, none, none, none] (by simp [wq_sub]) (tj_L_same_126 (cc := cc + 4) (ss := ss + 24) (c9 := c9) (s9 := s9) F K Kn hlt (by omega) (by omega) hE hF 0 S14 h)
  · replace h := wq_ift hc h
    refine wq_iconst (n := 1) F dL_same_121 rfl ?_
    refine wq_goto (tgt := 126) F dL_same_122 (by decide) ?_
    exact wq_wid (k := cc + 4) (n := ss + 24) (by omega) (by omega) <| wq_lsub [some (.ref (b + 0)), some (.ref (b + 284)), none, some (.ref (b + 569)), some (.int (wq_I j4)), some (.int (wq_I j5)), some (.int (wq_I j6)), some (.int (wq_I j7)), some (.int (wq_I j8)), some (.int (wq_I z0)), some (.int (wq_I r9)), none, none, none, none] (by simp [wq_sub]) (tj_L_same_126 (cc := cc + 4) (ss := ss + 24) (c9 := c9) (s9 := s9) F K Kn hlt (by omega) (by omega) hE hF 1 S14 h)
set_option maxHeartbeats 40000000 in
set_option maxRecDepth 100000 in
theorem tj_L_same_96 {p : Program} {l : Launch} {e : Env} {s : State} {m : MethodId} {args : Array Value} {below : List Frame} {meth : Method} {c : Code} {D : va_G} {Ar : Nat → ClassId} {b : Nat} (F : wq_Fr p s m args meth c cL_same 15 ((Option.some Jvm.ClassFile.FieldType.boolean)) "WharfQueryLaw" D Ar) (K : wq_Kx b 570 s) (Kn : wq_Nx s) (hlt : l.stackTraces = false) {cc ss c9 s9 : Nat} (hC : cc + 56 ≤ c9) (hD : ss + 336 ≤ s9) (hE : c9 ≤ 60) (hF : s9 ≤ 360) {r0 : Int} {S0 : wq_St} {j4 : Int} {j5 : Int} {j6 : Int} {j7 : Int} {j8 : Int} (S : wq_St) (h : j_L_same_96 j4 j5 j6 j7 j8 S = some (r0, S0)) : wq_Z p l e (wq_rm 16 60 360) s m args below meth c D (wq_EL Ar b) b 570 15 (wq_AX b 570 s.heap.size) (wq_MX below D (wq_EL Ar b) b 570 0 (some (.int (wq_I r0))) S0 args s 60 360) cc ss 96 [some (.ref (b + 0)), some (.ref (b + 284)), none, some (.ref (b + 569)), some (.int (wq_I j4)), some (.int (wq_I j5)), some (.int (wq_I j6)), some (.int (wq_I j7)), some (.int (wq_I j8)), none, none, none, none, none, none] [] S := by
  unfold j_L_same_96 at h
  refine wq_iconst (n := 0) F dL_same_96 rfl ?_
  exact wq_wid (k := cc + 0) (n := ss + 0) (by omega) (by omega) <| wq_lsub [some (.ref (b + 0)), some (.ref (b + 284)), none, some (.ref (b + 569)), some (.int (wq_I j4)), some (.int (wq_I j5)), some (.int (wq_I j6)), some (.int (wq_I j7)), some (.int (wq_I j8)), none, none, none, none, none, none] (by simp [wq_sub]) (tj_L_same_97 (cc := cc + 0) (ss := ss + 0) (c9 := c9) (s9 := s9) F K Kn hlt (by omega) (by omega) hE hF 0 S h)
set_option maxHeartbeats 40000000 in
set_option maxRecDepth 100000 in
theorem tj_L_same_0 {p : Program} {l : Launch} {e : Env} {s : State} {m : MethodId} {args : Array Value} {below : List Frame} {meth : Method} {c : Code} {D : va_G} {Ar : Nat → ClassId} {b : Nat} (F : wq_Fr p s m args meth c cL_same 15 ((Option.some Jvm.ClassFile.FieldType.boolean)) "WharfQueryLaw" D Ar) (K : wq_Kx b 570 s) (Kn : wq_Nx s) (hlt : l.stackTraces = false) {cc ss c9 s9 : Nat} (hC : cc + 60 ≤ c9) (hD : ss + 360 ≤ s9) (hE : c9 ≤ 60) (hF : s9 ≤ 360) {r0 : Int} {S0 : wq_St} {j4 : Int} {j5 : Int} (S : wq_St) (h : j_L_same_0 j4 j5 S = some (r0, S0)) : wq_Z p l e (wq_rm 16 60 360) s m args below meth c D (wq_EL Ar b) b 570 15 (wq_AX b 570 s.heap.size) (wq_MX below D (wq_EL Ar b) b 570 0 (some (.int (wq_I r0))) S0 args s 60 360) cc ss 0 [some (.ref (b + 0)), some (.ref (b + 284)), some (.ref (b + 568)), some (.ref (b + 569)), some (.int (wq_I j4)), some (.int (wq_I j5)), none, none, none, none, none, none, none, none, none] [] S := by
  unfold j_L_same_0 at h
  refine wq_iload F dL_same_0 rfl rfl ?_
  refine wq_iconst (n := 3) F dL_same_2 rfl ?_
  obtain ⟨hg, h⟩ := wq_gd_some h
  refine wq_irem (hy := hg) F dL_same_3 rfl ?_
  refine wq_istore (L' := [some (.ref (b + 0)), some (.ref (b + 284)), some (.ref (b + 568)), some (.ref (b + 569)), some (.int (wq_I j4)), some (.int (wq_I j5)), some (.int (wq_I (wq_rem j4 3))), none, none, none, none, none, none, none, none]) F dL_same_4 (by decide) rfl rfl rfl ?_
  refine wq_iload F dL_same_6 rfl rfl ?_
  refine wq_iconst (n := 3) F dL_same_8 rfl ?_
  obtain ⟨hg, h⟩ := wq_gd_some h
  refine wq_idiv (hy := hg) F dL_same_9 rfl ?_
  refine wq_aload_n F dL_same_10 rfl rfl rfl ?_
  refine wq_iload F dL_same_11 rfl rfl ?_
  obtain ⟨t1, ht1, wt1, h⟩ := wq_ix_some h
  refine wq_iald F (Nat.le_of_ble_eq_true rfl) wq_EL_col ht1 wt1 dL_same_13 rfl ?_
  obtain ⟨hg, h⟩ := wq_gd_some h
  refine wq_irem (hy := hg) F dL_same_14 rfl ?_
  obtain ⟨a2, ea2, h⟩ := wq_lt_some h
  refine wq_namI ea2 ?_
  refine wq_istore (L' := [some (.ref (b + 0)), some (.ref (b + 284)), some (.ref (b + 568)), some (.ref (b + 569)), some (.int (wq_I j4)), some (.int (wq_I j5)), some (.int (wq_I (wq_rem j4 3))), some (.int (wq_I a2)), none, none, none, none, none, none, none]) F dL_same_15 (by decide) rfl rfl rfl ?_
  refine wq_iload F dL_same_17 rfl rfl ?_
  refine wq_bipush (n := 9) F dL_same_19 (by decide) rfl ?_
  obtain ⟨hg, h⟩ := wq_gd_some h
  refine wq_idiv (hy := hg) F dL_same_21 rfl ?_
  refine wq_bipush (n := 40) F dL_same_22 (by decide) rfl ?_
  obtain ⟨hg, h⟩ := wq_gd_some h
  refine wq_irem (hy := hg) F dL_same_24 rfl ?_
  refine wq_istore (L' := [some (.ref (b + 0)), some (.ref (b + 284)), some (.ref (b + 568)), some (.ref (b + 569)), some (.int (wq_I j4)), some (.int (wq_I j5)), some (.int (wq_I (wq_rem j4 3))), some (.int (wq_I a2)), some (.int (wq_I (wq_rem (wq_div j4 9) 40))), none, none, none, none, none, none]) F dL_same_25 (by decide) rfl rfl rfl ?_
  refine wq_aload_n F dL_same_27 rfl rfl rfl ?_
  obtain ⟨r3, S4, h1r3, h⟩ := wq_bd_some h
  obtain ⟨S5, eS5, h⟩ := wq_lt_some h
  refine wq_callV (As := []) (k := 0) (n := 1) F lk_L_124 (wq_Ct_emb (o := 0) (ct_X8_nights h1r3) (Nat.le_of_ble_eq_true rfl) wq_EL_a (wq_cls_at _)) ⟨(Nat.le_of_ble_eq_true rfl), (Nat.le_of_ble_eq_true rfl)⟩ ⟨by show cc + 0 ≤ 60; omega, by show ss + 0 ≤ 360; omega⟩ (Nat.le_of_ble_eq_true rfl) rfl rfl wq_AbX rfl rfl (Nat.le_of_ble_eq_true rfl) dL_same_28 rfl ?_
  refine wq_namS eS5 ?_
  refine wq_aload_n F dL_same_31 rfl rfl rfl ?_
  obtain ⟨r6, S7, h1r6, h⟩ := wq_bd_some h
  obtain ⟨S8, eS8, h⟩ := wq_lt_some h
  refine wq_callV (As := []) (k := 284) (n := 1) F lk_L_124 (wq_Ct_emb (o := 284) (ct_X8_nights h1r6) (Nat.le_of_ble_eq_true rfl) wq_EL_b (wq_clt_at _)) ⟨(Nat.le_of_ble_eq_true rfl), (Nat.le_of_ble_eq_true rfl)⟩ ⟨by show cc + 0 ≤ 60; omega, by show ss + 0 ≤ 360; omega⟩ (Nat.le_of_ble_eq_true rfl) rfl rfl wq_AbX rfl rfl (Nat.le_of_ble_eq_true rfl) dL_same_32 rfl ?_
  refine wq_namS eS8 ?_
  refine wq_icmp_ne (tgt := 96) F dL_same_35 (by decide) rfl (fun hc => ?_) (fun hc => ?_)
  · replace h := wq_iff hc h
    exact wq_wid (k := cc + 0) (n := ss + 0) (by omega) (by omega) <| wq_lsub [some (.ref (b + 0)), some (.ref (b + 284)), none, some (.ref (b + 569)), some (.int (wq_I j4)), some (.int (wq_I j5)), some (.int (wq_I (wq_rem j4 3))), some (.int (wq_I a2)), some (.int (wq_I (wq_rem (wq_div j4 9) 40))), none, none, none, none, none, none] (by simp [wq_sub]) (tj_L_same_96 (cc := cc + 0) (ss := ss + 0) (c9 := c9) (s9 := s9) F K Kn hlt (by omega) (by omega) hE hF S8 h)
  · replace h := wq_ift hc h
    refine wq_aload_n F dL_same_38 rfl rfl rfl ?_
    obtain ⟨r69, S70, h1r69, h⟩ := wq_bd_some h
    obtain ⟨S71, eS71, h⟩ := wq_lt_some h
    refine wq_callV (As := []) (k := 0) (n := 1) F lk_L_128 (wq_Ct_emb (o := 0) (ct_X8_paid h1r69) (Nat.le_of_ble_eq_true rfl) wq_EL_a (wq_cls_at _)) ⟨(Nat.le_of_ble_eq_true rfl), (Nat.le_of_ble_eq_true rfl)⟩ ⟨by show cc + 0 ≤ 60; omega, by show ss + 0 ≤ 360; omega⟩ (Nat.le_of_ble_eq_true rfl) rfl rfl wq_AbX rfl rfl (Nat.le_of_ble_eq_true rfl) dL_same_39 rfl ?_
    refine wq_namS eS71 ?_
    refine wq_aload_n F dL_same_42 rfl rfl rfl ?_
    obtain ⟨r72, S73, h1r72, h⟩ := wq_bd_some h
    obtain ⟨S74, eS74, h⟩ := wq_lt_some h
    refine wq_callV (As := []) (k := 284) (n := 1) F lk_L_128 (wq_Ct_emb (o := 284) (ct_X8_paid h1r72) (Nat.le_of_ble_eq_true rfl) wq_EL_b (wq_clt_at _)) ⟨(Nat.le_of_ble_eq_true rfl), (Nat.le_of_ble_eq_true rfl)⟩ ⟨by show cc + 0 ≤ 60; omega, by show ss + 0 ≤ 360; omega⟩ (Nat.le_of_ble_eq_true rfl) rfl rfl wq_AbX rfl rfl (Nat.le_of_ble_eq_true rfl) dL_same_43 rfl ?_
    refine wq_namS eS74 ?_
    refine wq_icmp_ne (tgt := 96) F dL_same_46 (by decide) rfl (fun hc => ?_) (fun hc => ?_)
    · replace h := wq_iff hc h
      exact wq_wid (k := cc + 0) (n := ss + 0) (by omega) (by omega) <| wq_lsub [some (.ref (b + 0)), some (.ref (b + 284)), none, some (.ref (b + 569)), some (.int (wq_I j4)), some (.int (wq_I j5)), some (.int (wq_I (wq_rem j4 3))), some (.int (wq_I a2)), some (.int (wq_I (wq_rem (wq_div j4 9) 40))), none, none, none, none, none, none] (by simp [wq_sub]) (tj_L_same_96 (cc := cc + 0) (ss := ss + 0) (c9 := c9) (s9 := s9) F K Kn hlt (by omega) (by omega) hE hF S74 h)
    · replace h := wq_ift hc h
      refine wq_aload_n F dL_same_49 rfl rfl rfl ?_
      obtain ⟨r75, S76, h1r75, h⟩ := wq_bd_some h
      obtain ⟨S77, eS77, h⟩ := wq_lt_some h
      refine wq_callV (As := []) (k := 0) (n := 1) F lk_L_131 (wq_Ct_emb (o := 0) (ct_X8_left h1r75) (Nat.le_of_ble_eq_true rfl) wq_EL_a (wq_cls_at _)) ⟨(Nat.le_of_ble_eq_true rfl), (Nat.le_of_ble_eq_true rfl)⟩ ⟨by show cc + 0 ≤ 60; omega, by show ss + 0 ≤ 360; omega⟩ (Nat.le_of_ble_eq_true rfl) rfl rfl wq_AbX rfl rfl (Nat.le_of_ble_eq_true rfl) dL_same_50 rfl ?_
      refine wq_namS eS77 ?_
      refine wq_aload_n F dL_same_53 rfl rfl rfl ?_
      obtain ⟨r78, S79, h1r78, h⟩ := wq_bd_some h
      obtain ⟨S80, eS80, h⟩ := wq_lt_some h
      refine wq_callV (As := []) (k := 284) (n := 1) F lk_L_131 (wq_Ct_emb (o := 284) (ct_X8_left h1r78) (Nat.le_of_ble_eq_true rfl) wq_EL_b (wq_clt_at _)) ⟨(Nat.le_of_ble_eq_true rfl), (Nat.le_of_ble_eq_true rfl)⟩ ⟨by show cc + 0 ≤ 60; omega, by show ss + 0 ≤ 360; omega⟩ (Nat.le_of_ble_eq_true rfl) rfl rfl wq_AbX rfl rfl (Nat.le_of_ble_eq_true rfl) dL_same_54 rfl ?_
      refine wq_namS eS80 ?_
      refine wq_icmp_ne (tgt := 96) F dL_same_57 (by decide) rfl (fun hc => ?_) (fun hc => ?_)
      · replace h := wq_iff hc h
        exact wq_wid (k := cc + 0) (n := ss + 0) (by omega) (by omega) <| wq_lsub [some (.ref (b + 0)), some (.ref (b + 284)), none, some (.ref (b + 569)), some (.int (wq_I j4)), some (.int (wq_I j5)), some (.int (wq_I (wq_rem j4 3))), some (.int (wq_I a2)), some (.int (wq_I (wq_rem (wq_div j4 9) 40))), none, none, none, none, none, none] (by simp [wq_sub]) (tj_L_same_96 (cc := cc + 0) (ss := ss + 0) (c9 := c9) (s9 := s9) F K Kn hlt (by omega) (by omega) hE hF S80 h)
      · replace h := wq_ift hc h
        refine wq_aload_n F dL_same_60 rfl rfl rfl ?_
        obtain ⟨r81, S82, h1r81, h⟩ := wq_bd_some h
        obtain ⟨S83, eS83, h⟩ := wq_lt_some h
        refine wq_callV (As := []) (k := 0) (n := 1) F lk_L_134 (wq_Ct_emb (o := 0) (ct_X8_owed h1r81) (Nat.le_of_ble_eq_true rfl) wq_EL_a (wq_cls_at _)) ⟨(Nat.le_of_ble_eq_true rfl), (Nat.le_of_ble_eq_true rfl)⟩ ⟨by show cc + 0 ≤ 60; omega, by show ss + 0 ≤ 360; omega⟩ (Nat.le_of_ble_eq_true rfl) rfl rfl wq_AbX rfl rfl (Nat.le_of_ble_eq_true rfl) dL_same_61 rfl ?_
        refine wq_namS eS83 ?_
        refine wq_aload_n F dL_same_64 rfl rfl rfl ?_
        obtain ⟨r84, S85, h1r84, h⟩ := wq_bd_some h
        obtain ⟨S86, eS86, h⟩ := wq_lt_some h
        refine wq_callV (As := []) (k := 284) (n := 1) F lk_L_134 (wq_Ct_emb (o := 284) (ct_X8_owed h1r84) (Nat.le_of_ble_eq_true rfl) wq_EL_b (wq_clt_at _)) ⟨(Nat.le_of_ble_eq_true rfl), (Nat.le_of_ble_eq_true rfl)⟩ ⟨by show cc + 0 ≤ 60; omega, by show ss + 0 ≤ 360; omega⟩ (Nat.le_of_ble_eq_true rfl) rfl rfl wq_AbX rfl rfl (Nat.le_of_ble_eq_true rfl) dL_same_65 rfl ?_
        refine wq_namS eS86 ?_
        refine wq_icmp_ne (tgt := 96) F dL_same_68 (by decide) rfl (fun hc => ?_) (fun hc => ?_)
        · replace h := wq_iff hc h
          exact wq_wid (k := cc + 0) (n := ss + 0) (by omega) (by omega) <| wq_lsub [some (.ref (b + 0)), some (.ref (b + 284)), none, some (.ref (b + 569)), some (.int (wq_I j4)), some (.int (wq_I j5)), some (.int (wq_I (wq_rem j4 3))), some (.int (wq_I a2)), some (.int (wq_I (wq_rem (wq_div j4 9) 40))), none, none, none, none, none, none] (by simp [wq_sub]) (tj_L_same_96 (cc := cc + 0) (ss := ss + 0) (c9 := c9) (s9 := s9) F K Kn hlt (by omega) (by omega) hE hF S86 h)
        · replace h := wq_ift hc h
          refine wq_aload_n F dL_same_71 rfl rfl rfl ?_
          refine wq_iconst (n := 0) F dL_same_72 rfl ?_
          refine wq_iload F dL_same_73 rfl rfl ?_
          refine wq_iload F dL_same_75 rfl rfl ?_
          obtain ⟨r87, S88, h1r87, h⟩ := wq_bd_some h
          obtain ⟨S89, eS89, h⟩ := wq_lt_some h
          refine wq_callW (As := [.ref (b + 0), .int (wq_I 0), .int (wq_I (wq_rem j4 3)), .int (wq_I a2)]) (mc := 2) (ms := 12) (n := 14) F K Kn lk_L_137 (wq_Cw_emb (o := 0) (ct_L_at hlt h1r87) (Nat.le_of_ble_eq_true rfl) wq_EL_a (wq_cls_at _)) ⟨(Nat.le_of_ble_eq_true rfl), (Nat.le_of_ble_eq_true rfl)⟩ ⟨by show cc + 0 + 2 ≤ 60; omega, by show ss + 0 + 12 ≤ 360; omega⟩ rfl rfl (Nat.le_of_ble_eq_true rfl) dL_same_77 rfl ?_
          refine wq_namS eS89 ?_
          refine wq_aload_n F dL_same_80 rfl rfl rfl ?_
          refine wq_iconst (n := 0) F dL_same_81 rfl ?_
          refine wq_iload F dL_same_82 rfl rfl ?_
          refine wq_iload F dL_same_84 rfl rfl ?_
          obtain ⟨r90, S91, h1r90, h⟩ := wq_bd_some h
          obtain ⟨S92, eS92, h⟩ := wq_lt_some h
          refine wq_callW (As := [.ref (b + 284), .int (wq_I 0), .int (wq_I (wq_rem j4 3)), .int (wq_I a2)]) (mc := 2) (ms := 12) (n := 14) F K Kn lk_L_137 (wq_Cw_emb (o := 284) (ct_L_at hlt h1r90) (Nat.le_of_ble_eq_true rfl) wq_EL_b (wq_clt_at _)) ⟨(Nat.le_of_ble_eq_true rfl), (Nat.le_of_ble_eq_true rfl)⟩ ⟨by show cc + 2 + 2 ≤ 60; omega, by show ss + 12 + 12 ≤ 360; omega⟩ rfl rfl (Nat.le_of_ble_eq_true rfl) dL_same_86 rfl ?_
          refine wq_namS eS92 ?_
          refine wq_icmp_ne (tgt := 96) F dL_same_89 (by decide) rfl (fun hc => ?_) (fun hc => ?_)
          · replace h := wq_iff hc h
            exact wq_wid (k := cc + 4) (n := ss + 24) (by omega) (by omega) <| wq_lsub [some (.ref (b + 0)), some (.ref (b + 284)), none, some (.ref (b + 569)), some (.int (wq_I j4)), some (.int (wq_I j5)), some (.int (wq_I (wq_rem j4 3))), some (.int (wq_I a2)), some (.int (wq_I (wq_rem (wq_div j4 9) 40))), none, none, none, none, none, none] (by simp [wq_sub]) (tj_L_same_96 (cc := cc + 4) (ss := ss + 24) (c9 := c9) (s9 := s9) F K Kn hlt (by omega) (by omega) hE hF S92 h)
          · replace h := wq_ift hc h
            refine wq_iconst (n := 1) F dL_same_92 rfl ?_
            refine wq_goto (tgt := 97) F dL_same_93 (by decide) ?_
            exact wq_wid (k := cc + 4) (n := ss + 24) (by omega) (by omega) <| wq_lsub [some (.ref (b + 0)), some (.ref (b + 284)), none, some (.ref (b + 569)), some (.int (wq_I j4)), some (.int (wq_I j5)), some (.int (wq_I (wq_rem j4 3))), some (.int (wq_I a2)), some (.int (wq_I (wq_rem (wq_div j4 9) 40))), none, none, none, none, none, none] (by simp [wq_sub]) (tj_L_same_97 (cc := cc + 4) (ss := ss + 24) (c9 := c9) (s9 := s9) F K Kn hlt (by omega) (by omega) hE hF 1 S92 h)
set_option maxHeartbeats 40000000 in
set_option maxRecDepth 100000 in
theorem ct_L_same {l : Launch} (hlt : l.stackTraces = false) {D : va_G} {Ar : Nat → ClassId} {b : Nat} {x4 : Int} {x5 : Int} {S S0 : wq_St} {r0 : Int} (h : f_L_same x4 x5 S = some (r0, S0)) : wq_Cw l yL_same (.code yL_same cL_same 15 ((Option.some Jvm.ClassFile.FieldType.boolean))) 16 60 360 D Ar (wq_EL Ar b) b 570 [.ref (b + 0), .ref (b + 284), .ref (b + 568), .ref (b + 569), .int (wq_I x4), .int (wq_I x5)] S (some (.int (wq_I r0))) S0 := by
  refine wq_startw0 "WharfQueryLaw" [some (.ref (b + 0)), some (.ref (b + 284)), some (.ref (b + 568)), some (.ref (b + 569)), some (.int (wq_I x4)), some (.int (wq_I x5)), none, none, none, none, none, none, none, none, none] (by decide +kernel) rfl (Nat.le_of_ble_eq_true rfl) rfl ?_
  intro p e s m args below meth c F K Kn htab
  unfold f_L_same at h
  exact wq_lsub [some (.ref (b + 0)), some (.ref (b + 284)), some (.ref (b + 568)), some (.ref (b + 569)), some (.int (wq_I x4)), some (.int (wq_I x5)), none, none, none, none, none, none, none, none, none] (by simp [wq_sub]) (tj_L_same_0 (cc := 0) (ss := 0) (c9 := 60) (s9 := 360) F K Kn hlt (by omega) (by omega) (Nat.le_refl _) (Nat.le_refl _) S h)
