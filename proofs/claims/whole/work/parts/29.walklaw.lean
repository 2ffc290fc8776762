set_option maxHeartbeats 40000000 in
set_option maxRecDepth 100000 in
theorem tb_L_law {p : Program} {l : Launch} {e : Env} {s : State} {m : MethodId} {args : Array Value} {below : List Frame} {meth : Method} {c : Code} {D : va_G} {Ar : Nat → ClassId} {b : Nat} {Q : State → Prop} (F : wq_Fr p s m args meth c cL_law 7 ret "WharfQueryLaw" D Ar) (K : wq_Kx b 317 s) (Kn : wq_Nx s) (hlt : l.stackTraces = false) {X : Nat → Int} {b0 LL cc ss : Nat} (hX : va_X b0 LL (fun j => wq_I (X j)) s s.heap) (hbl : b0 < s.heap.size) (hbA : ¬ wq_AX b 317 s.heap.size b0) (hcc : cc + 10 ≤ room_1.cells) (hss : ss + 60 ≤ room_1.slots) {S0 : wq_St} {kx : wq_St → Option (Int × wq_St)} (hkx : ∀ (S : wq_St), kx S = some (1, S0) → wq_Z p l e room_1 s m args below meth c D (wq_EL Ar b) b 317 7 (wq_AX b 317 s.heap.size) Q (cc + 10) (ss + 60) 2462 [none, none, none, none, none, none, none] [] S) {rec : Int → wq_St → Option (Int × wq_St)} (hrec : ∀ (y4 : Int) (S : wq_St), rec y4 S = some (1, S0) → wq_Z p l e room_1 s m args below meth c D (wq_EL Ar b) b 317 7 (wq_AX b 317 s.heap.size) Q (cc + 10) (ss + 60) 23 [some (.ref b0), some (.ref (b + 0)), some (.ref (b + 284)), some (.ref (b + 316)), some (.int (wq_I y4)), none, none] [] S) (y4 : Int) (S : wq_St) (h : b_L_law X LL kx rec y4 S = some (1, S0)) : wq_Z p l e room_1 s m args below meth c D (wq_EL Ar b) b 317 7 (wq_AX b 317 s.heap.size) Q cc ss 23 [some (.ref b0), some (.ref (b + 0)), some (.ref (b + 284)), some (.ref (b + 316)), some (.int (wq_I y4)), none, none] [] S := by
  unfold b_L_law at h
  refine wq_iload F dL_law_23 rfl rfl ?_
  refine wq_aload_n F dL_law_25 rfl rfl rfl ?_
  refine wq_slen F hX hbl hbA dL_law_26 rfl ?_
  refine wq_bipush (n := 6) F dL_law_27 (by decide) rfl ?_
  refine wq_isub F dL_law_29 rfl ?_
  refine wq_icmp_gt (tgt := 2462) F dL_law_30 (by decide) rfl (fun hc => ?_) (fun hc => ?_)
  · replace h := wq_ift hc h
    exact wq_wid (k := cc + 10) (n := ss + 60) (by omega) (by omega) <| wq_lsub [none, none, none, none, none, none, none] (by simp [wq_sub]) (hkx S h)
  · replace h := wq_iff hc h
    refine wq_aload_n F dL_law_33 rfl rfl rfl ?_
    refine wq_iload F dL_law_34 rfl rfl ?_
    obtain ⟨t1, ht1, wt1, h⟩ := wq_ix_some h
    refine wq_sld F hX hbl hbA ht1 wt1 dL_law_36 rfl ?_
    refine wq_bipush (n := 63) F dL_law_37 (by decide) rfl ?_
    refine wq_iand F dL_law_39 rfl ?_
    by_cases hc0 : wq_w (wq_and (X t1) 63) = 0
    · replace h := wq_ift hc0 h
      refine wq_tableIn (tgt := 204) (off := 164) F dL_law_40 (by omega) (by omega) (by rw [hc0]; rfl) (by decide) ?_
      refine wq_aload_n F dL_law_204 rfl rfl rfl ?_
      refine wq_aload_n F dL_law_205 rfl rfl rfl ?_
      refine wq_iload F dL_law_206 rfl rfl ?_
      refine wq_iconst (n := 1) F dL_law_208 rfl ?_
      refine wq_iadd F dL_law_209 rfl ?_
      obtain ⟨t2, ht2, wt2, h⟩ := wq_ix_some h
      refine wq_sld F hX hbl hbA ht2 wt2 dL_law_210 rfl ?_
      refine wq_aload_n F dL_law_211 rfl rfl rfl ?_
      obtain ⟨r3, S4, h1r3, h⟩ := wq_bd_some h
      refine wq_callW (As := [.ref (b + 0), .int (wq_I (X t2)), .ref (b + 316)]) (mc := 1) (ms := 6) (n := 8) F K Kn lk_L_127 (ct_L_addTable hlt h1r3) ⟨(Nat.le_of_ble_eq_true rfl), (Nat.le_of_ble_eq_true rfl)⟩ ⟨by show cc + 1 ≤ room_1.cells; omega, by show ss + 6 ≤ room_1.slots; omega⟩ rfl rfl (Nat.le_of_ble_eq_true rfl) dL_law_212 rfl ?_
      refine wq_istore (L' := [some (.ref b0), some (.ref (b + 0)), some (.ref (b + 284)), some (.ref (b + 316)), some (.int (wq_I y4)), some (.int (wq_I r3)), none]) F dL_law_215 (by decide) rfl rfl rfl ?_
      refine wq_aload_n F dL_law_217 rfl rfl rfl ?_
      refine wq_aload_n F dL_law_218 rfl rfl rfl ?_
      refine wq_iload F dL_law_219 rfl rfl ?_
      refine wq_iconst (n := 1) F dL_law_221 rfl ?_
      refine wq_iadd F dL_law_222 rfl ?_
      obtain ⟨t6, ht6, wt6, h⟩ := wq_ix_some h
      refine wq_sld F hX hbl hbA ht6 wt6 dL_law_223 rfl ?_
      obtain ⟨r7, S8, h1r7, h⟩ := wq_bd_some h
      obtain ⟨S9, eS9, h⟩ := wq_lt_some h
      refine wq_callV (As := [.int (wq_I (X t6))]) (k := 284) (n := 2) F lk_L_132 (wq_Ct_emb (o := 284) (ct_X9_addTable h1r7) (Nat.le_of_ble_eq_true rfl) wq_EL_m (wq_mdl_at _)) ⟨(Nat.le_of_ble_eq_true rfl), (Nat.le_of_ble_eq_true rfl)⟩ ⟨by show cc + 1 ≤ room_1.cells; omega, by show ss + 6 ≤ room_1.slots; omega⟩ (Nat.le_of_ble_eq_true rfl) rfl rfl wq_AbX rfl rfl (Nat.le_of_ble_eq_true rfl) dL_law_224 rfl ?_
      refine wq_namS eS9 ?_
      refine wq_istore (L' := [some (.ref b0), some (.ref (b + 0)), some (.ref (b + 284)), some (.ref (b + 316)), some (.int (wq_I y4)), some (.int (wq_I r3)), some (.int (wq_I r7))]) F dL_law_227 (by decide) rfl rfl rfl ?_
      refine wq_aload_n F dL_law_229 rfl rfl rfl ?_
      obtain ⟨r10, S11, h1r10, h⟩ := wq_bd_some h
      obtain ⟨S12, eS12, h⟩ := wq_lt_some h
      refine wq_callV (As := []) (k := 284) (n := 1) F lk_L_133 (wq_Ct_emb (o := 284) (ct_X9_thrown h1r10) (Nat.le_of_ble_eq_true rfl) wq_EL_m (wq_mdl_at _)) ⟨(Nat.le_of_ble_eq_true rfl), (Nat.le_of_ble_eq_true rfl)⟩ ⟨by show cc + 1 ≤ room_1.cells; omega, by show ss + 6 ≤ room_1.slots; omega⟩ (Nat.le_of_ble_eq_true rfl) rfl rfl wq_AbX rfl rfl (Nat.le_of_ble_eq_true rfl) dL_law_230 rfl ?_
      refine wq_namS eS12 ?_
      refine wq_iload F dL_law_233 rfl rfl ?_
      refine wq_icmp_eq (tgt := 240) F dL_law_235 (by decide) rfl (fun hc => ?_) (fun hc => ?_)
      · replace h := wq_ift hc h
        refine wq_iload F dL_law_240 rfl rfl ?_
        refine wq_if_ne (tgt := 257) F dL_law_242 (by decide) rfl (fun hc => ?_) (fun hc => ?_)
        · replace h := wq_iff hc h
          refine wq_goto (tgt := 2456) F dL_law_257 (by decide) ?_
          refine wq_iinc (L' := [some (.ref b0), some (.ref (b + 0)), some (.ref (b + 284)), some (.ref (b + 316)), some (.int (wq_I (y4 + 6))), some (.int (wq_I r3)), some (.int (wq_I r7))]) F dL_law_2456 rfl (by decide) rfl rfl rfl ?_
          refine wq_goto (tgt := 23) F dL_law_2459 (by decide) ?_
          exact wq_wid (k := cc + 10) (n := ss + 60) (by omega) (by omega) <| wq_lsub [some (.ref b0), some (.ref (b + 0)), some (.ref (b + 284)), some (.ref (b + 316)), some (.int (wq_I (y4 + 6))), none, none] (by simp [wq_sub]) (hrec (y4 + 6) S12 h)
        · replace h := wq_ift hc h
          refine wq_aload_n F dL_law_245 rfl rfl rfl ?_
          refine wq_iconst (n := 0) F dL_law_246 rfl ?_
          obtain ⟨t13, ht13, wt13, h⟩ := wq_ix_some h
          refine wq_lald F (Nat.le_of_ble_eq_true rfl) rfl ht13 wt13 dL_law_247 rfl ?_
          refine wq_iload F dL_law_248 rfl rfl ?_
          refine wq_i2l_ F dL_law_250 rfl ?_
          refine wq_lcmp F dL_law_251 rfl ?_
          refine wq_if_eq (tgt := 257) F dL_law_252 (by decide) rfl (fun hc => ?_) (fun hc => ?_)
          · replace h := wq_ift hc h
            refine wq_goto (tgt := 2456) F dL_law_257 (by decide) ?_
            refine wq_iinc (L' := [some (.ref b0), some (.ref (b + 0)), some (.ref (b + 284)), some (.ref (b + 316)), some (.int (wq_I (y4 + 6))), some (.int (wq_I r3)), some (.int (wq_I r7))]) F dL_law_2456 rfl (by decide) rfl rfl rfl ?_
            refine wq_goto (tgt := 23) F dL_law_2459 (by decide) ?_
            exact wq_wid (k := cc + 10) (n := ss + 60) (by omega) (by omega) <| wq_lsub [some (.ref b0), some (.ref (b + 0)), some (.ref (b + 284)), some (.ref (b + 316)), some (.int (wq_I (y4 + 6))), none, none] (by simp [wq_sub]) (hrec (y4 + 6) S12 h)
          · replace h := wq_iff hc h
            refine wq_iconst (n := 0) F dL_law_255 rfl ?_
            simp at h
      · replace h := wq_iff hc h
        refine wq_iconst (n := 0) F dL_law_238 rfl ?_
        simp at h
    · replace h := wq_iff hc0 h
      by_cases hc1 : wq_w (wq_and (X t1) 63) = 1
      · replace h := wq_ift hc1 h
        refine wq_tableIn (tgt := 260) (off := 220) F dL_law_40 (by omega) (by omega) (by rw [hc1]; rfl) (by decide) ?_
        refine wq_aload_n F dL_law_260 rfl rfl rfl ?_
        refine wq_aload_n F dL_law_261 rfl rfl rfl ?_
        refine wq_iload F dL_law_262 rfl rfl ?_
        refine wq_iconst (n := 1) F dL_law_264 rfl ?_
        refine wq_iadd F dL_law_265 rfl ?_
        obtain ⟨t14, ht14, wt14, h⟩ := wq_ix_some h
        refine wq_sld F hX hbl hbA ht14 wt14 dL_law_266 rfl ?_
        refine wq_aload_n F dL_law_267 rfl rfl rfl ?_
        refine wq_iload F dL_law_268 rfl rfl ?_
        refine wq_iconst (n := 2) F dL_law_270 rfl ?_
        refine wq_iadd F dL_law_271 rfl ?_
        obtain ⟨t15, ht15, wt15, h⟩ := wq_ix_some h
        refine wq_sld F hX hbl hbA ht15 wt15 dL_law_272 rfl ?_
        refine wq_aload_n F dL_law_273 rfl rfl rfl ?_
        refine wq_iload F dL_law_274 rfl rfl ?_
        refine wq_iconst (n := 3) F dL_law_276 rfl ?_
        refine wq_iadd F dL_law_277 rfl ?_
        obtain ⟨t16, ht16, wt16, h⟩ := wq_ix_some h
        refine wq_sld F hX hbl hbA ht16 wt16 dL_law_278 rfl ?_
        refine wq_aload_n F dL_law_279 rfl rfl rfl ?_
        refine wq_iload F dL_law_280 rfl rfl ?_
        refine wq_iconst (n := 4) F dL_law_282 rfl ?_
        refine wq_iadd F dL_law_283 rfl ?_
        obtain ⟨t17, ht17, wt17, h⟩ := wq_ix_some h
        refine wq_sld F hX hbl hbA ht17 wt17 dL_law_284 rfl ?_
        refine wq_aload_n F dL_law_285 rfl rfl rfl ?_
        obtain ⟨r18, S19, h1r18, h⟩ := wq_bd_some h
        refine wq_callW (As := [.ref (b + 0), .int (wq_I (X t14)), .int (wq_I (X t15)), .int (wq_I (X t16)), .int (wq_I (X t17)), .ref (b + 316)]) (mc := 2) (ms := 12) (n := 9) F K Kn lk_L_137 (ct_L_insert hlt h1r18) ⟨(Nat.le_of_ble_eq_true rfl), (Nat.le_of_ble_eq_true rfl)⟩ ⟨by show cc + 2 ≤ room_1.cells; omega, by show ss + 12 ≤ room_1.slots; omega⟩ rfl rfl (Nat.le_of_ble_eq_true rfl) dL_law_286 rfl ?_
        refine wq_istore (L' := [some (.ref b0), some (.ref (b + 0)), some (.ref (b + 284)), some (.ref (b + 316)), some (.int (wq_I y4)), some (.int (wq_I r18)), none]) F dL_law_289 (by decide) rfl rfl rfl ?_
        refine wq_aload_n F dL_law_291 rfl rfl rfl ?_
        refine wq_aload_n F dL_law_292 rfl rfl rfl ?_
        refine wq_iload F dL_law_293 rfl rfl ?_
        refine wq_iconst (n := 1) F dL_law_295 rfl ?_
        refine wq_iadd F dL_law_296 rfl ?_
        obtain ⟨t21, ht21, wt21, h⟩ := wq_ix_some h
        refine wq_sld F hX hbl hbA ht21 wt21 dL_law_297 rfl ?_
        refine wq_aload_n F dL_law_298 rfl rfl rfl ?_
        refine wq_iload F dL_law_299 rfl rfl ?_
        refine wq_iconst (n := 2) F dL_law_301 rfl ?_
        refine wq_iadd F dL_law_302 rfl ?_
        obtain ⟨t22, ht22, wt22, h⟩ := wq_ix_some h
        refine wq_sld F hX hbl hbA ht22 wt22 dL_law_303 rfl ?_
        refine wq_aload_n F dL_law_304 rfl rfl rfl ?_
        refine wq_iload F dL_law_305 rfl rfl ?_
        refine wq_iconst (n := 3) F dL_law_307 rfl ?_
        refine wq_iadd F dL_law_308 rfl ?_
        obtain ⟨t23, ht23, wt23, h⟩ := wq_ix_some h
        refine wq_sld F hX hbl hbA ht23 wt23 dL_law_309 rfl ?_
        refine wq_aload_n F dL_law_310 rfl rfl rfl ?_
        refine wq_iload F dL_law_311 rfl rfl ?_
        refine wq_iconst (n := 4) F dL_law_313 rfl ?_
        refine wq_iadd F dL_law_314 rfl ?_
        obtain ⟨t24, ht24, wt24, h⟩ := wq_ix_some h
        refine wq_sld F hX hbl hbA ht24 wt24 dL_law_315 rfl ?_
        obtain ⟨r25, S26, h1r25, h⟩ := wq_bd_some h
        obtain ⟨S27, eS27, h⟩ := wq_lt_some h
        refine wq_callV (As := [.int (wq_I (X t21)), .int (wq_I (X t22)), .int (wq_I (X t23)), .int (wq_I (X t24))]) (k := 284) (n := 3) F lk_L_140 (wq_Ct_emb (o := 284) (ct_X9_insert h1r25) (Nat.le_of_ble_eq_true rfl) wq_EL_m (wq_mdl_at _)) ⟨(Nat.le_of_ble_eq_true rfl), (Nat.le_of_ble_eq_true rfl)⟩ ⟨by show cc + 2 ≤ room_1.cells; omega, by show ss + 12 ≤ room_1.slots; omega⟩ (Nat.le_of_ble_eq_true rfl) rfl rfl wq_AbX rfl rfl (Nat.le_of_ble_eq_true rfl) dL_law_316 rfl ?_
        refine wq_namS eS27 ?_
        refine wq_istore (L' := [some (.ref b0), some (.ref (b + 0)), some (.ref (b + 284)), some (.ref (b + 316)), some (.int (wq_I y4)), some (.int (wq_I r18)), some (.int (wq_I r25))]) F dL_law_319 (by decide) rfl rfl rfl ?_
        refine wq_aload_n F dL_law_321 rfl rfl rfl ?_
        obtain ⟨r28, S29, h1r28, h⟩ := wq_bd_some h
        obtain ⟨S30, eS30, h⟩ := wq_lt_some h
        refine wq_callV (As := []) (k := 284) (n := 1) F lk_L_133 (wq_Ct_emb (o := 284) (ct_X9_thrown h1r28) (Nat.le_of_ble_eq_true rfl) wq_EL_m (wq_mdl_at _)) ⟨(Nat.le_of_ble_eq_true rfl), (Nat.le_of_ble_eq_true rfl)⟩ ⟨by show cc + 2 ≤ room_1.cells; omega, by show ss + 12 ≤ room_1.slots; omega⟩ (Nat.le_of_ble_eq_true rfl) rfl rfl wq_AbX rfl rfl (Nat.le_of_ble_eq_true rfl) dL_law_322 rfl ?_
        refine wq_namS eS30 ?_
        refine wq_iload F dL_law_325 rfl rfl ?_
        refine wq_icmp_eq (tgt := 332) F dL_law_327 (by decide) rfl (fun hc => ?_) (fun hc => ?_)
        · replace h := wq_ift hc h
          refine wq_iload F dL_law_332 rfl rfl ?_
          refine wq_if_ne (tgt := 349) F dL_law_334 (by decide) rfl (fun hc => ?_) (fun hc => ?_)
          · replace h := wq_iff hc h
            refine wq_goto (tgt := 2456) F dL_law_349 (by decide) ?_
            refine wq_iinc (L' := [some (.ref b0), some (.ref (b + 0)), some (.ref (b + 284)), some (.ref (b + 316)), some (.int (wq_I (y4 + 6))), some (.int (wq_I r18)), some (.int (wq_I r25))]) F dL_law_2456 rfl (by decide) rfl rfl rfl ?_
            refine wq_goto (tgt := 23) F dL_law_2459 (by decide) ?_
            exact wq_wid (k := cc + 10) (n := ss + 60) (by omega) (by omega) <| wq_lsub [some (.ref b0), some (.ref (b + 0)), some (.ref (b + 284)), some (.ref (b + 316)), some (.int (wq_I (y4 + 6))), none, none] (by simp [wq_sub]) (hrec (y4 + 6) S30 h)
          · replace h := wq_ift hc h
            refine wq_aload_n F dL_law_337 rfl rfl rfl ?_
            refine wq_iconst (n := 0) F dL_law_338 rfl ?_
            obtain ⟨t31, ht31, wt31, h⟩ := wq_ix_some h
            refine wq_lald F (Nat.le_of_ble_eq_true rfl) rfl ht31 wt31 dL_law_339 rfl ?_
            refine wq_iload F dL_law_340 rfl rfl ?_
            refine wq_i2l_ F dL_law_342 rfl ?_
            refine wq_lcmp F dL_law_343 rfl ?_
            refine wq_if_eq (tgt := 349) F dL_law_344 (by decide) rfl (fun hc => ?_) (fun hc => ?_)
            · replace h := wq_ift hc h
              refine wq_goto (tgt := 2456) F dL_law_349 (by decide) ?_
              refine wq_iinc (L' := [some (.ref b0), some (.ref (b + 0)), some (.ref (b + 284)), some (.ref (b + 316)), some (.int (wq_I (y4 + 6))), some (.int (wq_I r18)), some (.int (wq_I r25))]) F dL_law_2456 rfl (by decide) rfl rfl rfl ?_
              refine wq_goto (tgt := 23) F dL_law_2459 (by decide) ?_
              exact wq_wid (k := cc + 10) (n := ss + 60) (by omega) (by omega) <| wq_lsub [some (.ref b0), some (.ref (b + 0)), some (.ref (b + 284)), some (.ref (b + 316)), some (.int (wq_I (y4 + 6))), none, none] (by simp [wq_sub]) (hrec (y4 + 6) S30 h)
            · replace h := wq_iff hc h
              refine wq_iconst (n := 0) F dL_law_347 rfl ?_
              simp at h
        · replace h := wq_iff hc h
          refine wq_iconst (n := 0) F dL_law_330 rfl ?_
          simp at h
      · replace h := wq_iff hc1 h
        by_cases hc2 : wq_w (wq_and (X t1) 63) = 2
        · replace h := wq_ift hc2 h
          refine wq_tableIn (tgt := 352) (off := 312) F dL_law_40 (by omega) (by omega) (by rw [hc2]; rfl) (by decide) ?_
          refine wq_aload_n F dL_law_352 rfl rfl rfl ?_
          refine wq_aload_n F dL_law_353 rfl rfl rfl ?_
          refine wq_iload F dL_law_354 rfl rfl ?_
          refine wq_iconst (n := 1) F dL_law_356 rfl ?_
          refine wq_iadd F dL_law_357 rfl ?_
          obtain ⟨t32, ht32, wt32, h⟩ := wq_ix_some h
          refine wq_sld F hX hbl hbA ht32 wt32 dL_law_358 rfl ?_
          refine wq_aload_n F dL_law_359 rfl rfl rfl ?_
          refine wq_iload F dL_law_360 rfl rfl ?_
          refine wq_iconst (n := 2) F dL_law_362 rfl ?_
          refine wq_iadd F dL_law_363 rfl ?_
          obtain ⟨t33, ht33, wt33, h⟩ := wq_ix_some h
          refine wq_sld F hX hbl hbA ht33 wt33 dL_law_364 rfl ?_
          refine wq_aload_n F dL_law_365 rfl rfl rfl ?_
          obtain ⟨r34, S35, h1r34, h⟩ := wq_bd_some h
          refine wq_callW (As := [.ref (b + 0), .int (wq_I (X t32)), .int (wq_I (X t33)), .ref (b + 316)]) (mc := 2) (ms := 12) (n := 9) F K Kn lk_L_141 (ct_L_delete hlt h1r34) ⟨(Nat.le_of_ble_eq_true rfl), (Nat.le_of_ble_eq_true rfl)⟩ ⟨by show cc + 2 ≤ room_1.cells; omega, by show ss + 12 ≤ room_1.slots; omega⟩ rfl rfl (Nat.le_of_ble_eq_true rfl) dL_law_366 rfl ?_
          refine wq_istore (L' := [some (.ref b0), some (.ref (b + 0)), some (.ref (b + 284)), some (.ref (b + 316)), some (.int (wq_I y4)), some (.int (wq_I r34)), none]) F dL_law_369 (by decide) rfl rfl rfl ?_
          refine wq_aload_n F dL_law_371 rfl rfl rfl ?_
          refine wq_aload_n F dL_law_372 rfl rfl rfl ?_
          refine wq_iload F dL_law_373 rfl rfl ?_
          refine wq_iconst (n := 1) F dL_law_375 rfl ?_
          refine wq_iadd F dL_law_376 rfl ?_
          obtain ⟨t37, ht37, wt37, h⟩ := wq_ix_some h
          refine wq_sld F hX hbl hbA ht37 wt37 dL_law_377 rfl ?_
          refine wq_aload_n F dL_law_378 rfl rfl rfl ?_
          refine wq_iload F dL_law_379 rfl rfl ?_
          refine wq_iconst (n := 2) F dL_law_381 rfl ?_
          refine wq_iadd F dL_law_382 rfl ?_
          obtain ⟨t38, ht38, wt38, h⟩ := wq_ix_some h
          refine wq_sld F hX hbl hbA ht38 wt38 dL_law_383 rfl ?_
          obtain ⟨r39, S40, h1r39, h⟩ := wq_bd_some h
          obtain ⟨S41, eS41, h⟩ := wq_lt_some h
          refine wq_callV (As := [.int (wq_I (X t37)), .int (wq_I (X t38))]) (k := 284) (n := 4) F lk_L_144 (wq_Ct_emb (o := 284) (ct_X9_delete h1r39) (Nat.le_of_ble_eq_true rfl) wq_EL_m (wq_mdl_at _)) ⟨(Nat.le_of_ble_eq_true rfl), (Nat.le_of_ble_eq_true rfl)⟩ ⟨by show cc + 2 ≤ room_1.cells; omega, by show ss + 12 ≤ room_1.slots; omega⟩ (Nat.le_of_ble_eq_true rfl) rfl rfl wq_AbX rfl rfl (Nat.le_of_ble_eq_true rfl) dL_law_384 rfl ?_
          refine wq_namS eS41 ?_
          refine wq_istore (L' := [some (.ref b0), some (.ref (b + 0)), some (.ref (b + 284)), some (.ref (b + 316)), some (.int (wq_I y4)), some (.int (wq_I r34)), some (.int (wq_I r39))]) F dL_law_387 (by decide) rfl rfl rfl ?_
          refine wq_aload_n F dL_law_389 rfl rfl rfl ?_
          obtain ⟨r42, S43, h1r42, h⟩ := wq_bd_some h
          obtain ⟨S44, eS44, h⟩ := wq_lt_some h
          refine wq_callV (As := []) (k := 284) (n := 1) F lk_L_133 (wq_Ct_emb (o := 284) (ct_X9_thrown h1r42) (Nat.le_of_ble_eq_true rfl) wq_EL_m (wq_mdl_at _)) ⟨(Nat.le_of_ble_eq_true rfl), (Nat.le_of_ble_eq_true rfl)⟩ ⟨by show cc + 2 ≤ room_1.cells; omega, by show ss + 12 ≤ room_1.slots; omega⟩ (Nat.le_of_ble_eq_true rfl) rfl rfl wq_AbX rfl rfl (Nat.le_of_ble_eq_true rfl) dL_law_390 rfl ?_
          refine wq_namS eS44 ?_
          refine wq_iload F dL_law_393 rfl rfl ?_
          refine wq_icmp_eq (tgt := 400) F dL_law_395 (by decide) rfl (fun hc => ?_) (fun hc => ?_)
          · replace h := wq_ift hc h
            refine wq_iload F dL_law_400 rfl rfl ?_
            refine wq_if_ne (tgt := 417) F dL_law_402 (by decide) rfl (fun hc => ?_) (fun hc => ?_)
            · replace h := wq_iff hc h
              refine wq_goto (tgt := 2456) F dL_law_417 (by decide) ?_
              refine wq_iinc (L' := [some (.ref b0), some (.ref (b + 0)), some (.ref (b + 284)), some (.ref (b + 316)), some (.int (wq_I (y4 + 6))), some (.int (wq_I r34)), some (.int (wq_I r39))]) F dL_law_2456 rfl (by decide) rfl rfl rfl ?_
              refine wq_goto (tgt := 23) F dL_law_2459 (by decide) ?_
              exact wq_wid (k := cc + 10) (n := ss + 60) (by omega) (by omega) <| wq_lsub [some (.ref b0), some (.ref (b + 0)), some (.ref (b + 284)), some (.ref (b + 316)), some (.int (wq_I (y4 + 6))), none, none] (by simp [wq_sub]) (hrec (y4 + 6) S44 h)
            · replace h := wq_ift hc h
              refine wq_aload_n F dL_law_405 rfl rfl rfl ?_
              refine wq_iconst (n := 0) F dL_law_406 rfl ?_
              obtain ⟨t45, ht45, wt45, h⟩ := wq_ix_some h
              refine wq_lald F (Nat.le_of_ble_eq_true rfl) rfl ht45 wt45 dL_law_407 rfl ?_
              refine wq_iload F dL_law_408 rfl rfl ?_
              refine wq_i2l_ F dL_law_410 rfl ?_
              refine wq_lcmp F dL_law_411 rfl ?_
              refine wq_if_eq (tgt := 417) F dL_law_412 (by decide) rfl (fun hc => ?_) (fun hc => ?_)
              · replace h := wq_ift hc h
                refine wq_goto (tgt := 2456) F dL_law_417 (by decide) ?_
                refine wq_iinc (L' := [some (.ref b0), some (.ref (b + 0)), some (.ref (b + 284)), some (.ref (b + 316)), some (.int (wq_I (y4 + 6))), some (.int (wq_I r34)), some (.int (wq_I r39))]) F dL_law_2456 rfl (by decide) rfl rfl rfl ?_
                refine wq_goto (tgt := 23) F dL_law_2459 (by decide) ?_
                exact wq_wid (k := cc + 10) (n := ss + 60) (by omega) (by omega) <| wq_lsub [some (.ref b0), some (.ref (b + 0)), some (.ref (b + 284)), some (.ref (b + 316)), some (.int (wq_I (y4 + 6))), none, none] (by simp [wq_sub]) (hrec (y4 + 6) S44 h)
              · replace h := wq_iff hc h
                refine wq_iconst (n := 0) F dL_law_415 rfl ?_
                simp at h
          · replace h := wq_iff hc h
            refine wq_iconst (n := 0) F dL_law_398 rfl ?_
            simp at h
        · replace h := wq_iff hc2 h
          by_cases hc3 : wq_w (wq_and (X t1) 63) = 3
          · replace h := wq_ift hc3 h
            refine wq_tableIn (tgt := 420) (off := 380) F dL_law_40 (by omega) (by omega) (by rw [hc3]; rfl) (by decide) ?_
            refine wq_aload_n F dL_law_420 rfl rfl rfl ?_
            refine wq_aload_n F dL_law_421 rfl rfl rfl ?_
            refine wq_iload F dL_law_422 rfl rfl ?_
            refine wq_iconst (n := 1) F dL_law_424 rfl ?_
            refine wq_iadd F dL_law_425 rfl ?_
            obtain ⟨t46, ht46, wt46, h⟩ := wq_ix_some h
            refine wq_sld F hX hbl hbA ht46 wt46 dL_law_426 rfl ?_
            refine wq_aload_n F dL_law_427 rfl rfl rfl ?_
            refine wq_iload F dL_law_428 rfl rfl ?_
            refine wq_iconst (n := 2) F dL_law_430 rfl ?_
            refine wq_iadd F dL_law_431 rfl ?_
            obtain ⟨t47, ht47, wt47, h⟩ := wq_ix_some h
            refine wq_sld F hX hbl hbA ht47 wt47 dL_law_432 rfl ?_
            refine wq_aload_n F dL_law_433 rfl rfl rfl ?_
            refine wq_iload F dL_law_434 rfl rfl ?_
            refine wq_iconst (n := 3) F dL_law_436 rfl ?_
            refine wq_iadd F dL_law_437 rfl ?_
            obtain ⟨t48, ht48, wt48, h⟩ := wq_ix_some h
            refine wq_sld F hX hbl hbA ht48 wt48 dL_law_438 rfl ?_
            refine wq_if_eq (tgt := 446) F dL_law_439 (by decide) rfl (fun hc => ?_) (fun hc => ?_)
            · replace h := wq_ift hc h
              refine wq_iconst (n := 0) F dL_law_446 rfl ?_
              refine wq_aload_n F dL_law_447 rfl rfl rfl ?_
              obtain ⟨r49, S50, h1r49, h⟩ := wq_bd_some h
              refine wq_callW (As := [.ref (b + 0), .int (wq_I (X t46)), .int (wq_I (X t47)), .int (wq_I 0), .ref (b + 316)]) (mc := 2) (ms := 12) (n := 10) F K Kn lk_L_145 (ct_L_setIndex hlt h1r49) ⟨(Nat.le_of_ble_eq_true rfl), (Nat.le_of_ble_eq_true rfl)⟩ ⟨by show cc + 2 ≤ room_1.cells; omega, by show ss + 12 ≤ room_1.slots; omega⟩ rfl rfl (Nat.le_of_ble_eq_true rfl) dL_law_448 rfl ?_
              refine wq_istore (L' := [some (.ref b0), some (.ref (b + 0)), some (.ref (b + 284)), some (.ref (b + 316)), some (.int (wq_I y4)), some (.int (wq_I r49)), none]) F dL_law_451 (by decide) rfl rfl rfl ?_
              refine wq_aload_n F dL_law_453 rfl rfl rfl ?_
              refine wq_aload_n F dL_law_454 rfl rfl rfl ?_
              refine wq_iload F dL_law_455 rfl rfl ?_
              refine wq_iconst (n := 1) F dL_law_457 rfl ?_
              refine wq_iadd F dL_law_458 rfl ?_
              obtain ⟨t52, ht52, wt52, h⟩ := wq_ix_some h
              refine wq_sld F hX hbl hbA ht52 wt52 dL_law_459 rfl ?_
              refine wq_aload_n F dL_law_460 rfl rfl rfl ?_
              refine wq_iload F dL_law_461 rfl rfl ?_
              refine wq_iconst (n := 2) F dL_law_463 rfl ?_
              refine wq_iadd F dL_law_464 rfl ?_
              obtain ⟨t53, ht53, wt53, h⟩ := wq_ix_some h
              refine wq_sld F hX hbl hbA ht53 wt53 dL_law_465 rfl ?_
              refine wq_aload_n F dL_law_466 rfl rfl rfl ?_
              refine wq_iload F dL_law_467 rfl rfl ?_
              refine wq_iconst (n := 3) F dL_law_469 rfl ?_
              refine wq_iadd F dL_law_470 rfl ?_
              obtain ⟨t54, ht54, wt54, h⟩ := wq_ix_some h
              refine wq_sld F hX hbl hbA ht54 wt54 dL_law_471 rfl ?_
              refine wq_if_eq (tgt := 479) F dL_law_472 (by decide) rfl (fun hc => ?_) (fun hc => ?_)
              · replace h := wq_ift hc h
                refine wq_iconst (n := 0) F dL_law_479 rfl ?_
                obtain ⟨r55, S56, h1r55, h⟩ := wq_bd_some h
                obtain ⟨S57, eS57, h⟩ := wq_lt_some h
                refine wq_callV (As := [.int (wq_I (X t52)), .int (wq_I (X t53)), .int (wq_I 0)]) (k := 284) (n := 4) F lk_L_148 (wq_Ct_emb (o := 284) (ct_X9_setIndex h1r55) (Nat.le_of_ble_eq_true rfl) wq_EL_m (wq_mdl_at _)) ⟨(Nat.le_of_ble_eq_true rfl), (Nat.le_of_ble_eq_true rfl)⟩ ⟨by show cc + 2 ≤ room_1.cells; omega, by show ss + 12 ≤ room_1.slots; omega⟩ (Nat.le_of_ble_eq_true rfl) rfl rfl wq_AbX rfl rfl (Nat.le_of_ble_eq_true rfl) dL_law_480 rfl ?_
                refine wq_namS eS57 ?_
                refine wq_istore (L' := [some (.ref b0), some (.ref (b + 0)), some (.ref (b + 284)), some (.ref (b + 316)), some (.int (wq_I y4)), some (.int (wq_I r49)), some (.int (wq_I r55))]) F dL_law_483 (by decide) rfl rfl rfl ?_
                refine wq_aload_n F dL_law_485 rfl rfl rfl ?_
                obtain ⟨r58, S59, h1r58, h⟩ := wq_bd_some h
                obtain ⟨S60, eS60, h⟩ := wq_lt_some h
                refine wq_callV (As := []) (k := 284) (n := 1) F lk_L_133 (wq_Ct_emb (o := 284) (ct_X9_thrown h1r58) (Nat.le_of_ble_eq_true rfl) wq_EL_m (wq_mdl_at _)) ⟨(Nat.le_of_ble_eq_true rfl), (Nat.le_of_ble_eq_true rfl)⟩ ⟨by show cc + 2 ≤ room_1.cells; omega, by show ss + 12 ≤ room_1.slots; omega⟩ (Nat.le_of_ble_eq_true rfl) rfl rfl wq_AbX rfl rfl (Nat.le_of_ble_eq_true rfl) dL_law_486 rfl ?_
                refine wq_namS eS60 ?_
                refine wq_iload F dL_law_489 rfl rfl ?_
                refine wq_icmp_eq (tgt := 496) F dL_law_491 (by decide) rfl (fun hc => ?_) (fun hc => ?_)
                · replace h := wq_ift hc h
                  refine wq_iload F dL_law_496 rfl rfl ?_
                  refine wq_if_ne (tgt := 520) F dL_law_498 (by decide) rfl (fun hc => ?_) (fun hc => ?_)
                  · replace h := wq_iff hc h
                    refine wq_goto (tgt := 2456) F dL_law_520 (by decide) ?_
                    refine wq_iinc (L' := [some (.ref b0), some (.ref (b + 0)), some (.ref (b + 284)), some (.ref (b + 316)), some (.int (wq_I (y4 + 6))), some (.int (wq_I r49)), some (.int (wq_I r55))]) F dL_law_2456 rfl (by decide) rfl rfl rfl ?_
                    refine wq_goto (tgt := 23) F dL_law_2459 (by decide) ?_
                    exact wq_wid (k := cc + 10) (n := ss + 60) (by omega) (by omega) <| wq_lsub [some (.ref b0), some (.ref (b + 0)), some (.ref (b + 284)), some (.ref (b + 316)), some (.int (wq_I (y4 + 6))), none, none] (by simp [wq_sub]) (hrec (y4 + 6) S60 h)
                  · replace h := wq_ift hc h
                    refine wq_aload_n F dL_law_501 rfl rfl rfl ?_
                    refine wq_iconst (n := 0) F dL_law_502 rfl ?_
                    obtain ⟨t61, ht61, wt61, h⟩ := wq_ix_some h
                    refine wq_lald F (Nat.le_of_ble_eq_true rfl) rfl ht61 wt61 dL_law_503 rfl ?_
                    refine wq_iload F dL_law_504 rfl rfl ?_
                    refine wq_if_eq (tgt := 513) F dL_law_506 (by decide) rfl (fun hc => ?_) (fun hc => ?_)
                    · replace h := wq_ift hc h
                      refine wq_lconst (v := 0) F dL_law_513 rfl rfl ?_
                      refine wq_lcmp F dL_law_514 rfl ?_
                      refine wq_if_eq (tgt := 520) F dL_law_515 (by decide) rfl (fun hc => ?_) (fun hc => ?_)
                      · replace h := wq_ift hc h
                        refine wq_goto (tgt := 2456) F dL_law_520 (by decide) ?_
                        refine wq_iinc (L' := [some (.ref b0), some (.ref (b + 0)), some (.ref (b + 284)), some (.ref (b + 316)), some (.int (wq_I (y4 + 6))), some (.int (wq_I r49)), some (.int (wq_I r55))]) F dL_law_2456 rfl (by decide) rfl rfl rfl ?_
                        refine wq_goto (tgt := 23) F dL_law_2459 (by decide) ?_
                        exact wq_wid (k := cc + 10) (n := ss + 60) (by omega) (by omega) <| wq_lsub [some (.ref b0), some (.ref (b + 0)), some (.ref (b + 284)), some (.ref (b + 316)), some (.int (wq_I (y4 + 6))), none, none] (by simp [wq_sub]) (hrec (y4 + 6) S60 h)
                      · replace h := wq_iff hc h
                        refine wq_iconst (n := 0) F dL_law_518 rfl ?_
                        simp at h
                    · replace h := wq_iff hc h
                      refine wq_lconst (v := 1) F dL_law_509 rfl rfl ?_
                      refine wq_goto (tgt := 514) F dL_law_510 (by decide) ?_
                      refine wq_lcmp F dL_law_514 rfl ?_
                      refine wq_if_eq (tgt := 520) F dL_law_515 (by decide) rfl (fun hc => ?_) (fun hc => ?_)
                      · replace h := wq_ift hc h
                        refine wq_goto (tgt := 2456) F dL_law_520 (by decide) ?_
                        refine wq_iinc (L' := [some (.ref b0), some (.ref (b + 0)), some (.ref (b + 284)), some (.ref (b + 316)), some (.int (wq_I (y4 + 6))), some (.int (wq_I r49)), some (.int (wq_I r55))]) F dL_law_2456 rfl (by decide) rfl rfl rfl ?_
                        refine wq_goto (tgt := 23) F dL_law_2459 (by decide) ?_
                        exact wq_wid (k := cc + 10) (n := ss + 60) (by omega) (by omega) <| wq_lsub [some (.ref b0), some (.ref (b + 0)), some (.ref (b + 284)), some (.ref (b + 316)), some (.int (wq_I (y4 + 6))), none, none] (by simp [wq_sub]) (hrec (y4 + 6) S60 h)
                      · replace h := wq_iff hc h
                        refine wq_iconst (n := 0) F dL_law_518 rfl ?_
                        simp at h
                · replace h := wq_iff hc h
                  refine wq_iconst (n := 0) F dL_law_494 rfl ?_
                  simp at h
              · replace h := wq_iff hc h
                refine wq_iconst (n := 1) F dL_law_475 rfl ?_
                refine wq_goto (tgt := 480) F dL_law_476 (by decide) ?_
                obtain ⟨r62, S63, h1r62, h⟩ := wq_bd_some h
                obtain ⟨S64, eS64, h⟩ := wq_lt_some h
                refine wq_callV (As := [.int (wq_I (X t52)), .int (wq_I (X t53)), .int (wq_I 1)]) (k := 284) (n := 4) F lk_L_148 (wq_Ct_emb (o := 284) (ct_X9_setIndex h1r62) (Nat.le_of_ble_eq_true rfl) wq_EL_m (wq_mdl_at _)) ⟨(Nat.le_of_ble_eq_true rfl), (Nat.le_of_ble_eq_true rfl)⟩ ⟨by show cc + 2 ≤ room_1.cells; omega, by show ss + 12 ≤ room_1.slots; omega⟩ (Nat.le_of_ble_eq_true rfl) rfl rfl wq_AbX rfl rfl (Nat.le_of_ble_eq_true rfl) dL_law_480 rfl ?_
                refine wq_namS eS64 ?_
                refine wq_istore (L' := [some (.ref b0), some (.ref (b + 0)), some (.ref (b + 284)), some (.ref (b + 316)), some (.int (wq_I y4)), some (.int (wq_I r49)), some (.int (wq_I r62))]) F dL_law_483 (by decide) rfl rfl rfl ?_
                refine wq_aload_n F dL_law_485 rfl rfl rfl ?_
                obtain ⟨r65, S66, h1r65, h⟩ := wq_bd_some h
                obtain ⟨S67, eS67, h⟩ := wq_lt_some h
                refine wq_callV (As := []) (k := 284) (n := 1) F lk_L_133 (wq_Ct_emb (o := 284) (ct_X9_thrown h1r65) (Nat.le_of_ble_eq_true rfl) wq_EL_m (wq_mdl_at _)) ⟨(Nat.le_of_ble_eq_true rfl), (Nat.le_of_ble_eq_true rfl)⟩ ⟨by show cc + 2 ≤ room_1.cells; omega, by show ss + 12 ≤ room_1.slots; omega⟩ (Nat.le_of_ble_eq_true rfl) rfl rfl wq_AbX rfl rfl (Nat.le_of_ble_eq_true rfl) dL_law_486 rfl ?_
                refine wq_namS eS67 ?_
                refine wq_iload F dL_law_489 rfl rfl ?_
                refine wq_icmp_eq (tgt := 496) F dL_law_491 (by decide) rfl (fun hc => ?_) (fun hc => ?_)
                · replace h := wq_ift hc h
                  refine wq_iload F dL_law_496 rfl rfl ?_
                  refine wq_if_ne (tgt := 520) F dL_law_498 (by decide) rfl (fun hc => ?_) (fun hc => ?_)
                  · replace h := wq_iff hc h
                    refine wq_goto (tgt := 2456) F dL_law_520 (by decide) ?_
                    refine wq_iinc (L' := [some (.ref b0), some (.ref (b + 0)), some (.ref (b + 284)), some (.ref (b + 316)), some (.int (wq_I (y4 + 6))), some (.int (wq_I r49)), some (.int (wq_I r62))]) F dL_law_2456 rfl (by decide) rfl rfl rfl ?_
                    refine wq_goto (tgt := 23) F dL_law_2459 (by decide) ?_
                    exact wq_wid (k := cc + 10) (n := ss + 60) (by omega) (by omega) <| wq_lsub [some (.ref b0), some (.ref (b + 0)), some (.ref (b + 284)), some (.ref (b + 316)), some (.int (wq_I (y4 + 6))), none, none] (by simp [wq_sub]) (hrec (y4 + 6) S67 h)
                  · replace h := wq_ift hc h
                    refine wq_aload_n F dL_law_501 rfl rfl rfl ?_
                    refine wq_iconst (n := 0) F dL_law_502 rfl ?_
                    obtain ⟨t68, ht68, wt68, h⟩ := wq_ix_some h
                    refine wq_lald F (Nat.le_of_ble_eq_true rfl) rfl ht68 wt68 dL_law_503 rfl ?_
                    refine wq_iload F dL_law_504 rfl rfl ?_
                    refine wq_if_eq (tgt := 513) F dL_law_506 (by decide) rfl (fun hc => ?_) (fun hc => ?_)
                    · replace h := wq_ift hc h
                      refine wq_lconst (v := 0) F dL_law_513 rfl rfl ?_
                      refine wq_lcmp F dL_law_514 rfl ?_
                      refine wq_if_eq (tgt := 520) F dL_law_515 (by decide) rfl (fun hc => ?_) (fun hc => ?_)
                      · replace h := wq_ift hc h
                        refine wq_goto (tgt := 2456) F dL_law_520 (by decide) ?_
                        refine wq_iinc (L' := [some (.ref b0), some (.ref (b + 0)), some (.ref (b + 284)), some (.ref (b + 316)), some (.int (wq_I (y4 + 6))), some (.int (wq_I r49)), some (.int (wq_I r62))]) F dL_law_2456 rfl (by decide) rfl rfl rfl ?_
                        refine wq_goto (tgt := 23) F dL_law_2459 (by decide) ?_
                        exact wq_wid (k := cc + 10) (n := ss + 60) (by omega) (by omega) <| wq_lsub [some (.ref b0), some (.ref (b + 0)), some (.ref (b + 284)), some (.ref (b + 316)), some (.int (wq_I (y4 + 6))), none, none] (by simp [wq_sub]) (hrec (y4 + 6) S67 h)
                      · replace h := wq_iff hc h
                        refine wq_iconst (n := 0) F dL_law_518 rfl ?_
                        simp at h
                    · replace h := wq_iff hc h
                      refine wq_lconst (v := 1) F dL_law_509 rfl rfl ?_
                      refine wq_goto (tgt := 514) F dL_law_510 (by decide) ?_
                      refine wq_lcmp F dL_law_514 rfl ?_
                      refine wq_if_eq (tgt := 520) F dL_law_515 (by decide) rfl (fun hc => ?_) (fun hc => ?_)
                      · replace h := wq_ift hc h
                        refine wq_goto (tgt := 2456) F dL_law_520 (by decide) ?_
                        refine wq_iinc (L' := [some (.ref b0), some (.ref (b + 0)), some (.ref (b + 284)), some (.ref (b + 316)), some (.int (wq_I (y4 + 6))), some (.int (wq_I r49)), some (.int (wq_I r62))]) F dL_law_2456 rfl (by decide) rfl rfl rfl ?_
                        refine wq_goto (tgt := 23) F dL_law_2459 (by decide) ?_
                        exact wq_wid (k := cc + 10) (n := ss + 60) (by omega) (by omega) <| wq_lsub [some (.ref b0), some (.ref (b + 0)), some (.ref (b + 284)), some (.ref (b + 316)), some (.int (wq_I (y4 + 6))), none, none] (by simp [wq_sub]) (hrec (y4 + 6) S67 h)
                      · replace h := wq_iff hc h
                        refine wq_iconst (n := 0) F dL_law_518 rfl ?_
                        simp at h
                · replace h := wq_iff hc h
                  refine wq_iconst (n := 0) F dL_law_494 rfl ?_
                  simp at h
            · replace h := wq_iff hc h
              refine wq_iconst (n := 1) F dL_law_442 rfl ?_
              refine wq_goto (tgt := 447) F dL_law_443 (by decide) ?_
              refine wq_aload_n F dL_law_447 rfl rfl rfl ?_
              obtain ⟨r69, S70, h1r69, h⟩ := wq_bd_some h
              refine wq_callW (As := [.ref (b + 0), .int (wq_I (X t46)), .int (wq_I (X t47)), .int (wq_I 1), .ref (b + 316)]) (mc := 2) (ms := 12) (n := 10) F K Kn lk_L_145 (ct_L_setIndex hlt h1r69) ⟨(Nat.le_of_ble_eq_true rfl), (Nat.le_of_ble_eq_true rfl)⟩ ⟨by show cc + 2 ≤ room_1.cells; omega, by show ss + 12 ≤ room_1.slots; omega⟩ rfl rfl (Nat.le_of_ble_eq_true rfl) dL_law_448 rfl ?_
              refine wq_istore (L' := [some (.ref b0), some (.ref (b + 0)), some (.ref (b + 284)), some (.ref (b + 316)), some (.int (wq_I y4)), some (.int (wq_I r69)), none]) F dL_law_451 (by decide) rfl rfl rfl ?_
              refine wq_aload_n F dL_law_453 rfl rfl rfl ?_
              refine wq_aload_n F dL_law_454 rfl rfl rfl ?_
              refine wq_iload F dL_law_455 rfl rfl ?_
              refine wq_iconst (n := 1) F dL_law_457 rfl ?_
              refine wq_iadd F dL_law_458 rfl ?_
              obtain ⟨t72, ht72, wt72, h⟩ := wq_ix_some h
              refine wq_sld F hX hbl hbA ht72 wt72 dL_law_459 rfl ?_
              refine wq_aload_n F dL_law_460 rfl rfl rfl ?_
              refine wq_iload F dL_law_461 rfl rfl ?_
              refine wq_iconst (n := 2) F dL_law_463 rfl ?_
              refine wq_iadd F dL_law_464 rfl ?_
              obtain ⟨t73, ht73, wt73, h⟩ := wq_ix_some h
              refine wq_sld F hX hbl hbA ht73 wt73 dL_law_465 rfl ?_
              refine wq_aload_n F dL_law_466 rfl rfl rfl ?_
              refine wq_iload F dL_law_467 rfl rfl ?_
              refine wq_iconst (n := 3) F dL_law_469 rfl ?_
              refine wq_iadd F dL_law_470 rfl ?_
              obtain ⟨t74, ht74, wt74, h⟩ := wq_ix_some h
              refine wq_sld F hX hbl hbA ht74 wt74 dL_law_471 rfl ?_
              refine wq_if_eq (tgt := 479) F dL_law_472 (by decide) rfl (fun hc => ?_) (fun hc => ?_)
              · replace h := wq_ift hc h
                refine wq_iconst (n := 0) F dL_law_479 rfl ?_
                obtain ⟨r75, S76, h1r75, h⟩ := wq_bd_some h
                obtain ⟨S77, eS77, h⟩ := wq_lt_some h
                refine wq_callV (As := [.int (wq_I (X t72)), .int (wq_I (X t73)), .int (wq_I 0)]) (k := 284) (n := 4) F lk_L_148 (wq_Ct_emb (o := 284) (ct_X9_setIndex h1r75) (Nat.le_of_ble_eq_true rfl) wq_EL_m (wq_mdl_at _)) ⟨(Nat.le_of_ble_eq_true rfl), (Nat.le_of_ble_eq_true rfl)⟩ ⟨by show cc + 2 ≤ room_1.cells; omega, by show ss + 12 ≤ room_1.slots; omega⟩ (Nat.le_of_ble_eq_true rfl) rfl rfl wq_AbX rfl rfl (Nat.le_of_ble_eq_true rfl) dL_law_480 rfl ?_
                refine wq_namS eS77 ?_
                refine wq_istore (L' := [some (.ref b0), some (.ref (b + 0)), some (.ref (b + 284)), some (.ref (b + 316)), some (.int (wq_I y4)), some (.int (wq_I r69)), some (.int (wq_I r75))]) F dL_law_483 (by decide) rfl rfl rfl ?_
                refine wq_aload_n F dL_law_485 rfl rfl rfl ?_
                obtain ⟨r78, S79, h1r78, h⟩ := wq_bd_some h
                obtain ⟨S80, eS80, h⟩ := wq_lt_some h
                refine wq_callV (As := []) (k := 284) (n := 1) F lk_L_133 (wq_Ct_emb (o := 284) (ct_X9_thrown h1r78) (Nat.le_of_ble_eq_true rfl) wq_EL_m (wq_mdl_at _)) ⟨(Nat.le_of_ble_eq_true rfl), (Nat.le_of_ble_eq_true rfl)⟩ ⟨by show cc + 2 ≤ room_1.cells; omega, by show ss + 12 ≤ room_1.slots; omega⟩ (Nat.le_of_ble_eq_true rfl) rfl rfl wq_AbX rfl rfl (Nat.le_of_ble_eq_true rfl) dL_law_486 rfl ?_
                refine wq_namS eS80 ?_
                refine wq_iload F dL_law_489 rfl rfl ?_
                refine wq_icmp_eq (tgt := 496) F dL_law_491 (by decide) rfl (fun hc => ?_) (fun hc => ?_)
                · replace h := wq_ift hc h
                  refine wq_iload F dL_law_496 rfl rfl ?_
                  refine wq_if_ne (tgt := 520) F dL_law_498 (by decide) rfl (fun hc => ?_) (fun hc => ?_)
                  · replace h := wq_iff hc h
                    refine wq_goto (tgt := 2456) F dL_law_520 (by decide) ?_
                    refine wq_iinc (L' := [some (.ref b0), some (.ref (b + 0)), some (.ref (b + 284)), some (.ref (b + 316)), some (.int (wq_I (y4 + 6))), some (.int (wq_I r69)), some (.int (wq_I r75))]) F dL_law_2456 rfl (by decide) rfl rfl rfl ?_
                    refine wq_goto (tgt := 23) F dL_law_2459 (by decide) ?_
                    exact wq_wid (k := cc + 10) (n := ss + 60) (by omega) (by omega) <| wq_lsub [some (.ref b0), some (.ref (b + 0)), some (.ref (b + 284)), some (.ref (b + 316)), some (.int (wq_I (y4 + 6))), none, none] (by simp [wq_sub]) (hrec (y4 + 6) S80 h)
                  · replace h := wq_ift hc h
                    refine wq_aload_n F dL_law_501 rfl rfl rfl ?_
                    refine wq_iconst (n := 0) F dL_law_502 rfl ?_
                    obtain ⟨t81, ht81, wt81, h⟩ := wq_ix_some h
                    refine wq_lald F (Nat.le_of_ble_eq_true rfl) rfl ht81 wt81 dL_law_503 rfl ?_
                    refine wq_iload F dL_law_504 rfl rfl ?_
                    refine wq_if_eq (tgt := 513) F dL_law_506 (by decide) rfl (fun hc => ?_) (fun hc => ?_)
                    · replace h := wq_ift hc h
                      refine wq_lconst (v := 0) F dL_law_513 rfl rfl ?_
                      refine wq_lcmp F dL_law_514 rfl ?_
                      refine wq_if_eq (tgt := 520) F dL_law_515 (by decide) rfl (fun hc => ?_) (fun hc => ?_)
                      · replace h := wq_ift hc h
                        refine wq_goto (tgt := 2456) F dL_law_520 (by decide) ?_
                        refine wq_iinc (L' := [some (.ref b0), some (.ref (b + 0)), some (.ref (b + 284)), some (.ref (b + 316)), some (.int (wq_I (y4 + 6))), some (.int (wq_I r69)), some (.int (wq_I r75))]) F dL_law_2456 rfl (by decide) rfl rfl rfl ?_
                        refine wq_goto (tgt := 23) F dL_law_2459 (by decide) ?_
                        exact wq_wid (k := cc + 10) (n := ss + 60) (by omega) (by omega) <| wq_lsub [some (.ref b0), some (.ref (b + 0)), some (.ref (b + 284)), some (.ref (b + 316)), some (.int (wq_I (y4 + 6))), none, none] (by simp [wq_sub]) (hrec (y4 + 6) S80 h)
                      · replace h := wq_iff hc h
                        refine wq_iconst (n := 0) F dL_law_518 rfl ?_
                        simp at h
                    · replace h := wq_iff hc h
                      refine wq_lconst (v := 1) F dL_law_509 rfl rfl ?_
                      refine wq_goto (tgt := 514) F dL_law_510 (by decide) ?_
                      refine wq_lcmp F dL_law_514 rfl ?_
                      refine wq_if_eq (tgt := 520) F dL_law_515 (by decide) rfl (fun hc => ?_) (fun hc => ?_)
                      · replace h := wq_ift hc h
                        refine wq_goto (tgt := 2456) F dL_law_520 (by decide) ?_
                        refine wq_iinc (L' := [some (.ref b0), some (.ref (b + 0)), some (.ref (b + 284)), some (.ref (b + 316)), some (.int (wq_I (y4 + 6))), some (.int (wq_I r69)), some (.int (wq_I r75))]) F dL_law_2456 rfl (by decide) rfl rfl rfl ?_
                        refine wq_goto (tgt := 23) F dL_law_2459 (by decide) ?_
                        exact wq_wid (k := cc + 10) (n := ss + 60) (by omega) (by omega) <| wq_lsub [some (.ref b0), some (.ref (b + 0)), some (.ref (b + 284)), some (.ref (b + 316)), some (.int (wq_I (y4 + 6))), none, none] (by simp [wq_sub]) (hrec (y4 + 6) S80 h)
                      · replace h := wq_iff hc h
                        refine wq_iconst (n := 0) F dL_law_518 rfl ?_
                        simp at h
                · replace h := wq_iff hc h
                  refine wq_iconst (n := 0) F dL_law_494 rfl ?_
                  simp at h
              · replace h := wq_iff hc h
                refine wq_iconst (n := 1) F dL_law_475 rfl ?_
                refine wq_goto (tgt := 480) F dL_law_476 (by decide) ?_
                obtain ⟨r82, S83, h1r82, h⟩ := wq_bd_some h
                obtain ⟨S84, eS84, h⟩ := wq_lt_some h
                refine wq_callV (As := [.int (wq_I (X t72)), .int (wq_I (X t73)), .int (wq_I 1)]) (k := 284) (n := 4) F lk_L_148 (wq_Ct_emb (o := 284) (ct_X9_setIndex h1r82) (Nat.le_of_ble_eq_true rfl) wq_EL_m (wq_mdl_at _)) ⟨(Nat.le_of_ble_eq_true rfl), (Nat.le_of_ble_eq_true rfl)⟩ ⟨by show cc + 2 ≤ room_1.cells; omega, by show ss + 12 ≤ room_1.slots; omega⟩ (Nat.le_of_ble_eq_true rfl) rfl rfl wq_AbX rfl rfl (Nat.le_of_ble_eq_true rfl) dL_law_480 rfl ?_
                refine wq_namS eS84 ?_
                refine wq_istore (L' := [some (.ref b0), some (.ref (b + 0)), some (.ref (b + 284)), some (.ref (b + 316)), some (.int (wq_I y4)), some (.int (wq_I r69)), some (.int (wq_I r82))]) F dL_law_483 (by decide) rfl rfl rfl ?_
                refine wq_aload_n F dL_law_485 rfl rfl rfl ?_
                obtain ⟨r85, S86, h1r85, h⟩ := wq_bd_some h
                obtain ⟨S87, eS87, h⟩ := wq_lt_some h
                refine wq_callV (As := []) (k := 284) (n := 1) F lk_L_133 (wq_Ct_emb (o := 284) (ct_X9_thrown h1r85) (Nat.le_of_ble_eq_true rfl) wq_EL_m (wq_mdl_at _)) ⟨(Nat.le_of_ble_eq_true rfl), (Nat.le_of_ble_eq_true rfl)⟩ ⟨by show cc + 2 ≤ room_1.cells; omega, by show ss + 12 ≤ room_1.slots; omega⟩ (Nat.le_of_ble_eq_true rfl) rfl rfl wq_AbX rfl rfl (Nat.le_of_ble_eq_true rfl) dL_law_486 rfl ?_
                refine wq_namS eS87 ?_
                refine wq_iload F dL_law_489 rfl rfl ?_
                refine wq_icmp_eq (tgt := 496) F dL_law_491 (by decide) rfl (fun hc => ?_) (fun hc => ?_)
                · replace h := wq_ift hc h
                  refine wq_iload F dL_law_496 rfl rfl ?_
                  refine wq_if_ne (tgt := 520) F dL_law_498 (by decide) rfl (fun hc => ?_) (fun hc => ?_)
                  · replace h := wq_iff hc h
                    refine wq_goto (tgt := 2456) F dL_law_520 (by decide) ?_
                    refine wq_iinc (L' := [some (.ref b0), some (.ref (b + 0)), some (.ref (b + 284)), some (.ref (b + 316)), some (.int (wq_I (y4 + 6))), some (.int (wq_I r69)), some (.int (wq_I r82))]) F dL_law_2456 rfl (by decide) rfl rfl rfl ?_
                    refine wq_goto (tgt := 23) F dL_law_2459 (by decide) ?_
                    exact wq_wid (k := cc + 10) (n := ss + 60) (by omega) (by omega) <| wq_lsub [some (.ref b0), some (.ref (b + 0)), some (.ref (b + 284)), some (.ref (b + 316)), some (.int (wq_I (y4 + 6))), none, none] (by simp [wq_sub]) (hrec (y4 + 6) S87 h)
                  · replace h := wq_ift hc h
                    refine wq_aload_n F dL_law_501 rfl rfl rfl ?_
                    refine wq_iconst (n := 0) F dL_law_502 rfl ?_
                    obtain ⟨t88, ht88, wt88, h⟩ := wq_ix_some h
                    refine wq_lald F (Nat.le_of_ble_eq_true rfl) rfl ht88 wt88 dL_law_503 rfl ?_
                    refine wq_iload F dL_law_504 rfl rfl ?_
                    refine wq_if_eq (tgt := 513) F dL_law_506 (by decide) rfl (fun hc => ?_) (fun hc => ?_)
                    · replace h := wq_ift hc h
                      refine wq_lconst (v := 0) F dL_law_513 rfl rfl ?_
                      refine wq_lcmp F dL_law_514 rfl ?_
                      refine wq_if_eq (tgt := 520) F dL_law_515 (by decide) rfl (fun hc => ?_) (fun hc => ?_)
                      · replace h := wq_ift hc h
                        refine wq_goto (tgt := 2456) F dL_law_520 (by decide) ?_
                        refine wq_iinc (L' := [some (.ref b0), some (.ref (b + 0)), some (.ref (b + 284)), some (.ref (b + 316)), some (.int (wq_I (y4 + 6))), some (.int (wq_I r69)), some (.int (wq_I r82))]) F dL_law_2456 rfl (by decide) rfl rfl rfl ?_
                        refine wq_goto (tgt := 23) F dL_law_2459 (by decide) ?_
                        exact wq_wid (k := cc + 10) (n := ss + 60) (by omega) (by omega) <| wq_lsub [some (.ref b0), some (.ref (b + 0)), some (.ref (b + 284)), some (.ref (b + 316)), some (.int (wq_I (y4 + 6))), none, none] (by simp [wq_sub]) (hrec (y4 + 6) S87 h)
                      · replace h := wq_iff hc h
                        refine wq_iconst (n := 0) F dL_law_518 rfl ?_
                        simp at h
                    · replace h := wq_iff hc h
                      refine wq_lconst (v := 1) F dL_law_509 rfl rfl ?_
                      refine wq_goto (tgt := 514) F dL_law_510 (by decide) ?_
                      refine wq_lcmp F dL_law_514 rfl ?_
                      refine wq_if_eq (tgt := 520) F dL_law_515 (by decide) rfl (fun hc => ?_) (fun hc => ?_)
                      · replace h := wq_ift hc h
                        refine wq_goto (tgt := 2456) F dL_law_520 (by decide) ?_
                        refine wq_iinc (L' := [some (.ref b0), some (.ref (b + 0)), some (.ref (b + 284)), some (.ref (b + 316)), some (.int (wq_I (y4 + 6))), some (.int (wq_I r69)), some (.int (wq_I r82))]) F dL_law_2456 rfl (by decide) rfl rfl rfl ?_
                        refine wq_goto (tgt := 23) F dL_law_2459 (by decide) ?_
                        exact wq_wid (k := cc + 10) (n := ss + 60) (by omega) (by omega) <| wq_lsub [some (.ref b0), some (.ref (b + 0)), some (.ref (b + 284)), some (.ref (b + 316)), some (.int (wq_I (y4 + 6))), none, none] (by simp [wq_sub]) (hrec (y4 + 6) S87 h)
                      · replace h := wq_iff hc h
                        refine wq_iconst (n := 0) F dL_law_518 rfl ?_
                        simp at h
                · replace h := wq_iff hc h
                  refine wq_iconst (n := 0) F dL_law_494 rfl ?_
                  simp at h
          · replace h := wq_iff hc3 h
            by_cases hc4 : wq_w (wq_and (X t1) 63) = 4
            · replace h := wq_ift hc4 h
              refine wq_tableIn (tgt := 523) (off := 483) F dL_law_40 (by omega) (by omega) (by rw [hc4]; rfl) (by decide) ?_
              refine wq_aload_n F dL_law_523 rfl rfl rfl ?_
              refine wq_aload_n F dL_law_524 rfl rfl rfl ?_
              refine wq_iload F dL_law_525 rfl rfl ?_
              refine wq_iconst (n := 1) F dL_law_527 rfl ?_
              refine wq_iadd F dL_law_528 rfl ?_
              obtain ⟨t89, ht89, wt89, h⟩ := wq_ix_some h
              refine wq_sld F hX hbl hbA ht89 wt89 dL_law_529 rfl ?_
              refine wq_aload_n F dL_law_530 rfl rfl rfl ?_
              obtain ⟨r90, S91, h1r90, h⟩ := wq_bd_some h
              refine wq_callW (As := [.ref (b + 0), .int (wq_I (X t89)), .ref (b + 316)]) (mc := 1) (ms := 6) (n := 9) F K Kn lk_L_149 (ct_L_rows hlt h1r90) ⟨(Nat.le_of_ble_eq_true rfl), (Nat.le_of_ble_eq_true rfl)⟩ ⟨by show cc + 1 ≤ room_1.cells; omega, by show ss + 6 ≤ room_1.slots; omega⟩ rfl rfl (Nat.le_of_ble_eq_true rfl) dL_law_531 rfl ?_
              refine wq_istore (L' := [some (.ref b0), some (.ref (b + 0)), some (.ref (b + 284)), some (.ref (b + 316)), some (.int (wq_I y4)), some (.int (wq_I r90)), none]) F dL_law_534 (by decide) rfl rfl rfl ?_
              refine wq_aload_n F dL_law_536 rfl rfl rfl ?_
              refine wq_aload_n F dL_law_537 rfl rfl rfl ?_
              refine wq_iload F dL_law_538 rfl rfl ?_
              refine wq_iconst (n := 1) F dL_law_540 rfl ?_
              refine wq_iadd F dL_law_541 rfl ?_
              obtain ⟨t93, ht93, wt93, h⟩ := wq_ix_some h
              refine wq_sld F hX hbl hbA ht93 wt93 dL_law_542 rfl ?_
              obtain ⟨r94, S95, h1r94, h⟩ := wq_bd_some h
              obtain ⟨S96, eS96, h⟩ := wq_lt_some h
              refine wq_callV (As := [.int (wq_I (X t93))]) (k := 284) (n := 3) F lk_L_151 (wq_Ct_emb (o := 284) (ct_X9_rows h1r94) (Nat.le_of_ble_eq_true rfl) wq_EL_m (wq_mdl_at _)) ⟨(Nat.le_of_ble_eq_true rfl), (Nat.le_of_ble_eq_true rfl)⟩ ⟨by show cc + 1 ≤ room_1.cells; omega, by show ss + 6 ≤ room_1.slots; omega⟩ (Nat.le_of_ble_eq_true rfl) rfl rfl wq_AbX rfl rfl (Nat.le_of_ble_eq_true rfl) dL_law_543 rfl ?_
              refine wq_namS eS96 ?_
              refine wq_istore (L' := [some (.ref b0), some (.ref (b + 0)), some (.ref (b + 284)), some (.ref (b + 316)), some (.int (wq_I y4)), some (.int (wq_I r90)), some (.int (wq_I r94))]) F dL_law_546 (by decide) rfl rfl rfl ?_
              refine wq_aload_n F dL_law_548 rfl rfl rfl ?_
              obtain ⟨r97, S98, h1r97, h⟩ := wq_bd_some h
              obtain ⟨S99, eS99, h⟩ := wq_lt_some h
              refine wq_callV (As := []) (k := 284) (n := 1) F lk_L_133 (wq_Ct_emb (o := 284) (ct_X9_thrown h1r97) (Nat.le_of_ble_eq_true rfl) wq_EL_m (wq_mdl_at _)) ⟨(Nat.le_of_ble_eq_true rfl), (Nat.le_of_ble_eq_true rfl)⟩ ⟨by show cc + 1 ≤ room_1.cells; omega, by show ss + 6 ≤ room_1.slots; omega⟩ (Nat.le_of_ble_eq_true rfl) rfl rfl wq_AbX rfl rfl (Nat.le_of_ble_eq_true rfl) dL_law_549 rfl ?_
              refine wq_namS eS99 ?_
              refine wq_iload F dL_law_552 rfl rfl ?_
              refine wq_icmp_eq (tgt := 559) F dL_law_554 (by decide) rfl (fun hc => ?_) (fun hc => ?_)
              · replace h := wq_ift hc h
                refine wq_iload F dL_law_559 rfl rfl ?_
                refine wq_if_ne (tgt := 576) F dL_law_561 (by decide) rfl (fun hc => ?_) (fun hc => ?_)
                · replace h := wq_iff hc h
                  refine wq_goto (tgt := 2456) F dL_law_576 (by decide) ?_
                  refine wq_iinc (L' := [some (.ref b0), some (.ref (b + 0)), some (.ref (b + 284)), some (.ref (b + 316)), some (.int (wq_I (y4 + 6))), some (.int (wq_I r90)), some (.int (wq_I r94))]) F dL_law_2456 rfl (by decide) rfl rfl rfl ?_
                  refine wq_goto (tgt := 23) F dL_law_2459 (by decide) ?_
                  exact wq_wid (k := cc + 10) (n := ss + 60) (by omega) (by omega) <| wq_lsub [some (.ref b0), some (.ref (b + 0)), some (.ref (b + 284)), some (.ref (b + 316)), some (.int (wq_I (y4 + 6))), none, none] (by simp [wq_sub]) (hrec (y4 + 6) S99 h)
                · replace h := wq_ift hc h
                  refine wq_aload_n F dL_law_564 rfl rfl rfl ?_
                  refine wq_iconst (n := 0) F dL_law_565 rfl ?_
                  obtain ⟨t100, ht100, wt100, h⟩ := wq_ix_some h
                  refine wq_lald F (Nat.le_of_ble_eq_true rfl) rfl ht100 wt100 dL_law_566 rfl ?_
                  refine wq_iload F dL_law_567 rfl rfl ?_
                  refine wq_i2l_ F dL_law_569 rfl ?_
                  refine wq_lcmp F dL_law_570 rfl ?_
                  refine wq_if_eq (tgt := 576) F dL_law_571 (by decide) rfl (fun hc => ?_) (fun hc => ?_)
                  · replace h := wq_ift hc h
                    refine wq_goto (tgt := 2456) F dL_law_576 (by decide) ?_
                    refine wq_iinc (L' := [some (.ref b0), some (.ref (b + 0)), some (.ref (b + 284)), some (.ref (b + 316)), some (.int (wq_I (y4 + 6))), some (.int (wq_I r90)), some (.int (wq_I r94))]) F dL_law_2456 rfl (by decide) rfl rfl rfl ?_
                    refine wq_goto (tgt := 23) F dL_law_2459 (by decide) ?_
                    exact wq_wid (k := cc + 10) (n := ss + 60) (by omega) (by omega) <| wq_lsub [some (.ref b0), some (.ref (b + 0)), some (.ref (b + 284)), some (.ref (b + 316)), some (.int (wq_I (y4 + 6))), none, none] (by simp [wq_sub]) (hrec (y4 + 6) S99 h)
                  · replace h := wq_iff hc h
                    refine wq_iconst (n := 0) F dL_law_574 rfl ?_
                    simp at h
              · replace h := wq_iff hc h
                refine wq_iconst (n := 0) F dL_law_557 rfl ?_
                simp at h
            · replace h := wq_iff hc4 h
              by_cases hc5 : wq_w (wq_and (X t1) 63) = 5
              · replace h := wq_ift hc5 h
                refine wq_tableIn (tgt := 579) (off := 539) F dL_law_40 (by omega) (by omega) (by rw [hc5]; rfl) (by decide) ?_
                refine wq_aload_n F dL_law_579 rfl rfl rfl ?_
                refine wq_aload_n F dL_law_580 rfl rfl rfl ?_
                refine wq_iload F dL_law_581 rfl rfl ?_
                refine wq_iconst (n := 1) F dL_law_583 rfl ?_
                refine wq_iadd F dL_law_584 rfl ?_
                obtain ⟨t101, ht101, wt101, h⟩ := wq_ix_some h
                refine wq_sld F hX hbl hbA ht101 wt101 dL_law_585 rfl ?_
                refine wq_aload_n F dL_law_586 rfl rfl rfl ?_
                refine wq_iload F dL_law_587 rfl rfl ?_
                refine wq_iconst (n := 2) F dL_law_589 rfl ?_
                refine wq_iadd F dL_law_590 rfl ?_
                obtain ⟨t102, ht102, wt102, h⟩ := wq_ix_some h
                refine wq_sld F hX hbl hbA ht102 wt102 dL_law_591 rfl ?_
                refine wq_aload_n F dL_law_592 rfl rfl rfl ?_
                refine wq_iload F dL_law_593 rfl rfl ?_
                refine wq_iconst (n := 3) F dL_law_595 rfl ?_
                refine wq_iadd F dL_law_596 rfl ?_
                obtain ⟨t103, ht103, wt103, h⟩ := wq_ix_some h
                refine wq_sld F hX hbl hbA ht103 wt103 dL_law_597 rfl ?_
                refine wq_aload_n F dL_law_598 rfl rfl rfl ?_
                obtain ⟨r104, S105, h1r104, h⟩ := wq_bd_some h
                refine wq_callW (As := [.ref (b + 0), .int (wq_I (X t101)), .int (wq_I (X t102)), .int (wq_I (X t103)), .ref (b + 316)]) (mc := 3) (ms := 18) (n := 9) F K Kn lk_L_152 (ct_L_value hlt h1r104) ⟨(Nat.le_of_ble_eq_true rfl), (Nat.le_of_ble_eq_true rfl)⟩ ⟨by show cc + 3 ≤ room_1.cells; omega, by show ss + 18 ≤ room_1.slots; omega⟩ rfl rfl (Nat.le_of_ble_eq_true rfl) dL_law_599 rfl ?_
                refine wq_istore (L' := [some (.ref b0), some (.ref (b + 0)), some (.ref (b + 284)), some (.ref (b + 316)), some (.int (wq_I y4)), some (.int (wq_I r104)), none]) F dL_law_602 (by decide) rfl rfl rfl ?_
                refine wq_aload_n F dL_law_604 rfl rfl rfl ?_
                refine wq_aload_n F dL_law_605 rfl rfl rfl ?_
                refine wq_iload F dL_law_606 rfl rfl ?_
                refine wq_iconst (n := 1) F dL_law_608 rfl ?_
                refine wq_iadd F dL_law_609 rfl ?_
                obtain ⟨t107, ht107, wt107, h⟩ := wq_ix_some h
                refine wq_sld F hX hbl hbA ht107 wt107 dL_law_610 rfl ?_
                refine wq_aload_n F dL_law_611 rfl rfl rfl ?_
                refine wq_iload F dL_law_612 rfl rfl ?_
                refine wq_iconst (n := 2) F dL_law_614 rfl ?_
                refine wq_iadd F dL_law_615 rfl ?_
                obtain ⟨t108, ht108, wt108, h⟩ := wq_ix_some h
                refine wq_sld F hX hbl hbA ht108 wt108 dL_law_616 rfl ?_
                refine wq_aload_n F dL_law_617 rfl rfl rfl ?_
                refine wq_iload F dL_law_618 rfl rfl ?_
                refine wq_iconst (n := 3) F dL_law_620 rfl ?_
                refine wq_iadd F dL_law_621 rfl ?_
                obtain ⟨t109, ht109, wt109, h⟩ := wq_ix_some h
                refine wq_sld F hX hbl hbA ht109 wt109 dL_law_622 rfl ?_
                obtain ⟨r110, S111, h1r110, h⟩ := wq_bd_some h
                obtain ⟨S112, eS112, h⟩ := wq_lt_some h
                refine wq_callV (As := [.int (wq_I (X t107)), .int (wq_I (X t108)), .int (wq_I (X t109))]) (k := 284) (n := 4) F lk_L_155 (wq_Ct_emb (o := 284) (ct_X9_value h1r110) (Nat.le_of_ble_eq_true rfl) wq_EL_m (wq_mdl_at _)) ⟨(Nat.le_of_ble_eq_true rfl), (Nat.le_of_ble_eq_true rfl)⟩ ⟨by show cc + 3 ≤ room_1.cells; omega, by show ss + 18 ≤ room_1.slots; omega⟩ (Nat.le_of_ble_eq_true rfl) rfl rfl wq_AbX rfl rfl (Nat.le_of_ble_eq_true rfl) dL_law_623 rfl ?_
                refine wq_namS eS112 ?_
                refine wq_istore (L' := [some (.ref b0), some (.ref (b + 0)), some (.ref (b + 284)), some (.ref (b + 316)), some (.int (wq_I y4)), some (.int (wq_I r104)), some (.int (wq_I r110))]) F dL_law_626 (by decide) rfl rfl rfl ?_
                refine wq_aload_n F dL_law_628 rfl rfl rfl ?_
                obtain ⟨r113, S114, h1r113, h⟩ := wq_bd_some h
                obtain ⟨S115, eS115, h⟩ := wq_lt_some h
                refine wq_callV (As := []) (k := 284) (n := 1) F lk_L_133 (wq_Ct_emb (o := 284) (ct_X9_thrown h1r113) (Nat.le_of_ble_eq_true rfl) wq_EL_m (wq_mdl_at _)) ⟨(Nat.le_of_ble_eq_true rfl), (Nat.le_of_ble_eq_true rfl)⟩ ⟨by show cc + 3 ≤ room_1.cells; omega, by show ss + 18 ≤ room_1.slots; omega⟩ (Nat.le_of_ble_eq_true rfl) rfl rfl wq_AbX rfl rfl (Nat.le_of_ble_eq_true rfl) dL_law_629 rfl ?_
                refine wq_namS eS115 ?_
                refine wq_iload F dL_law_632 rfl rfl ?_
                refine wq_icmp_eq (tgt := 639) F dL_law_634 (by decide) rfl (fun hc => ?_) (fun hc => ?_)
                · replace h := wq_ift hc h
                  refine wq_iload F dL_law_639 rfl rfl ?_
                  refine wq_if_ne (tgt := 656) F dL_law_641 (by decide) rfl (fun hc => ?_) (fun hc => ?_)
                  · replace h := wq_iff hc h
                    refine wq_goto (tgt := 2456) F dL_law_656 (by decide) ?_
                    refine wq_iinc (L' := [some (.ref b0), some (.ref (b + 0)), some (.ref (b + 284)), some (.ref (b + 316)), some (.int (wq_I (y4 + 6))), some (.int (wq_I r104)), some (.int (wq_I r110))]) F dL_law_2456 rfl (by decide) rfl rfl rfl ?_
                    refine wq_goto (tgt := 23) F dL_law_2459 (by decide) ?_
                    exact wq_wid (k := cc + 10) (n := ss + 60) (by omega) (by omega) <| wq_lsub [some (.ref b0), some (.ref (b + 0)), some (.ref (b + 284)), some (.ref (b + 316)), some (.int (wq_I (y4 + 6))), none, none] (by simp [wq_sub]) (hrec (y4 + 6) S115 h)
                  · replace h := wq_ift hc h
                    refine wq_aload_n F dL_law_644 rfl rfl rfl ?_
                    refine wq_iconst (n := 0) F dL_law_645 rfl ?_
                    obtain ⟨t116, ht116, wt116, h⟩ := wq_ix_some h
                    refine wq_lald F (Nat.le_of_ble_eq_true rfl) rfl ht116 wt116 dL_law_646 rfl ?_
                    refine wq_iload F dL_law_647 rfl rfl ?_
                    refine wq_i2l_ F dL_law_649 rfl ?_
                    refine wq_lcmp F dL_law_650 rfl ?_
                    refine wq_if_eq (tgt := 656) F dL_law_651 (by decide) rfl (fun hc => ?_) (fun hc => ?_)
                    · replace h := wq_ift hc h
                      refine wq_goto (tgt := 2456) F dL_law_656 (by decide) ?_
                      refine wq_iinc (L' := [some (.ref b0), some (.ref (b + 0)), some (.ref (b + 284)), some (.ref (b + 316)), some (.int (wq_I (y4 + 6))), some (.int (wq_I r104)), some (.int (wq_I r110))]) F dL_law_2456 rfl (by decide) rfl rfl rfl ?_
                      refine wq_goto (tgt := 23) F dL_law_2459 (by decide) ?_
                      exact wq_wid (k := cc + 10) (n := ss + 60) (by omega) (by omega) <| wq_lsub [some (.ref b0), some (.ref (b + 0)), some (.ref (b + 284)), some (.ref (b + 316)), some (.int (wq_I (y4 + 6))), none, none] (by simp [wq_sub]) (hrec (y4 + 6) S115 h)
                    · replace h := wq_iff hc h
                      refine wq_iconst (n := 0) F dL_law_654 rfl ?_
                      simp at h
                · replace h := wq_iff hc h
                  refine wq_iconst (n := 0) F dL_law_637 rfl ?_
                  simp at h
              · replace h := wq_iff hc5 h
                by_cases hc6 : wq_w (wq_and (X t1) 63) = 6
                · replace h := wq_ift hc6 h
                  refine wq_tableIn (tgt := 659) (off := 619) F dL_law_40 (by omega) (by omega) (by rw [hc6]; rfl) (by decide) ?_
                  refine wq_aload_n F dL_law_659 rfl rfl rfl ?_
                  refine wq_aload_n F dL_law_660 rfl rfl rfl ?_
                  refine wq_iload F dL_law_661 rfl rfl ?_
                  refine wq_iconst (n := 1) F dL_law_663 rfl ?_
                  refine wq_iadd F dL_law_664 rfl ?_
                  obtain ⟨t117, ht117, wt117, h⟩ := wq_ix_some h
                  refine wq_sld F hX hbl hbA ht117 wt117 dL_law_665 rfl ?_
                  refine wq_aload_n F dL_law_666 rfl rfl rfl ?_
                  refine wq_iload F dL_law_667 rfl rfl ?_
                  refine wq_iconst (n := 2) F dL_law_669 rfl ?_
                  refine wq_iadd F dL_law_670 rfl ?_
                  obtain ⟨t118, ht118, wt118, h⟩ := wq_ix_some h
                  refine wq_sld F hX hbl hbA ht118 wt118 dL_law_671 rfl ?_
                  refine wq_aload_n F dL_law_672 rfl rfl rfl ?_
                  obtain ⟨r119, S120, h1r119, h⟩ := wq_bd_some h
                  refine wq_callW (As := [.ref (b + 0), .int (wq_I (X t117)), .int (wq_I (X t118)), .ref (b + 316)]) (mc := 2) (ms := 12) (n := 9) F K Kn lk_L_156 (ct_L_renew hlt h1r119) ⟨(Nat.le_of_ble_eq_true rfl), (Nat.le_of_ble_eq_true rfl)⟩ ⟨by show cc + 2 ≤ room_1.cells; omega, by show ss + 12 ≤ room_1.slots; omega⟩ rfl rfl (Nat.le_of_ble_eq_true rfl) dL_law_673 rfl ?_
                  refine wq_istore (L' := [some (.ref b0), some (.ref (b + 0)), some (.ref (b + 284)), some (.ref (b + 316)), some (.int (wq_I y4)), some (.int (wq_I r119)), none]) F dL_law_676 (by decide) rfl rfl rfl ?_
                  refine wq_aload_n F dL_law_678 rfl rfl rfl ?_
                  refine wq_aload_n F dL_law_679 rfl rfl rfl ?_
                  refine wq_iload F dL_law_680 rfl rfl ?_
                  refine wq_iconst (n := 1) F dL_law_682 rfl ?_
                  refine wq_iadd F dL_law_683 rfl ?_
                  obtain ⟨t122, ht122, wt122, h⟩ := wq_ix_some h
                  refine wq_sld F hX hbl hbA ht122 wt122 dL_law_684 rfl ?_
                  refine wq_aload_n F dL_law_685 rfl rfl rfl ?_
                  refine wq_iload F dL_law_686 rfl rfl ?_
                  refine wq_iconst (n := 2) F dL_law_688 rfl ?_
                  refine wq_iadd F dL_law_689 rfl ?_
                  obtain ⟨t123, ht123, wt123, h⟩ := wq_ix_some h
                  refine wq_sld F hX hbl hbA ht123 wt123 dL_law_690 rfl ?_
                  obtain ⟨r124, S125, h1r124, h⟩ := wq_bd_some h
                  obtain ⟨S126, eS126, h⟩ := wq_lt_some h
                  refine wq_callV (As := [.int (wq_I (X t122)), .int (wq_I (X t123))]) (k := 284) (n := 3) F lk_L_158 (wq_Ct_emb (o := 284) (ct_X9_renew h1r124) (Nat.le_of_ble_eq_true rfl) wq_EL_m (wq_mdl_at _)) ⟨(Nat.le_of_ble_eq_true rfl), (Nat.le_of_ble_eq_true rfl)⟩ ⟨by show cc + 2 ≤ room_1.cells; omega, by show ss + 12 ≤ room_1.slots; omega⟩ (Nat.le_of_ble_eq_true rfl) rfl rfl wq_AbX rfl rfl (Nat.le_of_ble_eq_true rfl) dL_law_691 rfl ?_
                  refine wq_namS eS126 ?_
                  refine wq_istore (L' := [some (.ref b0), some (.ref (b + 0)), some (.ref (b + 284)), some (.ref (b + 316)), some (.int (wq_I y4)), some (.int (wq_I r119)), some (.int (wq_I r124))]) F dL_law_694 (by decide) rfl rfl rfl ?_
                  refine wq_aload_n F dL_law_696 rfl rfl rfl ?_
                  obtain ⟨r127, S128, h1r127, h⟩ := wq_bd_some h
                  obtain ⟨S129, eS129, h⟩ := wq_lt_some h
                  refine wq_callV (As := []) (k := 284) (n := 1) F lk_L_133 (wq_Ct_emb (o := 284) (ct_X9_thrown h1r127) (Nat.le_of_ble_eq_true rfl) wq_EL_m (wq_mdl_at _)) ⟨(Nat.le_of_ble_eq_true rfl), (Nat.le_of_ble_eq_true rfl)⟩ ⟨by show cc + 2 ≤ room_1.cells; omega, by show ss + 12 ≤ room_1.slots; omega⟩ (Nat.le_of_ble_eq_true rfl) rfl rfl wq_AbX rfl rfl (Nat.le_of_ble_eq_true rfl) dL_law_697 rfl ?_
                  refine wq_namS eS129 ?_
                  refine wq_iload F dL_law_700 rfl rfl ?_
                  refine wq_icmp_eq (tgt := 707) F dL_law_702 (by decide) rfl (fun hc => ?_) (fun hc => ?_)
                  · replace h := wq_ift hc h
                    refine wq_iload F dL_law_707 rfl rfl ?_
                    refine wq_if_ne (tgt := 724) F dL_law_709 (by decide) rfl (fun hc => ?_) (fun hc => ?_)
                    · replace h := wq_iff hc h
                      refine wq_goto (tgt := 2456) F dL_law_724 (by decide) ?_
                      refine wq_iinc (L' := [some (.ref b0), some (.ref (b + 0)), some (.ref (b + 284)), some (.ref (b + 316)), some (.int (wq_I (y4 + 6))), some (.int (wq_I r119)), some (.int (wq_I r124))]) F dL_law_2456 rfl (by decide) rfl rfl rfl ?_
                      refine wq_goto (tgt := 23) F dL_law_2459 (by decide) ?_
                      exact wq_wid (k := cc + 10) (n := ss + 60) (by omega) (by omega) <| wq_lsub [some (.ref b0), some (.ref (b + 0)), some (.ref (b + 284)), some (.ref (b + 316)), some (.int (wq_I (y4 + 6))), none, none] (by simp [wq_sub]) (hrec (y4 + 6) S129 h)
                    · replace h := wq_ift hc h
                      refine wq_aload_n F dL_law_712 rfl rfl rfl ?_
                      refine wq_iconst (n := 0) F dL_law_713 rfl ?_
                      obtain ⟨t130, ht130, wt130, h⟩ := wq_ix_some h
                      refine wq_lald F (Nat.le_of_ble_eq_true rfl) rfl ht130 wt130 dL_law_714 rfl ?_
                      refine wq_iload F dL_law_715 rfl rfl ?_
                      refine wq_i2l_ F dL_law_717 rfl ?_
                      refine wq_lcmp F dL_law_718 rfl ?_
                      refine wq_if_eq (tgt := 724) F dL_law_719 (by decide) rfl (fun hc => ?_) (fun hc => ?_)
                      · replace h := wq_ift hc h
                        refine wq_goto (tgt := 2456) F dL_law_724 (by decide) ?_
                        refine wq_iinc (L' := [some (.ref b0), some (.ref (b + 0)), some (.ref (b + 284)), some (.ref (b + 316)), some (.int (wq_I (y4 + 6))), some (.int (wq_I r119)), some (.int (wq_I r124))]) F dL_law_2456 rfl (by decide) rfl rfl rfl ?_
                        refine wq_goto (tgt := 23) F dL_law_2459 (by decide) ?_
                        exact wq_wid (k := cc + 10) (n := ss + 60) (by omega) (by omega) <| wq_lsub [some (.ref b0), some (.ref (b + 0)), some (.ref (b + 284)), some (.ref (b + 316)), some (.int (wq_I (y4 + 6))), none, none] (by simp [wq_sub]) (hrec (y4 + 6) S129 h)
                      · replace h := wq_iff hc h
                        refine wq_iconst (n := 0) F dL_law_722 rfl ?_
                        simp at h
                  · replace h := wq_iff hc h
                    refine wq_iconst (n := 0) F dL_law_705 rfl ?_
                    simp at h
                · replace h := wq_iff hc6 h
                  by_cases hc7 : wq_w (wq_and (X t1) 63) = 7
                  · replace h := wq_ift hc7 h
                    refine wq_tableIn (tgt := 727) (off := 687) F dL_law_40 (by omega) (by omega) (by rw [hc7]; rfl) (by decide) ?_
                    refine wq_aload_n F dL_law_727 rfl rfl rfl ?_
                    refine wq_aload_n F dL_law_728 rfl rfl rfl ?_
                    refine wq_iload F dL_law_729 rfl rfl ?_
                    refine wq_iconst (n := 1) F dL_law_731 rfl ?_
                    refine wq_iadd F dL_law_732 rfl ?_
                    obtain ⟨t131, ht131, wt131, h⟩ := wq_ix_some h
                    refine wq_sld F hX hbl hbA ht131 wt131 dL_law_733 rfl ?_
                    refine wq_aload_n F dL_law_734 rfl rfl rfl ?_
                    obtain ⟨r132, S133, h1r132, h⟩ := wq_bd_some h
                    refine wq_callW (As := [.ref (b + 0), .int (wq_I (X t131)), .ref (b + 316)]) (mc := 1) (ms := 6) (n := 9) F K Kn lk_L_159 (ct_L_setStep hlt h1r132) ⟨(Nat.le_of_ble_eq_true rfl), (Nat.le_of_ble_eq_true rfl)⟩ ⟨by show cc + 1 ≤ room_1.cells; omega, by show ss + 6 ≤ room_1.slots; omega⟩ rfl rfl (Nat.le_of_ble_eq_true rfl) dL_law_735 rfl ?_
                    refine wq_istore (L' := [some (.ref b0), some (.ref (b + 0)), some (.ref (b + 284)), some (.ref (b + 316)), some (.int (wq_I y4)), some (.int (wq_I r132)), none]) F dL_law_738 (by decide) rfl rfl rfl ?_
                    refine wq_aload_n F dL_law_740 rfl rfl rfl ?_
                    refine wq_aload_n F dL_law_741 rfl rfl rfl ?_
                    refine wq_iload F dL_law_742 rfl rfl ?_
                    refine wq_iconst (n := 1) F dL_law_744 rfl ?_
                    refine wq_iadd F dL_law_745 rfl ?_
                    obtain ⟨t135, ht135, wt135, h⟩ := wq_ix_some h
                    refine wq_sld F hX hbl hbA ht135 wt135 dL_law_746 rfl ?_
                    obtain ⟨r136, S137, h1r136, h⟩ := wq_bd_some h
                    obtain ⟨S138, eS138, h⟩ := wq_lt_some h
                    refine wq_callV (As := [.int (wq_I (X t135))]) (k := 284) (n := 2) F lk_L_161 (wq_Ct_emb (o := 284) (ct_X9_setStep h1r136) (Nat.le_of_ble_eq_true rfl) wq_EL_m (wq_mdl_at _)) ⟨(Nat.le_of_ble_eq_true rfl), (Nat.le_of_ble_eq_true rfl)⟩ ⟨by show cc + 1 ≤ room_1.cells; omega, by show ss + 6 ≤ room_1.slots; omega⟩ (Nat.le_of_ble_eq_true rfl) rfl rfl wq_AbX rfl rfl (Nat.le_of_ble_eq_true rfl) dL_law_747 rfl ?_
                    refine wq_namS eS138 ?_
                    refine wq_istore (L' := [some (.ref b0), some (.ref (b + 0)), some (.ref (b + 284)), some (.ref (b + 316)), some (.int (wq_I y4)), some (.int (wq_I r132)), some (.int (wq_I r136))]) F dL_law_750 (by decide) rfl rfl rfl ?_
                    refine wq_aload_n F dL_law_752 rfl rfl rfl ?_
                    obtain ⟨r139, S140, h1r139, h⟩ := wq_bd_some h
                    obtain ⟨S141, eS141, h⟩ := wq_lt_some h
                    refine wq_callV (As := []) (k := 284) (n := 1) F lk_L_133 (wq_Ct_emb (o := 284) (ct_X9_thrown h1r139) (Nat.le_of_ble_eq_true rfl) wq_EL_m (wq_mdl_at _)) ⟨(Nat.le_of_ble_eq_true rfl), (Nat.le_of_ble_eq_true rfl)⟩ ⟨by show cc + 1 ≤ room_1.cells; omega, by show ss + 6 ≤ room_1.slots; omega⟩ (Nat.le_of_ble_eq_true rfl) rfl rfl wq_AbX rfl rfl (Nat.le_of_ble_eq_true rfl) dL_law_753 rfl ?_
                    refine wq_namS eS141 ?_
                    refine wq_iload F dL_law_756 rfl rfl ?_
                    refine wq_icmp_eq (tgt := 763) F dL_law_758 (by decide) rfl (fun hc => ?_) (fun hc => ?_)
                    · replace h := wq_ift hc h
                      refine wq_iload F dL_law_763 rfl rfl ?_
                      refine wq_if_ne (tgt := 780) F dL_law_765 (by decide) rfl (fun hc => ?_) (fun hc => ?_)
                      · replace h := wq_iff hc h
                        refine wq_goto (tgt := 2456) F dL_law_780 (by decide) ?_
                        refine wq_iinc (L' := [some (.ref b0), some (.ref (b + 0)), some (.ref (b + 284)), some (.ref (b + 316)), some (.int (wq_I (y4 + 6))), some (.int (wq_I r132)), some (.int (wq_I r136))]) F dL_law_2456 rfl (by decide) rfl rfl rfl ?_
                        refine wq_goto (tgt := 23) F dL_law_2459 (by decide) ?_
                        exact wq_wid (k := cc + 10) (n := ss + 60) (by omega) (by omega) <| wq_lsub [some (.ref b0), some (.ref (b + 0)), some (.ref (b + 284)), some (.ref (b + 316)), some (.int (wq_I (y4 + 6))), none, none] (by simp [wq_sub]) (hrec (y4 + 6) S141 h)
                      · replace h := wq_ift hc h
                        refine wq_aload_n F dL_law_768 rfl rfl rfl ?_
                        refine wq_iconst (n := 0) F dL_law_769 rfl ?_
                        obtain ⟨t142, ht142, wt142, h⟩ := wq_ix_some h
                        refine wq_lald F (Nat.le_of_ble_eq_true rfl) rfl ht142 wt142 dL_law_770 rfl ?_
                        refine wq_iload F dL_law_771 rfl rfl ?_
                        refine wq_i2l_ F dL_law_773 rfl ?_
                        refine wq_lcmp F dL_law_774 rfl ?_
                        refine wq_if_eq (tgt := 780) F dL_law_775 (by decide) rfl (fun hc => ?_) (fun hc => ?_)
                        · replace h := wq_ift hc h
                          refine wq_goto (tgt := 2456) F dL_law_780 (by decide) ?_
                          refine wq_iinc (L' := [some (.ref b0), some (.ref (b + 0)), some (.ref (b + 284)), some (.ref (b + 316)), some (.int (wq_I (y4 + 6))), some (.int (wq_I r132)), some (.int (wq_I r136))]) F dL_law_2456 rfl (by decide) rfl rfl rfl ?_
                          refine wq_goto (tgt := 23) F dL_law_2459 (by decide) ?_
                          exact wq_wid (k := cc + 10) (n := ss + 60) (by omega) (by omega) <| wq_lsub [some (.ref b0), some (.ref (b + 0)), some (.ref (b + 284)), some (.ref (b + 316)), some (.int (wq_I (y4 + 6))), none, none] (by simp [wq_sub]) (hrec (y4 + 6) S141 h)
                        · replace h := wq_iff hc h
                          refine wq_iconst (n := 0) F dL_law_778 rfl ?_
                          simp at h
                    · replace h := wq_iff hc h
                      refine wq_iconst (n := 0) F dL_law_761 rfl ?_
                      simp at h
                  · replace h := wq_iff hc7 h
                    by_cases hc8 : wq_w (wq_and (X t1) 63) = 8
                    · replace h := wq_ift hc8 h
                      refine wq_tableIn (tgt := 783) (off := 743) F dL_law_40 (by omega) (by omega) (by rw [hc8]; rfl) (by decide) ?_
                      refine wq_aload_n F dL_law_783 rfl rfl rfl ?_
                      refine wq_aload_n F dL_law_784 rfl rfl rfl ?_
                      refine wq_iload F dL_law_785 rfl rfl ?_
                      refine wq_iconst (n := 1) F dL_law_787 rfl ?_
                      refine wq_iadd F dL_law_788 rfl ?_
                      obtain ⟨t143, ht143, wt143, h⟩ := wq_ix_some h
                      refine wq_sld F hX hbl hbA ht143 wt143 dL_law_789 rfl ?_
                      refine wq_aload_n F dL_law_790 rfl rfl rfl ?_
                      obtain ⟨r144, S145, h1r144, h⟩ := wq_bd_some h
                      refine wq_callW (As := [.ref (b + 0), .int (wq_I (X t143)), .ref (b + 316)]) (mc := 1) (ms := 6) (n := 9) F K Kn lk_L_162 (ct_L_toldRows hlt h1r144) ⟨(Nat.le_of_ble_eq_true rfl), (Nat.le_of_ble_eq_true rfl)⟩ ⟨by show cc + 1 ≤ room_1.cells; omega, by show ss + 6 ≤ room_1.slots; omega⟩ rfl rfl (Nat.le_of_ble_eq_true rfl) dL_law_791 rfl ?_
                      refine wq_istore (L' := [some (.ref b0), some (.ref (b + 0)), some (.ref (b + 284)), some (.ref (b + 316)), some (.int (wq_I y4)), some (.int (wq_I r144)), none]) F dL_law_794 (by decide) rfl rfl rfl ?_
                      refine wq_aload_n F dL_law_796 rfl rfl rfl ?_
                      refine wq_aload_n F dL_law_797 rfl rfl rfl ?_
                      refine wq_iload F dL_law_798 rfl rfl ?_
                      refine wq_iconst (n := 1) F dL_law_800 rfl ?_
                      refine wq_iadd F dL_law_801 rfl ?_
                      obtain ⟨t147, ht147, wt147, h⟩ := wq_ix_some h
                      refine wq_sld F hX hbl hbA ht147 wt147 dL_law_802 rfl ?_
                      obtain ⟨r148, S149, h1r148, h⟩ := wq_bd_some h
                      obtain ⟨S150, eS150, h⟩ := wq_lt_some h
                      refine wq_callV (As := [.int (wq_I (X t147))]) (k := 284) (n := 3) F lk_L_164 (wq_Ct_emb (o := 284) (ct_X9_toldRows h1r148) (Nat.le_of_ble_eq_true rfl) wq_EL_m (wq_mdl_at _)) ⟨(Nat.le_of_ble_eq_true rfl), (Nat.le_of_ble_eq_true rfl)⟩ ⟨by show cc + 1 ≤ room_1.cells; omega, by show ss + 6 ≤ room_1.slots; omega⟩ (Nat.le_of_ble_eq_true rfl) rfl rfl wq_AbX rfl rfl (Nat.le_of_ble_eq_true rfl) dL_law_803 rfl ?_
                      refine wq_namS eS150 ?_
                      refine wq_istore (L' := [some (.ref b0), some (.ref (b + 0)), some (.ref (b + 284)), some (.ref (b + 316)), some (.int (wq_I y4)), some (.int (wq_I r144)), some (.int (wq_I r148))]) F dL_law_806 (by decide) rfl rfl rfl ?_
                      refine wq_aload_n F dL_law_808 rfl rfl rfl ?_
                      obtain ⟨r151, S152, h1r151, h⟩ := wq_bd_some h
                      obtain ⟨S153, eS153, h⟩ := wq_lt_some h
                      refine wq_callV (As := []) (k := 284) (n := 1) F lk_L_133 (wq_Ct_emb (o := 284) (ct_X9_thrown h1r151) (Nat.le_of_ble_eq_true rfl) wq_EL_m (wq_mdl_at _)) ⟨(Nat.le_of_ble_eq_true rfl), (Nat.le_of_ble_eq_true rfl)⟩ ⟨by show cc + 1 ≤ room_1.cells; omega, by show ss + 6 ≤ room_1.slots; omega⟩ (Nat.le_of_ble_eq_true rfl) rfl rfl wq_AbX rfl rfl (Nat.le_of_ble_eq_true rfl) dL_law_809 rfl ?_
                      refine wq_namS eS153 ?_
                      refine wq_iload F dL_law_812 rfl rfl ?_
                      refine wq_icmp_eq (tgt := 819) F dL_law_814 (by decide) rfl (fun hc => ?_) (fun hc => ?_)
                      · replace h := wq_ift hc h
                        refine wq_iload F dL_law_819 rfl rfl ?_
                        refine wq_if_ne (tgt := 836) F dL_law_821 (by decide) rfl (fun hc => ?_) (fun hc => ?_)
                        · replace h := wq_iff hc h
                          refine wq_goto (tgt := 2456) F dL_law_836 (by decide) ?_
                          refine wq_iinc (L' := [some (.ref b0), some (.ref (b + 0)), some (.ref (b + 284)), some (.ref (b + 316)), some (.int (wq_I (y4 + 6))), some (.int (wq_I r144)), some (.int (wq_I r148))]) F dL_law_2456 rfl (by decide) rfl rfl rfl ?_
                          refine wq_goto (tgt := 23) F dL_law_2459 (by decide) ?_
                          exact wq_wid (k := cc + 10) (n := ss + 60) (by omega) (by omega) <| wq_lsub [some (.ref b0), some (.ref (b + 0)), some (.ref (b + 284)), some (.ref (b + 316)), some (.int (wq_I (y4 + 6))), none, none] (by simp [wq_sub]) (hrec (y4 + 6) S153 h)
                        · replace h := wq_ift hc h
                          refine wq_aload_n F dL_law_824 rfl rfl rfl ?_
                          refine wq_iconst (n := 0) F dL_law_825 rfl ?_
                          obtain ⟨t154, ht154, wt154, h⟩ := wq_ix_some h
                          refine wq_lald F (Nat.le_of_ble_eq_true rfl) rfl ht154 wt154 dL_law_826 rfl ?_
                          refine wq_iload F dL_law_827 rfl rfl ?_
                          refine wq_i2l_ F dL_law_829 rfl ?_
                          refine wq_lcmp F dL_law_830 rfl ?_
                          refine wq_if_eq (tgt := 836) F dL_law_831 (by decide) rfl (fun hc => ?_) (fun hc => ?_)
                          · replace h := wq_ift hc h
                            refine wq_goto (tgt := 2456) F dL_law_836 (by decide) ?_
                            refine wq_iinc (L' := [some (.ref b0), some (.ref (b + 0)), some (.ref (b + 284)), some (.ref (b + 316)), some (.int (wq_I (y4 + 6))), some (.int (wq_I r144)), some (.int (wq_I r148))]) F dL_law_2456 rfl (by decide) rfl rfl rfl ?_
                            refine wq_goto (tgt := 23) F dL_law_2459 (by decide) ?_
                            exact wq_wid (k := cc + 10) (n := ss + 60) (by omega) (by omega) <| wq_lsub [some (.ref b0), some (.ref (b + 0)), some (.ref (b + 284)), some (.ref (b + 316)), some (.int (wq_I (y4 + 6))), none, none] (by simp [wq_sub]) (hrec (y4 + 6) S153 h)
                          · replace h := wq_iff hc h
                            refine wq_iconst (n := 0) F dL_law_834 rfl ?_
                            simp at h
                      · replace h := wq_iff hc h
                        refine wq_iconst (n := 0) F dL_law_817 rfl ?_
                        simp at h
                    · replace h := wq_iff hc8 h
                      by_cases hc9 : wq_w (wq_and (X t1) 63) = 9
                      · replace h := wq_ift hc9 h
                        refine wq_tableIn (tgt := 839) (off := 799) F dL_law_40 (by omega) (by omega) (by rw [hc9]; rfl) (by decide) ?_
                        refine wq_aload_n F dL_law_839 rfl rfl rfl ?_
                        refine wq_aload_n F dL_law_840 rfl rfl rfl ?_
                        refine wq_iload F dL_law_841 rfl rfl ?_
                        refine wq_iconst (n := 1) F dL_law_843 rfl ?_
                        refine wq_iadd F dL_law_844 rfl ?_
                        obtain ⟨t155, ht155, wt155, h⟩ := wq_ix_some h
                        refine wq_sld F hX hbl hbA ht155 wt155 dL_law_845 rfl ?_
                        refine wq_aload_n F dL_law_846 rfl rfl rfl ?_
                        refine wq_iload F dL_law_847 rfl rfl ?_
                        refine wq_iconst (n := 2) F dL_law_849 rfl ?_
                        refine wq_iadd F dL_law_850 rfl ?_
                        obtain ⟨t156, ht156, wt156, h⟩ := wq_ix_some h
                        refine wq_sld F hX hbl hbA ht156 wt156 dL_law_851 rfl ?_
                        refine wq_aload_n F dL_law_852 rfl rfl rfl ?_
                        obtain ⟨r157, S158, h1r157, h⟩ := wq_bd_some h
                        refine wq_callW (As := [.ref (b + 0), .int (wq_I (X t155)), .int (wq_I (X t156)), .ref (b + 316)]) (mc := 2) (ms := 12) (n := 10) F K Kn lk_L_165 (ct_L_unlike hlt h1r157) ⟨(Nat.le_of_ble_eq_true rfl), (Nat.le_of_ble_eq_true rfl)⟩ ⟨by show cc + 2 ≤ room_1.cells; omega, by show ss + 12 ≤ room_1.slots; omega⟩ rfl rfl (Nat.le_of_ble_eq_true rfl) dL_law_853 rfl ?_
                        refine wq_istore (L' := [some (.ref b0), some (.ref (b + 0)), some (.ref (b + 284)), some (.ref (b + 316)), some (.int (wq_I y4)), some (.int (wq_I r157)), none]) F dL_law_856 (by decide) rfl rfl rfl ?_
                        refine wq_aload_n F dL_law_858 rfl rfl rfl ?_
                        refine wq_aload_n F dL_law_859 rfl rfl rfl ?_
                        refine wq_iload F dL_law_860 rfl rfl ?_
                        refine wq_iconst (n := 1) F dL_law_862 rfl ?_
                        refine wq_iadd F dL_law_863 rfl ?_
                        obtain ⟨t160, ht160, wt160, h⟩ := wq_ix_some h
                        refine wq_sld F hX hbl hbA ht160 wt160 dL_law_864 rfl ?_
                        refine wq_aload_n F dL_law_865 rfl rfl rfl ?_
                        refine wq_iload F dL_law_866 rfl rfl ?_
                        refine wq_iconst (n := 2) F dL_law_868 rfl ?_
                        refine wq_iadd F dL_law_869 rfl ?_
                        obtain ⟨t161, ht161, wt161, h⟩ := wq_ix_some h
                        refine wq_sld F hX hbl hbA ht161 wt161 dL_law_870 rfl ?_
                        obtain ⟨r162, S163, h1r162, h⟩ := wq_bd_some h
                        obtain ⟨S164, eS164, h⟩ := wq_lt_some h
                        refine wq_callV (As := [.int (wq_I (X t160)), .int (wq_I (X t161))]) (k := 284) (n := 4) F lk_L_167 (wq_Ct_emb (o := 284) (ct_X9_unlike h1r162) (Nat.le_of_ble_eq_true rfl) wq_EL_m (wq_mdl_at _)) ⟨(Nat.le_of_ble_eq_true rfl), (Nat.le_of_ble_eq_true rfl)⟩ ⟨by show cc + 2 ≤ room_1.cells; omega, by show ss + 12 ≤ room_1.slots; omega⟩ (Nat.le_of_ble_eq_true rfl) rfl rfl wq_AbX rfl rfl (Nat.le_of_ble_eq_true rfl) dL_law_871 rfl ?_
                        refine wq_namS eS164 ?_
                        refine wq_istore (L' := [some (.ref b0), some (.ref (b + 0)), some (.ref (b + 284)), some (.ref (b + 316)), some (.int (wq_I y4)), some (.int (wq_I r157)), some (.int (wq_I r162))]) F dL_law_874 (by decide) rfl rfl rfl ?_
                        refine wq_aload_n F dL_law_876 rfl rfl rfl ?_
                        obtain ⟨r165, S166, h1r165, h⟩ := wq_bd_some h
                        obtain ⟨S167, eS167, h⟩ := wq_lt_some h
                        refine wq_callV (As := []) (k := 284) (n := 1) F lk_L_133 (wq_Ct_emb (o := 284) (ct_X9_thrown h1r165) (Nat.le_of_ble_eq_true rfl) wq_EL_m (wq_mdl_at _)) ⟨(Nat.le_of_ble_eq_true rfl), (Nat.le_of_ble_eq_true rfl)⟩ ⟨by show cc + 2 ≤ room_1.cells; omega, by show ss + 12 ≤ room_1.slots; omega⟩ (Nat.le_of_ble_eq_true rfl) rfl rfl wq_AbX rfl rfl (Nat.le_of_ble_eq_true rfl) dL_law_877 rfl ?_
                        refine wq_namS eS167 ?_
                        refine wq_iload F dL_law_880 rfl rfl ?_
                        refine wq_icmp_eq (tgt := 887) F dL_law_882 (by decide) rfl (fun hc => ?_) (fun hc => ?_)
                        · replace h := wq_ift hc h
                          refine wq_iload F dL_law_887 rfl rfl ?_
                          refine wq_if_ne (tgt := 904) F dL_law_889 (by decide) rfl (fun hc => ?_) (fun hc => ?_)
                          · replace h := wq_iff hc h
                            refine wq_goto (tgt := 2456) F dL_law_904 (by decide) ?_
                            refine wq_iinc (L' := [some (.ref b0), some (.ref (b + 0)), some (.ref (b + 284)), some (.ref (b + 316)), some (.int (wq_I (y4 + 6))), some (.int (wq_I r157)), some (.int (wq_I r162))]) F dL_law_2456 rfl (by decide) rfl rfl rfl ?_
                            refine wq_goto (tgt := 23) F dL_law_2459 (by decide) ?_
                            exact wq_wid (k := cc + 10) (n := ss + 60) (by omega) (by omega) <| wq_lsub [some (.ref b0), some (.ref (b + 0)), some (.ref (b + 284)), some (.ref (b + 316)), some (.int (wq_I (y4 + 6))), none, none] (by simp [wq_sub]) (hrec (y4 + 6) S167 h)
                          · replace h := wq_ift hc h
                            refine wq_aload_n F dL_law_892 rfl rfl rfl ?_
                            refine wq_iconst (n := 0) F dL_law_893 rfl ?_
                            obtain ⟨t168, ht168, wt168, h⟩ := wq_ix_some h
                            refine wq_lald F (Nat.le_of_ble_eq_true rfl) rfl ht168 wt168 dL_law_894 rfl ?_
                            refine wq_iload F dL_law_895 rfl rfl ?_
                            refine wq_i2l_ F dL_law_897 rfl ?_
                            refine wq_lcmp F dL_law_898 rfl ?_
                            refine wq_if_eq (tgt := 904) F dL_law_899 (by decide) rfl (fun hc => ?_) (fun hc => ?_)
                            · replace h := wq_ift hc h
                              refine wq_goto (tgt := 2456) F dL_law_904 (by decide) ?_
                              refine wq_iinc (L' := [some (.ref b0), some (.ref (b + 0)), some (.ref (b + 284)), some (.ref (b + 316)), some (.int (wq_I (y4 + 6))), some (.int (wq_I r157)), some (.int (wq_I r162))]) F dL_law_2456 rfl (by decide) rfl rfl rfl ?_
                              refine wq_goto (tgt := 23) F dL_law_2459 (by decide) ?_
                              exact wq_wid (k := cc + 10) (n := ss + 60) (by omega) (by omega) <| wq_lsub [some (.ref b0), some (.ref (b + 0)), some (.ref (b + 284)), some (.ref (b + 316)), some (.int (wq_I (y4 + 6))), none, none] (by simp [wq_sub]) (hrec (y4 + 6) S167 h)
                            · replace h := wq_iff hc h
                              refine wq_iconst (n := 0) F dL_law_902 rfl ?_
                              simp at h
                        · replace h := wq_iff hc h
                          refine wq_iconst (n := 0) F dL_law_885 rfl ?_
                          simp at h
                      · replace h := wq_iff hc9 h
                        by_cases hc10 : wq_w (wq_and (X t1) 63) = 10
                        · replace h := wq_ift hc10 h
                          refine wq_tableIn (tgt := 907) (off := 867) F dL_law_40 (by omega) (by omega) (by rw [hc10]; rfl) (by decide) ?_
                          refine wq_aload_n F dL_law_907 rfl rfl rfl ?_
                          refine wq_aload_n F dL_law_908 rfl rfl rfl ?_
                          refine wq_iload F dL_law_909 rfl rfl ?_
                          refine wq_iconst (n := 1) F dL_law_911 rfl ?_
                          refine wq_iadd F dL_law_912 rfl ?_
                          obtain ⟨t169, ht169, wt169, h⟩ := wq_ix_some h
                          refine wq_sld F hX hbl hbA ht169 wt169 dL_law_913 rfl ?_
                          refine wq_aload_n F dL_law_914 rfl rfl rfl ?_
                          refine wq_iload F dL_law_915 rfl rfl ?_
                          refine wq_iconst (n := 2) F dL_law_917 rfl ?_
                          refine wq_iadd F dL_law_918 rfl ?_
                          obtain ⟨t170, ht170, wt170, h⟩ := wq_ix_some h
                          refine wq_sld F hX hbl hbA ht170 wt170 dL_law_919 rfl ?_
                          refine wq_aload_n F dL_law_920 rfl rfl rfl ?_
                          obtain ⟨r171, S172, h1r171, h⟩ := wq_bd_some h
                          refine wq_callW (As := [.ref (b + 0), .int (wq_I (X t169)), .int (wq_I (X t170)), .ref (b + 316)]) (mc := 2) (ms := 12) (n := 10) F K Kn lk_L_168 (ct_L_least hlt h1r171) ⟨(Nat.le_of_ble_eq_true rfl), (Nat.le_of_ble_eq_true rfl)⟩ ⟨by show cc + 2 ≤ room_1.cells; omega, by show ss + 12 ≤ room_1.slots; omega⟩ rfl rfl (Nat.le_of_ble_eq_true rfl) dL_law_921 rfl ?_
                          refine wq_istore (L' := [some (.ref b0), some (.ref (b + 0)), some (.ref (b + 284)), some (.ref (b + 316)), some (.int (wq_I y4)), some (.int (wq_I r171)), none]) F dL_law_924 (by decide) rfl rfl rfl ?_
                          refine wq_aload_n F dL_law_926 rfl rfl rfl ?_
                          refine wq_aload_n F dL_law_927 rfl rfl rfl ?_
                          refine wq_iload F dL_law_928 rfl rfl ?_
                          refine wq_iconst (n := 1) F dL_law_930 rfl ?_
                          refine wq_iadd F dL_law_931 rfl ?_
                          obtain ⟨t174, ht174, wt174, h⟩ := wq_ix_some h
                          refine wq_sld F hX hbl hbA ht174 wt174 dL_law_932 rfl ?_
                          refine wq_aload_n F dL_law_933 rfl rfl rfl ?_
                          refine wq_iload F dL_law_934 rfl rfl ?_
                          refine wq_iconst (n := 2) F dL_law_936 rfl ?_
                          refine wq_iadd F dL_law_937 rfl ?_
                          obtain ⟨t175, ht175, wt175, h⟩ := wq_ix_some h
                          refine wq_sld F hX hbl hbA ht175 wt175 dL_law_938 rfl ?_
                          obtain ⟨r176, S177, h1r176, h⟩ := wq_bd_some h
                          obtain ⟨S178, eS178, h⟩ := wq_lt_some h
                          refine wq_callV (As := [.int (wq_I (X t174)), .int (wq_I (X t175))]) (k := 284) (n := 4) F lk_L_170 (wq_Ct_emb (o := 284) (ct_X9_least h1r176) (Nat.le_of_ble_eq_true rfl) wq_EL_m (wq_mdl_at _)) ⟨(Nat.le_of_ble_eq_true rfl), (Nat.le_of_ble_eq_true rfl)⟩ ⟨by show cc + 2 ≤ room_1.cells; omega, by show ss + 12 ≤ room_1.slots; omega⟩ (Nat.le_of_ble_eq_true rfl) rfl rfl wq_AbX rfl rfl (Nat.le_of_ble_eq_true rfl) dL_law_939 rfl ?_
                          refine wq_namS eS178 ?_
                          refine wq_istore (L' := [some (.ref b0), some (.ref (b + 0)), some (.ref (b + 284)), some (.ref (b + 316)), some (.int (wq_I y4)), some (.int (wq_I r171)), some (.int (wq_I r176))]) F dL_law_942 (by decide) rfl rfl rfl ?_
                          refine wq_aload_n F dL_law_944 rfl rfl rfl ?_
                          obtain ⟨r179, S180, h1r179, h⟩ := wq_bd_some h
                          obtain ⟨S181, eS181, h⟩ := wq_lt_some h
                          refine wq_callV (As := []) (k := 284) (n := 1) F lk_L_133 (wq_Ct_emb (o := 284) (ct_X9_thrown h1r179) (Nat.le_of_ble_eq_true rfl) wq_EL_m (wq_mdl_at _)) ⟨(Nat.le_of_ble_eq_true rfl), (Nat.le_of_ble_eq_true rfl)⟩ ⟨by show cc + 2 ≤ room_1.cells; omega, by show ss + 12 ≤ room_1.slots; omega⟩ (Nat.le_of_ble_eq_true rfl) rfl rfl wq_AbX rfl rfl (Nat.le_of_ble_eq_true rfl) dL_law_945 rfl ?_
                          refine wq_namS eS181 ?_
                          refine wq_iload F dL_law_948 rfl rfl ?_
                          refine wq_icmp_eq (tgt := 955) F dL_law_950 (by decide) rfl (fun hc => ?_) (fun hc => ?_)
                          · replace h := wq_ift hc h
                            refine wq_iload F dL_law_955 rfl rfl ?_
                            refine wq_if_ne (tgt := 972) F dL_law_957 (by decide) rfl (fun hc => ?_) (fun hc => ?_)
                            · replace h := wq_iff hc h
                              refine wq_goto (tgt := 2456) F dL_law_972 (by decide) ?_
                              refine wq_iinc (L' := [some (.ref b0), some (.ref (b + 0)), some (.ref (b + 284)), some (.ref (b + 316)), some (.int (wq_I (y4 + 6))), some (.int (wq_I r171)), some (.int (wq_I r176))]) F dL_law_2456 rfl (by decide) rfl rfl rfl ?_
                              refine wq_goto (tgt := 23) F dL_law_2459 (by decide) ?_
                              exact wq_wid (k := cc + 10) (n := ss + 60) (by omega) (by omega) <| wq_lsub [some (.ref b0), some (.ref (b + 0)), some (.ref (b + 284)), some (.ref (b + 316)), some (.int (wq_I (y4 + 6))), none, none] (by simp [wq_sub]) (hrec (y4 + 6) S181 h)
                            · replace h := wq_ift hc h
                              refine wq_aload_n F dL_law_960 rfl rfl rfl ?_
                              refine wq_iconst (n := 0) F dL_law_961 rfl ?_
                              obtain ⟨t182, ht182, wt182, h⟩ := wq_ix_some h
                              refine wq_lald F (Nat.le_of_ble_eq_true rfl) rfl ht182 wt182 dL_law_962 rfl ?_
                              refine wq_iload F dL_law_963 rfl rfl ?_
                              refine wq_i2l_ F dL_law_965 rfl ?_
                              refine wq_lcmp F dL_law_966 rfl ?_
                              refine wq_if_eq (tgt := 972) F dL_law_967 (by decide) rfl (fun hc => ?_) (fun hc => ?_)
                              · replace h := wq_ift hc h
                                refine wq_goto (tgt := 2456) F dL_law_972 (by decide) ?_
                                refine wq_iinc (L' := [some (.ref b0), some (.ref (b + 0)), some (.ref (b + 284)), some (.ref (b + 316)), some (.int (wq_I (y4 + 6))), some (.int (wq_I r171)), some (.int (wq_I r176))]) F dL_law_2456 rfl (by decide) rfl rfl rfl ?_
                                refine wq_goto (tgt := 23) F dL_law_2459 (by decide) ?_
                                exact wq_wid (k := cc + 10) (n := ss + 60) (by omega) (by omega) <| wq_lsub [some (.ref b0), some (.ref (b + 0)), some (.ref (b + 284)), some (.ref (b + 316)), some (.int (wq_I (y4 + 6))), none, none] (by simp [wq_sub]) (hrec (y4 + 6) S181 h)
                              · replace h := wq_iff hc h
                                refine wq_iconst (n := 0) F dL_law_970 rfl ?_
                                simp at h
                          · replace h := wq_iff hc h
                            refine wq_iconst (n := 0) F dL_law_953 rfl ?_
                            simp at h
                        · replace h := wq_iff hc10 h
                          by_cases hc11 : wq_w (wq_and (X t1) 63) = 11
                          · replace h := wq_ift hc11 h
                            refine wq_tableIn (tgt := 975) (off := 935) F dL_law_40 (by omega) (by omega) (by rw [hc11]; rfl) (by decide) ?_
                            refine wq_aload_n F dL_law_975 rfl rfl rfl ?_
                            refine wq_aload_n F dL_law_976 rfl rfl rfl ?_
                            refine wq_iload F dL_law_977 rfl rfl ?_
                            refine wq_iconst (n := 1) F dL_law_979 rfl ?_
                            refine wq_iadd F dL_law_980 rfl ?_
                            obtain ⟨t183, ht183, wt183, h⟩ := wq_ix_some h
                            refine wq_sld F hX hbl hbA ht183 wt183 dL_law_981 rfl ?_
                            refine wq_aload_n F dL_law_982 rfl rfl rfl ?_
                            refine wq_iload F dL_law_983 rfl rfl ?_
                            refine wq_iconst (n := 2) F dL_law_985 rfl ?_
                            refine wq_iadd F dL_law_986 rfl ?_
                            obtain ⟨t184, ht184, wt184, h⟩ := wq_ix_some h
                            refine wq_sld F hX hbl hbA ht184 wt184 dL_law_987 rfl ?_
                            refine wq_aload_n F dL_law_988 rfl rfl rfl ?_
                            obtain ⟨r185, S186, h1r185, h⟩ := wq_bd_some h
                            refine wq_callW (As := [.ref (b + 0), .int (wq_I (X t183)), .int (wq_I (X t184)), .ref (b + 316)]) (mc := 2) (ms := 12) (n := 10) F K Kn lk_L_171 (ct_L_greatest hlt h1r185) ⟨(Nat.le_of_ble_eq_true rfl), (Nat.le_of_ble_eq_true rfl)⟩ ⟨by show cc + 2 ≤ room_1.cells; omega, by show ss + 12 ≤ room_1.slots; omega⟩ rfl rfl (Nat.le_of_ble_eq_true rfl) dL_law_989 rfl ?_
                            refine wq_istore (L' := [some (.ref b0), some (.ref (b + 0)), some (.ref (b + 284)), some (.ref (b + 316)), some (.int (wq_I y4)), some (.int (wq_I r185)), none]) F dL_law_992 (by decide) rfl rfl rfl ?_
                            refine wq_aload_n F dL_law_994 rfl rfl rfl ?_
                            refine wq_aload_n F dL_law_995 rfl rfl rfl ?_
                            refine wq_iload F dL_law_996 rfl rfl ?_
                            refine wq_iconst (n := 1) F dL_law_998 rfl ?_
                            refine wq_iadd F dL_law_999 rfl ?_
                            obtain ⟨t188, ht188, wt188, h⟩ := wq_ix_some h
                            refine wq_sld F hX hbl hbA ht188 wt188 dL_law_1000 rfl ?_
                            refine wq_aload_n F dL_law_1001 rfl rfl rfl ?_
                            refine wq_iload F dL_law_1002 rfl rfl ?_
                            refine wq_iconst (n := 2) F dL_law_1004 rfl ?_
                            refine wq_iadd F dL_law_1005 rfl ?_
                            obtain ⟨t189, ht189, wt189, h⟩ := wq_ix_some h
                            refine wq_sld F hX hbl hbA ht189 wt189 dL_law_1006 rfl ?_
                            obtain ⟨r190, S191, h1r190, h⟩ := wq_bd_some h
                            obtain ⟨S192, eS192, h⟩ := wq_lt_some h
                            refine wq_callV (As := [.int (wq_I (X t188)), .int (wq_I (X t189))]) (k := 284) (n := 4) F lk_L_173 (wq_Ct_emb (o := 284) (ct_X9_greatest h1r190) (Nat.le_of_ble_eq_true rfl) wq_EL_m (wq_mdl_at _)) ⟨(Nat.le_of_ble_eq_true rfl), (Nat.le_of_ble_eq_true rfl)⟩ ⟨by show cc + 2 ≤ room_1.cells; omega, by show ss + 12 ≤ room_1.slots; omega⟩ (Nat.le_of_ble_eq_true rfl) rfl rfl wq_AbX rfl rfl (Nat.le_of_ble_eq_true rfl) dL_law_1007 rfl ?_
                            refine wq_namS eS192 ?_
                            refine wq_istore (L' := [some (.ref b0), some (.ref (b + 0)), some (.ref (b + 284)), some (.ref (b + 316)), some (.int (wq_I y4)), some (.int (wq_I r185)), some (.int (wq_I r190))]) F dL_law_1010 (by decide) rfl rfl rfl ?_
                            refine wq_aload_n F dL_law_1012 rfl rfl rfl ?_
                            obtain ⟨r193, S194, h1r193, h⟩ := wq_bd_some h
                            obtain ⟨S195, eS195, h⟩ := wq_lt_some h
                            refine wq_callV (As := []) (k := 284) (n := 1) F lk_L_133 (wq_Ct_emb (o := 284) (ct_X9_thrown h1r193) (Nat.le_of_ble_eq_true rfl) wq_EL_m (wq_mdl_at _)) ⟨(Nat.le_of_ble_eq_true rfl), (Nat.le_of_ble_eq_true rfl)⟩ ⟨by show cc + 2 ≤ room_1.cells; omega, by show ss + 12 ≤ room_1.slots; omega⟩ (Nat.le_of_ble_eq_true rfl) rfl rfl wq_AbX rfl rfl (Nat.le_of_ble_eq_true rfl) dL_law_1013 rfl ?_
                            refine wq_namS eS195 ?_
                            refine wq_iload F dL_law_1016 rfl rfl ?_
                            refine wq_icmp_eq (tgt := 1023) F dL_law_1018 (by decide) rfl (fun hc => ?_) (fun hc => ?_)
                            · replace h := wq_ift hc h
                              refine wq_iload F dL_law_1023 rfl rfl ?_
                              refine wq_if_ne (tgt := 1040) F dL_law_1025 (by decide) rfl (fun hc => ?_) (fun hc => ?_)
                              · replace h := wq_iff hc h
                                refine wq_goto (tgt := 2456) F dL_law_1040 (by decide) ?_
                                refine wq_iinc (L' := [some (.ref b0), some (.ref (b + 0)), some (.ref (b + 284)), some (.ref (b + 316)), some (.int (wq_I (y4 + 6))), some (.int (wq_I r185)), some (.int (wq_I r190))]) F dL_law_2456 rfl (by decide) rfl rfl rfl ?_
                                refine wq_goto (tgt := 23) F dL_law_2459 (by decide) ?_
                                exact wq_wid (k := cc + 10) (n := ss + 60) (by omega) (by omega) <| wq_lsub [some (.ref b0), some (.ref (b + 0)), some (.ref (b + 284)), some (.ref (b + 316)), some (.int (wq_I (y4 + 6))), none, none] (by simp [wq_sub]) (hrec (y4 + 6) S195 h)
                              · replace h := wq_ift hc h
                                refine wq_aload_n F dL_law_1028 rfl rfl rfl ?_
                                refine wq_iconst (n := 0) F dL_law_1029 rfl ?_
                                obtain ⟨t196, ht196, wt196, h⟩ := wq_ix_some h
                                refine wq_lald F (Nat.le_of_ble_eq_true rfl) rfl ht196 wt196 dL_law_1030 rfl ?_
                                refine wq_iload F dL_law_1031 rfl rfl ?_
                                refine wq_i2l_ F dL_law_1033 rfl ?_
                                refine wq_lcmp F dL_law_1034 rfl ?_
                                refine wq_if_eq (tgt := 1040) F dL_law_1035 (by decide) rfl (fun hc => ?_) (fun hc => ?_)
                                · replace h := wq_ift hc h
                                  refine wq_goto (tgt := 2456) F dL_law_1040 (by decide) ?_
                                  refine wq_iinc (L' := [some (.ref b0), some (.ref (b + 0)), some (.ref (b + 284)), some (.ref (b + 316)), some (.int (wq_I (y4 + 6))), some (.int (wq_I r185)), some (.int (wq_I r190))]) F dL_law_2456 rfl (by decide) rfl rfl rfl ?_
                                  refine wq_goto (tgt := 23) F dL_law_2459 (by decide) ?_
                                  exact wq_wid (k := cc + 10) (n := ss + 60) (by omega) (by omega) <| wq_lsub [some (.ref b0), some (.ref (b + 0)), some (.ref (b + 284)), some (.ref (b + 316)), some (.int (wq_I (y4 + 6))), none, none] (by simp [wq_sub]) (hrec (y4 + 6) S195 h)
                                · replace h := wq_iff hc h
                                  refine wq_iconst (n := 0) F dL_law_1038 rfl ?_
                                  simp at h
                            · replace h := wq_iff hc h
                              refine wq_iconst (n := 0) F dL_law_1021 rfl ?_
                              simp at h
                          · replace h := wq_iff hc11 h
                            by_cases hc12 : wq_w (wq_and (X t1) 63) = 12
                            · replace h := wq_ift hc12 h
                              refine wq_tableIn (tgt := 1043) (off := 1003) F dL_law_40 (by omega) (by omega) (by rw [hc12]; rfl) (by decide) ?_
                              refine wq_aload_n F dL_law_1043 rfl rfl rfl ?_
                              refine wq_aload_n F dL_law_1044 rfl rfl rfl ?_
                              refine wq_iload F dL_law_1045 rfl rfl ?_
                              refine wq_iconst (n := 1) F dL_law_1047 rfl ?_
                              refine wq_iadd F dL_law_1048 rfl ?_
                              obtain ⟨t197, ht197, wt197, h⟩ := wq_ix_some h
                              refine wq_sld F hX hbl hbA ht197 wt197 dL_law_1049 rfl ?_
                              refine wq_aload_n F dL_law_1050 rfl rfl rfl ?_
                              obtain ⟨r198, S199, h1r198, h⟩ := wq_bd_some h
                              refine wq_callW (As := [.ref (b + 0), .int (wq_I (X t197)), .ref (b + 316)]) (mc := 1) (ms := 6) (n := 9) F K Kn lk_L_174 (ct_L_isMarked hlt h1r198) ⟨(Nat.le_of_ble_eq_true rfl), (Nat.le_of_ble_eq_true rfl)⟩ ⟨by show cc + 1 ≤ room_1.cells; omega, by show ss + 6 ≤ room_1.slots; omega⟩ rfl rfl (Nat.le_of_ble_eq_true rfl) dL_law_1051 rfl ?_
                              refine wq_istore (L' := [some (.ref b0), some (.ref (b + 0)), some (.ref (b + 284)), some (.ref (b + 316)), some (.int (wq_I y4)), some (.int (wq_I r198)), none]) F dL_law_1054 (by decide) rfl rfl rfl ?_
                              refine wq_aload_n F dL_law_1056 rfl rfl rfl ?_
                              refine wq_aload_n F dL_law_1057 rfl rfl rfl ?_
                              refine wq_iload F dL_law_1058 rfl rfl ?_
                              refine wq_iconst (n := 1) F dL_law_1060 rfl ?_
                              refine wq_iadd F dL_law_1061 rfl ?_
                              obtain ⟨t201, ht201, wt201, h⟩ := wq_ix_some h
                              refine wq_sld F hX hbl hbA ht201 wt201 dL_law_1062 rfl ?_
                              obtain ⟨r202, S203, h1r202, h⟩ := wq_bd_some h
                              obtain ⟨S204, eS204, h⟩ := wq_lt_some h
                              refine wq_callV (As := [.int (wq_I (X t201))]) (k := 284) (n := 3) F lk_L_176 (wq_Ct_emb (o := 284) (ct_X9_isMarked h1r202) (Nat.le_of_ble_eq_true rfl) wq_EL_m (wq_mdl_at _)) ⟨(Nat.le_of_ble_eq_true rfl), (Nat.le_of_ble_eq_true rfl)⟩ ⟨by show cc + 1 ≤ room_1.cells; omega, by show ss + 6 ≤ room_1.slots; omega⟩ (Nat.le_of_ble_eq_true rfl) rfl rfl wq_AbX rfl rfl (Nat.le_of_ble_eq_true rfl) dL_law_1063 rfl ?_
                              refine wq_namS eS204 ?_
                              refine wq_istore (L' := [some (.ref b0), some (.ref (b + 0)), some (.ref (b + 284)), some (.ref (b + 316)), some (.int (wq_I y4)), some (.int (wq_I r198)), some (.int (wq_I r202))]) F dL_law_1066 (by decide) rfl rfl rfl ?_
                              refine wq_aload_n F dL_law_1068 rfl rfl rfl ?_
                              obtain ⟨r205, S206, h1r205, h⟩ := wq_bd_some h
                              obtain ⟨S207, eS207, h⟩ := wq_lt_some h
                              refine wq_callV (As := []) (k := 284) (n := 1) F lk_L_133 (wq_Ct_emb (o := 284) (ct_X9_thrown h1r205) (Nat.le_of_ble_eq_true rfl) wq_EL_m (wq_mdl_at _)) ⟨(Nat.le_of_ble_eq_true rfl), (Nat.le_of_ble_eq_true rfl)⟩ ⟨by show cc + 1 ≤ room_1.cells; omega, by show ss + 6 ≤ room_1.slots; omega⟩ (Nat.le_of_ble_eq_true rfl) rfl rfl wq_AbX rfl rfl (Nat.le_of_ble_eq_true rfl) dL_law_1069 rfl ?_
                              refine wq_namS eS207 ?_
                              refine wq_iload F dL_law_1072 rfl rfl ?_
                              refine wq_icmp_eq (tgt := 1079) F dL_law_1074 (by decide) rfl (fun hc => ?_) (fun hc => ?_)
                              · replace h := wq_ift hc h
                                refine wq_iload F dL_law_1079 rfl rfl ?_
                                refine wq_if_ne (tgt := 1103) F dL_law_1081 (by decide) rfl (fun hc => ?_) (fun hc => ?_)
                                · replace h := wq_iff hc h
                                  refine wq_goto (tgt := 2456) F dL_law_1103 (by decide) ?_
                                  refine wq_iinc (L' := [some (.ref b0), some (.ref (b + 0)), some (.ref (b + 284)), some (.ref (b + 316)), some (.int (wq_I (y4 + 6))), some (.int (wq_I r198)), some (.int (wq_I r202))]) F dL_law_2456 rfl (by decide) rfl rfl rfl ?_
                                  refine wq_goto (tgt := 23) F dL_law_2459 (by decide) ?_
                                  exact wq_wid (k := cc + 10) (n := ss + 60) (by omega) (by omega) <| wq_lsub [some (.ref b0), some (.ref (b + 0)), some (.ref (b + 284)), some (.ref (b + 316)), some (.int (wq_I (y4 + 6))), none, none] (by simp [wq_sub]) (hrec (y4 + 6) S207 h)
                                · replace h := wq_ift hc h
                                  refine wq_aload_n F dL_law_1084 rfl rfl rfl ?_
                                  refine wq_iconst (n := 0) F dL_law_1085 rfl ?_
                                  obtain ⟨t208, ht208, wt208, h⟩ := wq_ix_some h
                                  refine wq_lald F (Nat.le_of_ble_eq_true rfl) rfl ht208 wt208 dL_law_1086 rfl ?_
                                  refine wq_iload F dL_law_1087 rfl rfl ?_
                                  refine wq_if_eq (tgt := 1096) F dL_law_1089 (by decide) rfl (fun hc => ?_) (fun hc => ?_)
                                  · replace h := wq_ift hc h
                                    refine wq_lconst (v := 0) F dL_law_1096 rfl rfl ?_
                                    refine wq_lcmp F dL_law_1097 rfl ?_
                                    refine wq_if_eq (tgt := 1103) F dL_law_1098 (by decide) rfl (fun hc => ?_) (fun hc => ?_)
                                    · replace h := wq_ift hc h
                                      refine wq_goto (tgt := 2456) F dL_law_1103 (by decide) ?_
                                      refine wq_iinc (L' := [some (.ref b0), some (.ref (b + 0)), some (.ref (b + 284)), some (.ref (b + 316)), some (.int (wq_I (y4 + 6))), some (.int (wq_I r198)), some (.int (wq_I r202))]) F dL_law_2456 rfl (by decide) rfl rfl rfl ?_
                                      refine wq_goto (tgt := 23) F dL_law_2459 (by decide) ?_
                                      exact wq_wid (k := cc + 10) (n := ss + 60) (by omega) (by omega) <| wq_lsub [some (.ref b0), some (.ref (b + 0)), some (.ref (b + 284)), some (.ref (b + 316)), some (.int (wq_I (y4 + 6))), none, none] (by simp [wq_sub]) (hrec (y4 + 6) S207 h)
                                    · replace h := wq_iff hc h
                                      refine wq_iconst (n := 0) F dL_law_1101 rfl ?_
                                      simp at h
                                  · replace h := wq_iff hc h
                                    refine wq_lconst (v := 1) F dL_law_1092 rfl rfl ?_
                                    refine wq_goto (tgt := 1097) F dL_law_1093 (by decide) ?_
                                    refine wq_lcmp F dL_law_1097 rfl ?_
                                    refine wq_if_eq (tgt := 1103) F dL_law_1098 (by decide) rfl (fun hc => ?_) (fun hc => ?_)
                                    · replace h := wq_ift hc h
                                      refine wq_goto (tgt := 2456) F dL_law_1103 (by decide) ?_
                                      refine wq_iinc (L' := [some (.ref b0), some (.ref (b + 0)), some (.ref (b + 284)), some (.ref (b + 316)), some (.int (wq_I (y4 + 6))), some (.int (wq_I r198)), some (.int (wq_I r202))]) F dL_law_2456 rfl (by decide) rfl rfl rfl ?_
                                      refine wq_goto (tgt := 23) F dL_law_2459 (by decide) ?_
                                      exact wq_wid (k := cc + 10) (n := ss + 60) (by omega) (by omega) <| wq_lsub [some (.ref b0), some (.ref (b + 0)), some (.ref (b + 284)), some (.ref (b + 316)), some (.int (wq_I (y4 + 6))), none, none] (by simp [wq_sub]) (hrec (y4 + 6) S207 h)
                                    · replace h := wq_iff hc h
                                      refine wq_iconst (n := 0) F dL_law_1101 rfl ?_
                                      simp at h
                              · replace h := wq_iff hc h
                                refine wq_iconst (n := 0) F dL_law_1077 rfl ?_
                                simp at h
                            · replace h := wq_iff hc12 h
                              by_cases hc13 : wq_w (wq_and (X t1) 63) = 13
                              · replace h := wq_ift hc13 h
                                refine wq_tableIn (tgt := 1106) (off := 1066) F dL_law_40 (by omega) (by omega) (by rw [hc13]; rfl) (by decide) ?_
                                refine wq_aload_n F dL_law_1106 rfl rfl rfl ?_
                                refine wq_aload_n F dL_law_1107 rfl rfl rfl ?_
                                refine wq_iload F dL_law_1108 rfl rfl ?_
                                refine wq_iconst (n := 1) F dL_law_1110 rfl ?_
                                refine wq_iadd F dL_law_1111 rfl ?_
                                obtain ⟨t209, ht209, wt209, h⟩ := wq_ix_some h
                                refine wq_sld F hX hbl hbA ht209 wt209 dL_law_1112 rfl ?_
                                refine wq_aload_n F dL_law_1113 rfl rfl rfl ?_
                                obtain ⟨r210, S211, h1r210, h⟩ := wq_bd_some h
                                refine wq_callW (As := [.ref (b + 0), .int (wq_I (X t209)), .ref (b + 316)]) (mc := 1) (ms := 6) (n := 8) F K Kn lk_L_177 (ct_L_addReport hlt h1r210) ⟨(Nat.le_of_ble_eq_true rfl), (Nat.le_of_ble_eq_true rfl)⟩ ⟨by show cc + 1 ≤ room_1.cells; omega, by show ss + 6 ≤ room_1.slots; omega⟩ rfl rfl (Nat.le_of_ble_eq_true rfl) dL_law_1114 rfl ?_
                                refine wq_istore (L' := [some (.ref b0), some (.ref (b + 0)), some (.ref (b + 284)), some (.ref (b + 316)), some (.int (wq_I y4)), some (.int (wq_I r210)), none]) F dL_law_1117 (by decide) rfl rfl rfl ?_
                                refine wq_aload_n F dL_law_1119 rfl rfl rfl ?_
                                refine wq_aload_n F dL_law_1120 rfl rfl rfl ?_
                                refine wq_iload F dL_law_1121 rfl rfl ?_
                                refine wq_iconst (n := 1) F dL_law_1123 rfl ?_
                                refine wq_iadd F dL_law_1124 rfl ?_
                                obtain ⟨t213, ht213, wt213, h⟩ := wq_ix_some h
                                refine wq_sld F hX hbl hbA ht213 wt213 dL_law_1125 rfl ?_
                                obtain ⟨r214, S215, h1r214, h⟩ := wq_bd_some h
                                obtain ⟨S216, eS216, h⟩ := wq_lt_some h
                                refine wq_callV (As := [.int (wq_I (X t213))]) (k := 284) (n := 2) F lk_L_179 (wq_Ct_emb (o := 284) (ct_X9_addReport h1r214) (Nat.le_of_ble_eq_true rfl) wq_EL_m (wq_mdl_at _)) ⟨(Nat.le_of_ble_eq_true rfl), (Nat.le_of_ble_eq_true rfl)⟩ ⟨by show cc + 1 ≤ room_1.cells; omega, by show ss + 6 ≤ room_1.slots; omega⟩ (Nat.le_of_ble_eq_true rfl) rfl rfl wq_AbX rfl rfl (Nat.le_of_ble_eq_true rfl) dL_law_1126 rfl ?_
                                refine wq_namS eS216 ?_
                                refine wq_istore (L' := [some (.ref b0), some (.ref (b + 0)), some (.ref (b + 284)), some (.ref (b + 316)), some (.int (wq_I y4)), some (.int (wq_I r210)), some (.int (wq_I r214))]) F dL_law_1129 (by decide) rfl rfl rfl ?_
                                refine wq_aload_n F dL_law_1131 rfl rfl rfl ?_
                                obtain ⟨r217, S218, h1r217, h⟩ := wq_bd_some h
                                obtain ⟨S219, eS219, h⟩ := wq_lt_some h
                                refine wq_callV (As := []) (k := 284) (n := 1) F lk_L_133 (wq_Ct_emb (o := 284) (ct_X9_thrown h1r217) (Nat.le_of_ble_eq_true rfl) wq_EL_m (wq_mdl_at _)) ⟨(Nat.le_of_ble_eq_true rfl), (Nat.le_of_ble_eq_true rfl)⟩ ⟨by show cc + 1 ≤ room_1.cells; omega, by show ss + 6 ≤ room_1.slots; omega⟩ (Nat.le_of_ble_eq_true rfl) rfl rfl wq_AbX rfl rfl (Nat.le_of_ble_eq_true rfl) dL_law_1132 rfl ?_
                                refine wq_namS eS219 ?_
                                refine wq_iload F dL_law_1135 rfl rfl ?_
                                refine wq_icmp_eq (tgt := 1142) F dL_law_1137 (by decide) rfl (fun hc => ?_) (fun hc => ?_)
                                · replace h := wq_ift hc h
                                  refine wq_iload F dL_law_1142 rfl rfl ?_
                                  refine wq_if_ne (tgt := 1159) F dL_law_1144 (by decide) rfl (fun hc => ?_) (fun hc => ?_)
                                  · replace h := wq_iff hc h
                                    refine wq_goto (tgt := 2456) F dL_law_1159 (by decide) ?_
                                    refine wq_iinc (L' := [some (.ref b0), some (.ref (b + 0)), some (.ref (b + 284)), some (.ref (b + 316)), some (.int (wq_I (y4 + 6))), some (.int (wq_I r210)), some (.int (wq_I r214))]) F dL_law_2456 rfl (by decide) rfl rfl rfl ?_
                                    refine wq_goto (tgt := 23) F dL_law_2459 (by decide) ?_
                                    exact wq_wid (k := cc + 10) (n := ss + 60) (by omega) (by omega) <| wq_lsub [some (.ref b0), some (.ref (b + 0)), some (.ref (b + 284)), some (.ref (b + 316)), some (.int (wq_I (y4 + 6))), none, none] (by simp [wq_sub]) (hrec (y4 + 6) S219 h)
                                  · replace h := wq_ift hc h
                                    refine wq_aload_n F dL_law_1147 rfl rfl rfl ?_
                                    refine wq_iconst (n := 0) F dL_law_1148 rfl ?_
                                    obtain ⟨t220, ht220, wt220, h⟩ := wq_ix_some h
                                    refine wq_lald F (Nat.le_of_ble_eq_true rfl) rfl ht220 wt220 dL_law_1149 rfl ?_
                                    refine wq_iload F dL_law_1150 rfl rfl ?_
                                    refine wq_i2l_ F dL_law_1152 rfl ?_
                                    refine wq_lcmp F dL_law_1153 rfl ?_
                                    refine wq_if_eq (tgt := 1159) F dL_law_1154 (by decide) rfl (fun hc => ?_) (fun hc => ?_)
                                    · replace h := wq_ift hc h
                                      refine wq_goto (tgt := 2456) F dL_law_1159 (by decide) ?_
                                      refine wq_iinc (L' := [some (.ref b0), some (.ref (b + 0)), some (.ref (b + 284)), some (.ref (b + 316)), some (.int (wq_I (y4 + 6))), some (.int (wq_I r210)), some (.int (wq_I r214))]) F dL_law_2456 rfl (by decide) rfl rfl rfl ?_
                                      refine wq_goto (tgt := 23) F dL_law_2459 (by decide) ?_
                                      exact wq_wid (k := cc + 10) (n := ss + 60) (by omega) (by omega) <| wq_lsub [some (.ref b0), some (.ref (b + 0)), some (.ref (b + 284)), some (.ref (b + 316)), some (.int (wq_I (y4 + 6))), none, none] (by simp [wq_sub]) (hrec (y4 + 6) S219 h)
                                    · replace h := wq_iff hc h
                                      refine wq_iconst (n := 0) F dL_law_1157 rfl ?_
                                      simp at h
                                · replace h := wq_iff hc h
                                  refine wq_iconst (n := 0) F dL_law_1140 rfl ?_
                                  simp at h
                              · replace h := wq_iff hc13 h
                                by_cases hc14 : wq_w (wq_and (X t1) 63) = 14
                                · replace h := wq_ift hc14 h
                                  refine wq_tableIn (tgt := 1162) (off := 1122) F dL_law_40 (by omega) (by omega) (by rw [hc14]; rfl) (by decide) ?_
                                  refine wq_aload_n F dL_law_1162 rfl rfl rfl ?_
                                  refine wq_aload_n F dL_law_1163 rfl rfl rfl ?_
                                  refine wq_iload F dL_law_1164 rfl rfl ?_
                                  refine wq_iconst (n := 1) F dL_law_1166 rfl ?_
                                  refine wq_iadd F dL_law_1167 rfl ?_
                                  obtain ⟨t221, ht221, wt221, h⟩ := wq_ix_some h
                                  refine wq_sld F hX hbl hbA ht221 wt221 dL_law_1168 rfl ?_
                                  refine wq_aload_n F dL_law_1169 rfl rfl rfl ?_
                                  refine wq_iload F dL_law_1170 rfl rfl ?_
                                  refine wq_iconst (n := 2) F dL_law_1172 rfl ?_
                                  refine wq_iadd F dL_law_1173 rfl ?_
                                  obtain ⟨t222, ht222, wt222, h⟩ := wq_ix_some h
                                  refine wq_sld F hX hbl hbA ht222 wt222 dL_law_1174 rfl ?_
                                  refine wq_aload_n F dL_law_1175 rfl rfl rfl ?_
                                  obtain ⟨r223, S224, h1r223, h⟩ := wq_bd_some h
                                  refine wq_callW (As := [.ref (b + 0), .int (wq_I (X t221)), .int (wq_I (X t222)), .ref (b + 316)]) (mc := 3) (ms := 18) (n := 9) F K Kn lk_L_180 (ct_L_addSource hlt h1r223) ⟨(Nat.le_of_ble_eq_true rfl), (Nat.le_of_ble_eq_true rfl)⟩ ⟨by show cc + 3 ≤ room_1.cells; omega, by show ss + 18 ≤ room_1.slots; omega⟩ rfl rfl (Nat.le_of_ble_eq_true rfl) dL_law_1176 rfl ?_
                                  refine wq_istore (L' := [some (.ref b0), some (.ref (b + 0)), some (.ref (b + 284)), some (.ref (b + 316)), some (.int (wq_I y4)), some (.int (wq_I r223)), none]) F dL_law_1179 (by decide) rfl rfl rfl ?_
                                  refine wq_aload_n F dL_law_1181 rfl rfl rfl ?_
                                  refine wq_aload_n F dL_law_1182 rfl rfl rfl ?_
                                  refine wq_iload F dL_law_1183 rfl rfl ?_
                                  refine wq_iconst (n := 1) F dL_law_1185 rfl ?_
                                  refine wq_iadd F dL_law_1186 rfl ?_
                                  obtain ⟨t226, ht226, wt226, h⟩ := wq_ix_some h
                                  refine wq_sld F hX hbl hbA ht226 wt226 dL_law_1187 rfl ?_
                                  refine wq_aload_n F dL_law_1188 rfl rfl rfl ?_
                                  refine wq_iload F dL_law_1189 rfl rfl ?_
                                  refine wq_iconst (n := 2) F dL_law_1191 rfl ?_
                                  refine wq_iadd F dL_law_1192 rfl ?_
                                  obtain ⟨t227, ht227, wt227, h⟩ := wq_ix_some h
                                  refine wq_sld F hX hbl hbA ht227 wt227 dL_law_1193 rfl ?_
                                  obtain ⟨r228, S229, h1r228, h⟩ := wq_bd_some h
                                  obtain ⟨S230, eS230, h⟩ := wq_lt_some h
                                  refine wq_callV (As := [.int (wq_I (X t226)), .int (wq_I (X t227))]) (k := 284) (n := 3) F lk_L_182 (wq_Ct_emb (o := 284) (ct_X9_addSource h1r228) (Nat.le_of_ble_eq_true rfl) wq_EL_m (wq_mdl_at _)) ⟨(Nat.le_of_ble_eq_true rfl), (Nat.le_of_ble_eq_true rfl)⟩ ⟨by show cc + 3 ≤ room_1.cells; omega, by show ss + 18 ≤ room_1.slots; omega⟩ (Nat.le_of_ble_eq_true rfl) rfl rfl wq_AbX rfl rfl (Nat.le_of_ble_eq_true rfl) dL_law_1194 rfl ?_
                                  refine wq_namS eS230 ?_
                                  refine wq_istore (L' := [some (.ref b0), some (.ref (b + 0)), some (.ref (b + 284)), some (.ref (b + 316)), some (.int (wq_I y4)), some (.int (wq_I r223)), some (.int (wq_I r228))]) F dL_law_1197 (by decide) rfl rfl rfl ?_
                                  refine wq_aload_n F dL_law_1199 rfl rfl rfl ?_
                                  obtain ⟨r231, S232, h1r231, h⟩ := wq_bd_some h
                                  obtain ⟨S233, eS233, h⟩ := wq_lt_some h
                                  refine wq_callV (As := []) (k := 284) (n := 1) F lk_L_133 (wq_Ct_emb (o := 284) (ct_X9_thrown h1r231) (Nat.le_of_ble_eq_true rfl) wq_EL_m (wq_mdl_at _)) ⟨(Nat.le_of_ble_eq_true rfl), (Nat.le_of_ble_eq_true rfl)⟩ ⟨by show cc + 3 ≤ room_1.cells; omega, by show ss + 18 ≤ room_1.slots; omega⟩ (Nat.le_of_ble_eq_true rfl) rfl rfl wq_AbX rfl rfl (Nat.le_of_ble_eq_true rfl) dL_law_1200 rfl ?_
                                  refine wq_namS eS233 ?_
                                  refine wq_iload F dL_law_1203 rfl rfl ?_
                                  refine wq_icmp_eq (tgt := 1210) F dL_law_1205 (by decide) rfl (fun hc => ?_) (fun hc => ?_)
                                  · replace h := wq_ift hc h
                                    refine wq_iload F dL_law_1210 rfl rfl ?_
                                    refine wq_if_ne (tgt := 1227) F dL_law_1212 (by decide) rfl (fun hc => ?_) (fun hc => ?_)
                                    · replace h := wq_iff hc h
                                      refine wq_goto (tgt := 2456) F dL_law_1227 (by decide) ?_
                                      refine wq_iinc (L' := [some (.ref b0), some (.ref (b + 0)), some (.ref (b + 284)), some (.ref (b + 316)), some (.int (wq_I (y4 + 6))), some (.int (wq_I r223)), some (.int (wq_I r228))]) F dL_law_2456 rfl (by decide) rfl rfl rfl ?_
                                      refine wq_goto (tgt := 23) F dL_law_2459 (by decide) ?_
                                      exact wq_wid (k := cc + 10) (n := ss + 60) (by omega) (by omega) <| wq_lsub [some (.ref b0), some (.ref (b + 0)), some (.ref (b + 284)), some (.ref (b + 316)), some (.int (wq_I (y4 + 6))), none, none] (by simp [wq_sub]) (hrec (y4 + 6) S233 h)
                                    · replace h := wq_ift hc h
                                      refine wq_aload_n F dL_law_1215 rfl rfl rfl ?_
                                      refine wq_iconst (n := 0) F dL_law_1216 rfl ?_
                                      obtain ⟨t234, ht234, wt234, h⟩ := wq_ix_some h
                                      refine wq_lald F (Nat.le_of_ble_eq_true rfl) rfl ht234 wt234 dL_law_1217 rfl ?_
                                      refine wq_iload F dL_law_1218 rfl rfl ?_
                                      refine wq_i2l_ F dL_law_1220 rfl ?_
                                      refine wq_lcmp F dL_law_1221 rfl ?_
                                      refine wq_if_eq (tgt := 1227) F dL_law_1222 (by decide) rfl (fun hc => ?_) (fun hc => ?_)
                                      · replace h := wq_ift hc h
                                        refine wq_goto (tgt := 2456) F dL_law_1227 (by decide) ?_
                                        refine wq_iinc (L' := [some (.ref b0), some (.ref (b + 0)), some (.ref (b + 284)), some (.ref (b + 316)), some (.int (wq_I (y4 + 6))), some (.int (wq_I r223)), some (.int (wq_I r228))]) F dL_law_2456 rfl (by decide) rfl rfl rfl ?_
                                        refine wq_goto (tgt := 23) F dL_law_2459 (by decide) ?_
                                        exact wq_wid (k := cc + 10) (n := ss + 60) (by omega) (by omega) <| wq_lsub [some (.ref b0), some (.ref (b + 0)), some (.ref (b + 284)), some (.ref (b + 316)), some (.int (wq_I (y4 + 6))), none, none] (by simp [wq_sub]) (hrec (y4 + 6) S233 h)
                                      · replace h := wq_iff hc h
                                        refine wq_iconst (n := 0) F dL_law_1225 rfl ?_
                                        simp at h
                                  · replace h := wq_iff hc h
                                    refine wq_iconst (n := 0) F dL_law_1208 rfl ?_
                                    simp at h
                                · replace h := wq_iff hc14 h
                                  by_cases hc15 : wq_w (wq_and (X t1) 63) = 15
                                  · replace h := wq_ift hc15 h
                                    refine wq_tableIn (tgt := 1230) (off := 1190) F dL_law_40 (by omega) (by omega) (by rw [hc15]; rfl) (by decide) ?_
                                    refine wq_aload_n F dL_law_1230 rfl rfl rfl ?_
                                    refine wq_aload_n F dL_law_1231 rfl rfl rfl ?_
                                    refine wq_iload F dL_law_1232 rfl rfl ?_
                                    refine wq_iconst (n := 1) F dL_law_1234 rfl ?_
                                    refine wq_iadd F dL_law_1235 rfl ?_
                                    obtain ⟨t235, ht235, wt235, h⟩ := wq_ix_some h
                                    refine wq_sld F hX hbl hbA ht235 wt235 dL_law_1236 rfl ?_
                                    refine wq_aload_n F dL_law_1237 rfl rfl rfl ?_
                                    refine wq_iload F dL_law_1238 rfl rfl ?_
                                    refine wq_iconst (n := 2) F dL_law_1240 rfl ?_
                                    refine wq_iadd F dL_law_1241 rfl ?_
                                    obtain ⟨t236, ht236, wt236, h⟩ := wq_ix_some h
                                    refine wq_sld F hX hbl hbA ht236 wt236 dL_law_1242 rfl ?_
                                    refine wq_aload_n F dL_law_1243 rfl rfl rfl ?_
                                    refine wq_iload F dL_law_1244 rfl rfl ?_
                                    refine wq_iconst (n := 3) F dL_law_1246 rfl ?_
                                    refine wq_iadd F dL_law_1247 rfl ?_
                                    obtain ⟨t237, ht237, wt237, h⟩ := wq_ix_some h
                                    refine wq_sld F hX hbl hbA ht237 wt237 dL_law_1248 rfl ?_
                                    refine wq_aload_n F dL_law_1249 rfl rfl rfl ?_
                                    refine wq_iload F dL_law_1250 rfl rfl ?_
                                    refine wq_iconst (n := 4) F dL_law_1252 rfl ?_
                                    refine wq_iadd F dL_law_1253 rfl ?_
                                    obtain ⟨t238, ht238, wt238, h⟩ := wq_ix_some h
                                    refine wq_sld F hX hbl hbA ht238 wt238 dL_law_1254 rfl ?_
                                    refine wq_aload_n F dL_law_1255 rfl rfl rfl ?_
                                    refine wq_iload F dL_law_1256 rfl rfl ?_
                                    refine wq_iconst (n := 5) F dL_law_1258 rfl ?_
                                    refine wq_iadd F dL_law_1259 rfl ?_
                                    obtain ⟨t239, ht239, wt239, h⟩ := wq_ix_some h
                                    refine wq_sld F hX hbl hbA ht239 wt239 dL_law_1260 rfl ?_
                                    refine wq_aload_n F dL_law_1261 rfl rfl rfl ?_
                                    obtain ⟨r240, S241, h1r240, h⟩ := wq_bd_some h
                                    refine wq_callW (As := [.ref (b + 0), .int (wq_I (X t235)), .int (wq_I (X t236)), .int (wq_I (X t237)), .int (wq_I (X t238)), .int (wq_I (X t239)), .ref (b + 316)]) (mc := 5) (ms := 30) (n := 10) F K Kn lk_L_183 (ct_L_addCondition hlt h1r240) ⟨(Nat.le_of_ble_eq_true rfl), (Nat.le_of_ble_eq_true rfl)⟩ ⟨by show cc + 5 ≤ room_1.cells; omega, by show ss + 30 ≤ room_1.slots; omega⟩ rfl rfl (Nat.le_of_ble_eq_true rfl) dL_law_1262 rfl ?_
                                    refine wq_istore (L' := [some (.ref b0), some (.ref (b + 0)), some (.ref (b + 284)), some (.ref (b + 316)), some (.int (wq_I y4)), some (.int (wq_I r240)), none]) F dL_law_1265 (by decide) rfl rfl rfl ?_
                                    refine wq_aload_n F dL_law_1267 rfl rfl rfl ?_
                                    refine wq_aload_n F dL_law_1268 rfl rfl rfl ?_
                                    refine wq_iload F dL_law_1269 rfl rfl ?_
                                    refine wq_iconst (n := 1) F dL_law_1271 rfl ?_
                                    refine wq_iadd F dL_law_1272 rfl ?_
                                    obtain ⟨t243, ht243, wt243, h⟩ := wq_ix_some h
                                    refine wq_sld F hX hbl hbA ht243 wt243 dL_law_1273 rfl ?_
                                    refine wq_aload_n F dL_law_1274 rfl rfl rfl ?_
                                    refine wq_iload F dL_law_1275 rfl rfl ?_
                                    refine wq_iconst (n := 2) F dL_law_1277 rfl ?_
                                    refine wq_iadd F dL_law_1278 rfl ?_
                                    obtain ⟨t244, ht244, wt244, h⟩ := wq_ix_some h
                                    refine wq_sld F hX hbl hbA ht244 wt244 dL_law_1279 rfl ?_
                                    refine wq_aload_n F dL_law_1280 rfl rfl rfl ?_
                                    refine wq_iload F dL_law_1281 rfl rfl ?_
                                    refine wq_iconst (n := 3) F dL_law_1283 rfl ?_
                                    refine wq_iadd F dL_law_1284 rfl ?_
                                    obtain ⟨t245, ht245, wt245, h⟩ := wq_ix_some h
                                    refine wq_sld F hX hbl hbA ht245 wt245 dL_law_1285 rfl ?_
                                    refine wq_aload_n F dL_law_1286 rfl rfl rfl ?_
                                    refine wq_iload F dL_law_1287 rfl rfl ?_
                                    refine wq_iconst (n := 4) F dL_law_1289 rfl ?_
                                    refine wq_iadd F dL_law_1290 rfl ?_
                                    obtain ⟨t246, ht246, wt246, h⟩ := wq_ix_some h
                                    refine wq_sld F hX hbl hbA ht246 wt246 dL_law_1291 rfl ?_
                                    refine wq_aload_n F dL_law_1292 rfl rfl rfl ?_
                                    refine wq_iload F dL_law_1293 rfl rfl ?_
                                    refine wq_iconst (n := 5) F dL_law_1295 rfl ?_
                                    refine wq_iadd F dL_law_1296 rfl ?_
                                    obtain ⟨t247, ht247, wt247, h⟩ := wq_ix_some h
                                    refine wq_sld F hX hbl hbA ht247 wt247 dL_law_1297 rfl ?_
                                    obtain ⟨r248, S249, h1r248, h⟩ := wq_bd_some h
                                    obtain ⟨S250, eS250, h⟩ := wq_lt_some h
                                    refine wq_callV (As := [.int (wq_I (X t243)), .int (wq_I (X t244)), .int (wq_I (X t245)), .int (wq_I (X t246)), .int (wq_I (X t247))]) (k := 284) (n := 5) F lk_L_186 (wq_Ct_emb (o := 284) (ct_X9_addCondition h1r248) (Nat.le_of_ble_eq_true rfl) wq_EL_m (wq_mdl_at _)) ⟨(Nat.le_of_ble_eq_true rfl), (Nat.le_of_ble_eq_true rfl)⟩ ⟨by show cc + 5 ≤ room_1.cells; omega, by show ss + 30 ≤ room_1.slots; omega⟩ (Nat.le_of_ble_eq_true rfl) rfl rfl wq_AbX rfl rfl (Nat.le_of_ble_eq_true rfl) dL_law_1298 rfl ?_
                                    refine wq_namS eS250 ?_
                                    refine wq_istore (L' := [some (.ref b0), some (.ref (b + 0)), some (.ref (b + 284)), some (.ref (b + 316)), some (.int (wq_I y4)), some (.int (wq_I r240)), some (.int (wq_I r248))]) F dL_law_1301 (by decide) rfl rfl rfl ?_
                                    refine wq_aload_n F dL_law_1303 rfl rfl rfl ?_
                                    obtain ⟨r251, S252, h1r251, h⟩ := wq_bd_some h
                                    obtain ⟨S253, eS253, h⟩ := wq_lt_some h
                                    refine wq_callV (As := []) (k := 284) (n := 1) F lk_L_133 (wq_Ct_emb (o := 284) (ct_X9_thrown h1r251) (Nat.le_of_ble_eq_true rfl) wq_EL_m (wq_mdl_at _)) ⟨(Nat.le_of_ble_eq_true rfl), (Nat.le_of_ble_eq_true rfl)⟩ ⟨by show cc + 5 ≤ room_1.cells; omega, by show ss + 30 ≤ room_1.slots; omega⟩ (Nat.le_of_ble_eq_true rfl) rfl rfl wq_AbX rfl rfl (Nat.le_of_ble_eq_true rfl) dL_law_1304 rfl ?_
                                    refine wq_namS eS253 ?_
                                    refine wq_iload F dL_law_1307 rfl rfl ?_
                                    refine wq_icmp_eq (tgt := 1314) F dL_law_1309 (by decide) rfl (fun hc => ?_) (fun hc => ?_)
                                    · replace h := wq_ift hc h
                                      refine wq_iload F dL_law_1314 rfl rfl ?_
                                      refine wq_if_ne (tgt := 1331) F dL_law_1316 (by decide) rfl (fun hc => ?_) (fun hc => ?_)
                                      · replace h := wq_iff hc h
                                        refine wq_goto (tgt := 2456) F dL_law_1331 (by decide) ?_
                                        refine wq_iinc (L' := [some (.ref b0), some (.ref (b + 0)), some (.ref (b + 284)), some (.ref (b + 316)), some (.int (wq_I (y4 + 6))), some (.int (wq_I r240)), some (.int (wq_I r248))]) F dL_law_2456 rfl (by decide) rfl rfl rfl ?_
                                        refine wq_goto (tgt := 23) F dL_law_2459 (by decide) ?_
                                        exact wq_wid (k := cc + 10) (n := ss + 60) (by omega) (by omega) <| wq_lsub [some (.ref b0), some (.ref (b + 0)), some (.ref (b + 284)), some (.ref (b + 316)), some (.int (wq_I (y4 + 6))), none, none] (by simp [wq_sub]) (hrec (y4 + 6) S253 h)
                                      · replace h := wq_ift hc h
                                        refine wq_aload_n F dL_law_1319 rfl rfl rfl ?_
                                        refine wq_iconst (n := 0) F dL_law_1320 rfl ?_
                                        obtain ⟨t254, ht254, wt254, h⟩ := wq_ix_some h
                                        refine wq_lald F (Nat.le_of_ble_eq_true rfl) rfl ht254 wt254 dL_law_1321 rfl ?_
                                        refine wq_iload F dL_law_1322 rfl rfl ?_
                                        refine wq_i2l_ F dL_law_1324 rfl ?_
                                        refine wq_lcmp F dL_law_1325 rfl ?_
                                        refine wq_if_eq (tgt := 1331) F dL_law_1326 (by decide) rfl (fun hc => ?_) (fun hc => ?_)
                                        · replace h := wq_ift hc h
                                          refine wq_goto (tgt := 2456) F dL_law_1331 (by decide) ?_
                                          refine wq_iinc (L' := [some (.ref b0), some (.ref (b + 0)), some (.ref (b + 284)), some (.ref (b + 316)), some (.int (wq_I (y4 + 6))), some (.int (wq_I r240)), some (.int (wq_I r248))]) F dL_law_2456 rfl (by decide) rfl rfl rfl ?_
                                          refine wq_goto (tgt := 23) F dL_law_2459 (by decide) ?_
                                          exact wq_wid (k := cc + 10) (n := ss + 60) (by omega) (by omega) <| wq_lsub [some (.ref b0), some (.ref (b + 0)), some (.ref (b + 284)), some (.ref (b + 316)), some (.int (wq_I (y4 + 6))), none, none] (by simp [wq_sub]) (hrec (y4 + 6) S253 h)
                                        · replace h := wq_iff hc h
                                          refine wq_iconst (n := 0) F dL_law_1329 rfl ?_
                                          simp at h
                                    · replace h := wq_iff hc h
                                      refine wq_iconst (n := 0) F dL_law_1312 rfl ?_
                                      simp at h
                                  · replace h := wq_iff hc15 h
                                    by_cases hc16 : wq_w (wq_and (X t1) 63) = 16
                                    · replace h := wq_ift hc16 h
                                      refine wq_tableIn (tgt := 1334) (off := 1294) F dL_law_40 (by omega) (by omega) (by rw [hc16]; rfl) (by decide) ?_
                                      refine wq_aload_n F dL_law_1334 rfl rfl rfl ?_
                                      refine wq_aload_n F dL_law_1335 rfl rfl rfl ?_
                                      refine wq_iload F dL_law_1336 rfl rfl ?_
                                      refine wq_iconst (n := 1) F dL_law_1338 rfl ?_
                                      refine wq_iadd F dL_law_1339 rfl ?_
                                      obtain ⟨t255, ht255, wt255, h⟩ := wq_ix_some h
                                      refine wq_sld F hX hbl hbA ht255 wt255 dL_law_1340 rfl ?_
                                      refine wq_aload_n F dL_law_1341 rfl rfl rfl ?_
                                      refine wq_iload F dL_law_1342 rfl rfl ?_
                                      refine wq_iconst (n := 2) F dL_law_1344 rfl ?_
                                      refine wq_iadd F dL_law_1345 rfl ?_
                                      obtain ⟨t256, ht256, wt256, h⟩ := wq_ix_some h
                                      refine wq_sld F hX hbl hbA ht256 wt256 dL_law_1346 rfl ?_
                                      refine wq_aload_n F dL_law_1347 rfl rfl rfl ?_
                                      refine wq_iload F dL_law_1348 rfl rfl ?_
                                      refine wq_iconst (n := 3) F dL_law_1350 rfl ?_
                                      refine wq_iadd F dL_law_1351 rfl ?_
                                      obtain ⟨t257, ht257, wt257, h⟩ := wq_ix_some h
                                      refine wq_sld F hX hbl hbA ht257 wt257 dL_law_1352 rfl ?_
                                      refine wq_aload_n F dL_law_1353 rfl rfl rfl ?_
                                      refine wq_iload F dL_law_1354 rfl rfl ?_
                                      refine wq_iconst (n := 4) F dL_law_1356 rfl ?_
                                      refine wq_iadd F dL_law_1357 rfl ?_
                                      obtain ⟨t258, ht258, wt258, h⟩ := wq_ix_some h
                                      refine wq_sld F hX hbl hbA ht258 wt258 dL_law_1358 rfl ?_
                                      refine wq_aload_n F dL_law_1359 rfl rfl rfl ?_
                                      refine wq_iload F dL_law_1360 rfl rfl ?_
                                      refine wq_iconst (n := 5) F dL_law_1362 rfl ?_
                                      refine wq_iadd F dL_law_1363 rfl ?_
                                      obtain ⟨t259, ht259, wt259, h⟩ := wq_ix_some h
                                      refine wq_sld F hX hbl hbA ht259 wt259 dL_law_1364 rfl ?_
                                      refine wq_aload_n F dL_law_1365 rfl rfl rfl ?_
                                      obtain ⟨r260, S261, h1r260, h⟩ := wq_bd_some h
                                      refine wq_callW (As := [.ref (b + 0), .int (wq_I (X t255)), .int (wq_I (X t256)), .int (wq_I (X t257)), .int (wq_I (X t258)), .int (wq_I (X t259)), .ref (b + 316)]) (mc := 7) (ms := 42) (n := 10) F K Kn lk_L_187 (ct_L_addJoin hlt h1r260) ⟨(Nat.le_of_ble_eq_true rfl), (Nat.le_of_ble_eq_true rfl)⟩ ⟨by show cc + 7 ≤ room_1.cells; omega, by show ss + 42 ≤ room_1.slots; omega⟩ rfl rfl (Nat.le_of_ble_eq_true rfl) dL_law_1366 rfl ?_
                                      refine wq_istore (L' := [some (.ref b0), some (.ref (b + 0)), some (.ref (b + 284)), some (.ref (b + 316)), some (.int (wq_I y4)), some (.int (wq_I r260)), none]) F dL_law_1369 (by decide) rfl rfl rfl ?_
                                      refine wq_aload_n F dL_law_1371 rfl rfl rfl ?_
                                      refine wq_aload_n F dL_law_1372 rfl rfl rfl ?_
                                      refine wq_iload F dL_law_1373 rfl rfl ?_
                                      refine wq_iconst (n := 1) F dL_law_1375 rfl ?_
                                      refine wq_iadd F dL_law_1376 rfl ?_
                                      obtain ⟨t263, ht263, wt263, h⟩ := wq_ix_some h
                                      refine wq_sld F hX hbl hbA ht263 wt263 dL_law_1377 rfl ?_
                                      refine wq_aload_n F dL_law_1378 rfl rfl rfl ?_
                                      refine wq_iload F dL_law_1379 rfl rfl ?_
                                      refine wq_iconst (n := 2) F dL_law_1381 rfl ?_
                                      refine wq_iadd F dL_law_1382 rfl ?_
                                      obtain ⟨t264, ht264, wt264, h⟩ := wq_ix_some h
                                      refine wq_sld F hX hbl hbA ht264 wt264 dL_law_1383 rfl ?_
                                      refine wq_aload_n F dL_law_1384 rfl rfl rfl ?_
                                      refine wq_iload F dL_law_1385 rfl rfl ?_
                                      refine wq_iconst (n := 3) F dL_law_1387 rfl ?_
                                      refine wq_iadd F dL_law_1388 rfl ?_
                                      obtain ⟨t265, ht265, wt265, h⟩ := wq_ix_some h
                                      refine wq_sld F hX hbl hbA ht265 wt265 dL_law_1389 rfl ?_
                                      refine wq_aload_n F dL_law_1390 rfl rfl rfl ?_
                                      refine wq_iload F dL_law_1391 rfl rfl ?_
                                      refine wq_iconst (n := 4) F dL_law_1393 rfl ?_
                                      refine wq_iadd F dL_law_1394 rfl ?_
                                      obtain ⟨t266, ht266, wt266, h⟩ := wq_ix_some h
                                      refine wq_sld F hX hbl hbA ht266 wt266 dL_law_1395 rfl ?_
                                      refine wq_aload_n F dL_law_1396 rfl rfl rfl ?_
                                      refine wq_iload F dL_law_1397 rfl rfl ?_
                                      refine wq_iconst (n := 5) F dL_law_1399 rfl ?_
                                      refine wq_iadd F dL_law_1400 rfl ?_
                                      obtain ⟨t267, ht267, wt267, h⟩ := wq_ix_some h
                                      refine wq_sld F hX hbl hbA ht267 wt267 dL_law_1401 rfl ?_
                                      obtain ⟨r268, S269, h1r268, h⟩ := wq_bd_some h
                                      obtain ⟨S270, eS270, h⟩ := wq_lt_some h
                                      refine wq_callV (As := [.int (wq_I (X t263)), .int (wq_I (X t264)), .int (wq_I (X t265)), .int (wq_I (X t266)), .int (wq_I (X t267))]) (k := 284) (n := 5) F lk_L_189 (wq_Ct_emb (o := 284) (ct_X9_addJoin h1r268) (Nat.le_of_ble_eq_true rfl) wq_EL_m (wq_mdl_at _)) ⟨(Nat.le_of_ble_eq_true rfl), (Nat.le_of_ble_eq_true rfl)⟩ ⟨by show cc + 7 ≤ room_1.cells; omega, by show ss + 42 ≤ room_1.slots; omega⟩ (Nat.le_of_ble_eq_true rfl) rfl rfl wq_AbX rfl rfl (Nat.le_of_ble_eq_true rfl) dL_law_1402 rfl ?_
                                      refine wq_namS eS270 ?_
                                      refine wq_istore (L' := [some (.ref b0), some (.ref (b + 0)), some (.ref (b + 284)), some (.ref (b + 316)), some (.int (wq_I y4)), some (.int (wq_I r260)), some (.int (wq_I r268))]) F dL_law_1405 (by decide) rfl rfl rfl ?_
                                      refine wq_aload_n F dL_law_1407 rfl rfl rfl ?_
                                      obtain ⟨r271, S272, h1r271, h⟩ := wq_bd_some h
                                      obtain ⟨S273, eS273, h⟩ := wq_lt_some h
                                      refine wq_callV (As := []) (k := 284) (n := 1) F lk_L_133 (wq_Ct_emb (o := 284) (ct_X9_thrown h1r271) (Nat.le_of_ble_eq_true rfl) wq_EL_m (wq_mdl_at _)) ⟨(Nat.le_of_ble_eq_true rfl), (Nat.le_of_ble_eq_true rfl)⟩ ⟨by show cc + 7 ≤ room_1.cells; omega, by show ss + 42 ≤ room_1.slots; omega⟩ (Nat.le_of_ble_eq_true rfl) rfl rfl wq_AbX rfl rfl (Nat.le_of_ble_eq_true rfl) dL_law_1408 rfl ?_
                                      refine wq_namS eS273 ?_
                                      refine wq_iload F dL_law_1411 rfl rfl ?_
                                      refine wq_icmp_eq (tgt := 1418) F dL_law_1413 (by decide) rfl (fun hc => ?_) (fun hc => ?_)
                                      · replace h := wq_ift hc h
                                        refine wq_iload F dL_law_1418 rfl rfl ?_
                                        refine wq_if_ne (tgt := 1435) F dL_law_1420 (by decide) rfl (fun hc => ?_) (fun hc => ?_)
                                        · replace h := wq_iff hc h
                                          refine wq_goto (tgt := 2456) F dL_law_1435 (by decide) ?_
                                          refine wq_iinc (L' := [some (.ref b0), some (.ref (b + 0)), some (.ref (b + 284)), some (.ref (b + 316)), some (.int (wq_I (y4 + 6))), some (.int (wq_I r260)), some (.int (wq_I r268))]) F dL_law_2456 rfl (by decide) rfl rfl rfl ?_
                                          refine wq_goto (tgt := 23) F dL_law_2459 (by decide) ?_
                                          exact wq_wid (k := cc + 10) (n := ss + 60) (by omega) (by omega) <| wq_lsub [some (.ref b0), some (.ref (b + 0)), some (.ref (b + 284)), some (.ref (b + 316)), some (.int (wq_I (y4 + 6))), none, none] (by simp [wq_sub]) (hrec (y4 + 6) S273 h)
                                        · replace h := wq_ift hc h
                                          refine wq_aload_n F dL_law_1423 rfl rfl rfl ?_
                                          refine wq_iconst (n := 0) F dL_law_1424 rfl ?_
                                          obtain ⟨t274, ht274, wt274, h⟩ := wq_ix_some h
                                          refine wq_lald F (Nat.le_of_ble_eq_true rfl) rfl ht274 wt274 dL_law_1425 rfl ?_
                                          refine wq_iload F dL_law_1426 rfl rfl ?_
                                          refine wq_i2l_ F dL_law_1428 rfl ?_
                                          refine wq_lcmp F dL_law_1429 rfl ?_
                                          refine wq_if_eq (tgt := 1435) F dL_law_1430 (by decide) rfl (fun hc => ?_) (fun hc => ?_)
                                          · replace h := wq_ift hc h
                                            refine wq_goto (tgt := 2456) F dL_law_1435 (by decide) ?_
                                            refine wq_iinc (L' := [some (.ref b0), some (.ref (b + 0)), some (.ref (b + 284)), some (.ref (b + 316)), some (.int (wq_I (y4 + 6))), some (.int (wq_I r260)), some (.int (wq_I r268))]) F dL_law_2456 rfl (by decide) rfl rfl rfl ?_
                                            refine wq_goto (tgt := 23) F dL_law_2459 (by decide) ?_
                                            exact wq_wid (k := cc + 10) (n := ss + 60) (by omega) (by omega) <| wq_lsub [some (.ref b0), some (.ref (b + 0)), some (.ref (b + 284)), some (.ref (b + 316)), some (.int (wq_I (y4 + 6))), none, none] (by simp [wq_sub]) (hrec (y4 + 6) S273 h)
                                          · replace h := wq_iff hc h
                                            refine wq_iconst (n := 0) F dL_law_1433 rfl ?_
                                            simp at h
                                      · replace h := wq_iff hc h
                                        refine wq_iconst (n := 0) F dL_law_1416 rfl ?_
                                        simp at h
                                    · replace h := wq_iff hc16 h
                                      by_cases hc17 : wq_w (wq_and (X t1) 63) = 17
                                      · replace h := wq_ift hc17 h
                                        refine wq_tableIn (tgt := 1438) (off := 1398) F dL_law_40 (by omega) (by omega) (by rw [hc17]; rfl) (by decide) ?_
                                        refine wq_aload_n F dL_law_1438 rfl rfl rfl ?_
                                        refine wq_aload_n F dL_law_1439 rfl rfl rfl ?_
                                        refine wq_iload F dL_law_1440 rfl rfl ?_
                                        refine wq_iconst (n := 1) F dL_law_1442 rfl ?_
                                        refine wq_iadd F dL_law_1443 rfl ?_
                                        obtain ⟨t275, ht275, wt275, h⟩ := wq_ix_some h
                                        refine wq_sld F hX hbl hbA ht275 wt275 dL_law_1444 rfl ?_
                                        refine wq_aload_n F dL_law_1445 rfl rfl rfl ?_
                                        obtain ⟨r276, S277, h1r276, h⟩ := wq_bd_some h
                                        refine wq_callW (As := [.ref (b + 0), .int (wq_I (X t275)), .ref (b + 316)]) (mc := 2) (ms := 12) (n := 9) F K Kn lk_L_190 (ct_L_dropCondition hlt h1r276) ⟨(Nat.le_of_ble_eq_true rfl), (Nat.le_of_ble_eq_true rfl)⟩ ⟨by show cc + 2 ≤ room_1.cells; omega, by show ss + 12 ≤ room_1.slots; omega⟩ rfl rfl (Nat.le_of_ble_eq_true rfl) dL_law_1446 rfl ?_
                                        refine wq_istore (L' := [some (.ref b0), some (.ref (b + 0)), some (.ref (b + 284)), some (.ref (b + 316)), some (.int (wq_I y4)), some (.int (wq_I r276)), none]) F dL_law_1449 (by decide) rfl rfl rfl ?_
                                        refine wq_aload_n F dL_law_1451 rfl rfl rfl ?_
                                        refine wq_aload_n F dL_law_1452 rfl rfl rfl ?_
                                        refine wq_iload F dL_law_1453 rfl rfl ?_
                                        refine wq_iconst (n := 1) F dL_law_1455 rfl ?_
                                        refine wq_iadd F dL_law_1456 rfl ?_
                                        obtain ⟨t279, ht279, wt279, h⟩ := wq_ix_some h
                                        refine wq_sld F hX hbl hbA ht279 wt279 dL_law_1457 rfl ?_
                                        obtain ⟨r280, S281, h1r280, h⟩ := wq_bd_some h
                                        obtain ⟨S282, eS282, h⟩ := wq_lt_some h
                                        refine wq_callV (As := [.int (wq_I (X t279))]) (k := 284) (n := 3) F lk_L_192 (wq_Ct_emb (o := 284) (ct_X9_dropCondition h1r280) (Nat.le_of_ble_eq_true rfl) wq_EL_m (wq_mdl_at _)) ⟨(Nat.le_of_ble_eq_true rfl), (Nat.le_of_ble_eq_true rfl)⟩ ⟨by show cc + 2 ≤ room_1.cells; omega, by show ss + 12 ≤ room_1.slots; omega⟩ (Nat.le_of_ble_eq_true rfl) rfl rfl wq_AbX rfl rfl (Nat.le_of_ble_eq_true rfl) dL_law_1458 rfl ?_
                                        refine wq_namS eS282 ?_
                                        refine wq_istore (L' := [some (.ref b0), some (.ref (b + 0)), some (.ref (b + 284)), some (.ref (b + 316)), some (.int (wq_I y4)), some (.int (wq_I r276)), some (.int (wq_I r280))]) F dL_law_1461 (by decide) rfl rfl rfl ?_
                                        refine wq_aload_n F dL_law_1463 rfl rfl rfl ?_
                                        obtain ⟨r283, S284, h1r283, h⟩ := wq_bd_some h
                                        obtain ⟨S285, eS285, h⟩ := wq_lt_some h
                                        refine wq_callV (As := []) (k := 284) (n := 1) F lk_L_133 (wq_Ct_emb (o := 284) (ct_X9_thrown h1r283) (Nat.le_of_ble_eq_true rfl) wq_EL_m (wq_mdl_at _)) ⟨(Nat.le_of_ble_eq_true rfl), (Nat.le_of_ble_eq_true rfl)⟩ ⟨by show cc + 2 ≤ room_1.cells; omega, by show ss + 12 ≤ room_1.slots; omega⟩ (Nat.le_of_ble_eq_true rfl) rfl rfl wq_AbX rfl rfl (Nat.le_of_ble_eq_true rfl) dL_law_1464 rfl ?_
                                        refine wq_namS eS285 ?_
                                        refine wq_iload F dL_law_1467 rfl rfl ?_
                                        refine wq_icmp_eq (tgt := 1474) F dL_law_1469 (by decide) rfl (fun hc => ?_) (fun hc => ?_)
                                        · replace h := wq_ift hc h
                                          refine wq_iload F dL_law_1474 rfl rfl ?_
                                          refine wq_if_ne (tgt := 1491) F dL_law_1476 (by decide) rfl (fun hc => ?_) (fun hc => ?_)
                                          · replace h := wq_iff hc h
                                            refine wq_goto (tgt := 2456) F dL_law_1491 (by decide) ?_
                                            refine wq_iinc (L' := [some (.ref b0), some (.ref (b + 0)), some (.ref (b + 284)), some (.ref (b + 316)), some (.int (wq_I (y4 + 6))), some (.int (wq_I r276)), some (.int (wq_I r280))]) F dL_law_2456 rfl (by decide) rfl rfl rfl ?_
                                            refine wq_goto (tgt := 23) F dL_law_2459 (by decide) ?_
                                            exact wq_wid (k := cc + 10) (n := ss + 60) (by omega) (by omega) <| wq_lsub [some (.ref b0), some (.ref (b + 0)), some (.ref (b + 284)), some (.ref (b + 316)), some (.int (wq_I (y4 + 6))), none, none] (by simp [wq_sub]) (hrec (y4 + 6) S285 h)
                                          · replace h := wq_ift hc h
                                            refine wq_aload_n F dL_law_1479 rfl rfl rfl ?_
                                            refine wq_iconst (n := 0) F dL_law_1480 rfl ?_
                                            obtain ⟨t286, ht286, wt286, h⟩ := wq_ix_some h
                                            refine wq_lald F (Nat.le_of_ble_eq_true rfl) rfl ht286 wt286 dL_law_1481 rfl ?_
                                            refine wq_iload F dL_law_1482 rfl rfl ?_
                                            refine wq_i2l_ F dL_law_1484 rfl ?_
                                            refine wq_lcmp F dL_law_1485 rfl ?_
                                            refine wq_if_eq (tgt := 1491) F dL_law_1486 (by decide) rfl (fun hc => ?_) (fun hc => ?_)
                                            · replace h := wq_ift hc h
                                              refine wq_goto (tgt := 2456) F dL_law_1491 (by decide) ?_
                                              refine wq_iinc (L' := [some (.ref b0), some (.ref (b + 0)), some (.ref (b + 284)), some (.ref (b + 316)), some (.int (wq_I (y4 + 6))), some (.int (wq_I r276)), some (.int (wq_I r280))]) F dL_law_2456 rfl (by decide) rfl rfl rfl ?_
                                              refine wq_goto (tgt := 23) F dL_law_2459 (by decide) ?_
                                              exact wq_wid (k := cc + 10) (n := ss + 60) (by omega) (by omega) <| wq_lsub [some (.ref b0), some (.ref (b + 0)), some (.ref (b + 284)), some (.ref (b + 316)), some (.int (wq_I (y4 + 6))), none, none] (by simp [wq_sub]) (hrec (y4 + 6) S285 h)
                                            · replace h := wq_iff hc h
                                              refine wq_iconst (n := 0) F dL_law_1489 rfl ?_
                                              simp at h
                                        · replace h := wq_iff hc h
                                          refine wq_iconst (n := 0) F dL_law_1472 rfl ?_
                                          simp at h
                                      · replace h := wq_iff hc17 h
                                        by_cases hc18 : wq_w (wq_and (X t1) 63) = 18
                                        · replace h := wq_ift hc18 h
                                          refine wq_tableIn (tgt := 1494) (off := 1454) F dL_law_40 (by omega) (by omega) (by rw [hc18]; rfl) (by decide) ?_
                                          refine wq_aload_n F dL_law_1494 rfl rfl rfl ?_
                                          refine wq_aload_n F dL_law_1495 rfl rfl rfl ?_
                                          refine wq_iload F dL_law_1496 rfl rfl ?_
                                          refine wq_iconst (n := 1) F dL_law_1498 rfl ?_
                                          refine wq_iadd F dL_law_1499 rfl ?_
                                          obtain ⟨t287, ht287, wt287, h⟩ := wq_ix_some h
                                          refine wq_sld F hX hbl hbA ht287 wt287 dL_law_1500 rfl ?_
                                          refine wq_aload_n F dL_law_1501 rfl rfl rfl ?_
                                          refine wq_iload F dL_law_1502 rfl rfl ?_
                                          refine wq_iconst (n := 2) F dL_law_1504 rfl ?_
                                          refine wq_iadd F dL_law_1505 rfl ?_
                                          obtain ⟨t288, ht288, wt288, h⟩ := wq_ix_some h
                                          refine wq_sld F hX hbl hbA ht288 wt288 dL_law_1506 rfl ?_
                                          refine wq_aload_n F dL_law_1507 rfl rfl rfl ?_
                                          refine wq_iload F dL_law_1508 rfl rfl ?_
                                          refine wq_iconst (n := 3) F dL_law_1510 rfl ?_
                                          refine wq_iadd F dL_law_1511 rfl ?_
                                          obtain ⟨t289, ht289, wt289, h⟩ := wq_ix_some h
                                          refine wq_sld F hX hbl hbA ht289 wt289 dL_law_1512 rfl ?_
                                          obtain ⟨r290, S291, h1r290, h⟩ := wq_bd_some h
                                          refine wq_callW (As := [.ref (b + 0), .int (wq_I (X t287)), .int (wq_I (X t288)), .int (wq_I (X t289))]) (mc := 3) (ms := 18) (n := 10) F K Kn lk_L_193 (ct_L_setSum hlt h1r290) ⟨(Nat.le_of_ble_eq_true rfl), (Nat.le_of_ble_eq_true rfl)⟩ ⟨by show cc + 3 ≤ room_1.cells; omega, by show ss + 18 ≤ room_1.slots; omega⟩ rfl rfl (Nat.le_of_ble_eq_true rfl) dL_law_1513 rfl ?_
                                          refine wq_istore (L' := [some (.ref b0), some (.ref (b + 0)), some (.ref (b + 284)), some (.ref (b + 316)), some (.int (wq_I y4)), some (.int (wq_I r290)), none]) F dL_law_1516 (by decide) rfl rfl rfl ?_
                                          refine wq_aload_n F dL_law_1518 rfl rfl rfl ?_
                                          refine wq_aload_n F dL_law_1519 rfl rfl rfl ?_
                                          refine wq_iload F dL_law_1520 rfl rfl ?_
                                          refine wq_iconst (n := 1) F dL_law_1522 rfl ?_
                                          refine wq_iadd F dL_law_1523 rfl ?_
                                          obtain ⟨t293, ht293, wt293, h⟩ := wq_ix_some h
                                          refine wq_sld F hX hbl hbA ht293 wt293 dL_law_1524 rfl ?_
                                          refine wq_aload_n F dL_law_1525 rfl rfl rfl ?_
                                          refine wq_iload F dL_law_1526 rfl rfl ?_
                                          refine wq_iconst (n := 2) F dL_law_1528 rfl ?_
                                          refine wq_iadd F dL_law_1529 rfl ?_
                                          obtain ⟨t294, ht294, wt294, h⟩ := wq_ix_some h
                                          refine wq_sld F hX hbl hbA ht294 wt294 dL_law_1530 rfl ?_
                                          refine wq_aload_n F dL_law_1531 rfl rfl rfl ?_
                                          refine wq_iload F dL_law_1532 rfl rfl ?_
                                          refine wq_iconst (n := 3) F dL_law_1534 rfl ?_
                                          refine wq_iadd F dL_law_1535 rfl ?_
                                          obtain ⟨t295, ht295, wt295, h⟩ := wq_ix_some h
                                          refine wq_sld F hX hbl hbA ht295 wt295 dL_law_1536 rfl ?_
                                          obtain ⟨r296, S297, h1r296, h⟩ := wq_bd_some h
                                          obtain ⟨S298, eS298, h⟩ := wq_lt_some h
                                          refine wq_callV (As := [.int (wq_I (X t293)), .int (wq_I (X t294)), .int (wq_I (X t295))]) (k := 284) (n := 5) F lk_L_196 (wq_Ct_emb (o := 284) (ct_X9_setSum h1r296) (Nat.le_of_ble_eq_true rfl) wq_EL_m (wq_mdl_at _)) ⟨(Nat.le_of_ble_eq_true rfl), (Nat.le_of_ble_eq_true rfl)⟩ ⟨by show cc + 3 ≤ room_1.cells; omega, by show ss + 18 ≤ room_1.slots; omega⟩ (Nat.le_of_ble_eq_true rfl) rfl rfl wq_AbX rfl rfl (Nat.le_of_ble_eq_true rfl) dL_law_1537 rfl ?_
                                          refine wq_namS eS298 ?_
                                          refine wq_aload_n F dL_law_1540 rfl rfl rfl ?_
                                          obtain ⟨r299, S300, h1r299, h⟩ := wq_bd_some h
                                          obtain ⟨S301, eS301, h⟩ := wq_lt_some h
                                          refine wq_callV (As := []) (k := 284) (n := 1) F lk_L_133 (wq_Ct_emb (o := 284) (ct_X9_thrown h1r299) (Nat.le_of_ble_eq_true rfl) wq_EL_m (wq_mdl_at _)) ⟨(Nat.le_of_ble_eq_true rfl), (Nat.le_of_ble_eq_true rfl)⟩ ⟨by show cc + 3 ≤ room_1.cells; omega, by show ss + 18 ≤ room_1.slots; omega⟩ (Nat.le_of_ble_eq_true rfl) rfl rfl wq_AbX rfl rfl (Nat.le_of_ble_eq_true rfl) dL_law_1541 rfl ?_
                                          refine wq_namS eS301 ?_
                                          refine wq_iload F dL_law_1544 rfl rfl ?_
                                          refine wq_icmp_eq (tgt := 1551) F dL_law_1546 (by decide) rfl (fun hc => ?_) (fun hc => ?_)
                                          · replace h := wq_ift hc h
                                            refine wq_goto (tgt := 2456) F dL_law_1551 (by decide) ?_
                                            refine wq_iinc (L' := [some (.ref b0), some (.ref (b + 0)), some (.ref (b + 284)), some (.ref (b + 316)), some (.int (wq_I (y4 + 6))), some (.int (wq_I r290)), none]) F dL_law_2456 rfl (by decide) rfl rfl rfl ?_
                                            refine wq_goto (tgt := 23) F dL_law_2459 (by decide) ?_
                                            exact wq_wid (k := cc + 10) (n := ss + 60) (by omega) (by omega) <| wq_lsub [some (.ref b0), some (.ref (b + 0)), some (.ref (b + 284)), some (.ref (b + 316)), some (.int (wq_I (y4 + 6))), none, none] (by simp [wq_sub]) (hrec (y4 + 6) S301 h)
                                          · replace h := wq_iff hc h
                                            refine wq_iconst (n := 0) F dL_law_1549 rfl ?_
                                            simp at h
                                        · replace h := wq_iff hc18 h
                                          by_cases hc19 : wq_w (wq_and (X t1) 63) = 19
                                          · replace h := wq_ift hc19 h
                                            refine wq_tableIn (tgt := 1554) (off := 1514) F dL_law_40 (by omega) (by omega) (by rw [hc19]; rfl) (by decide) ?_
                                            refine wq_aload_n F dL_law_1554 rfl rfl rfl ?_
                                            refine wq_aload_n F dL_law_1555 rfl rfl rfl ?_
                                            refine wq_iload F dL_law_1556 rfl rfl ?_
                                            refine wq_iconst (n := 1) F dL_law_1558 rfl ?_
                                            refine wq_iadd F dL_law_1559 rfl ?_
                                            obtain ⟨t302, ht302, wt302, h⟩ := wq_ix_some h
                                            refine wq_sld F hX hbl hbA ht302 wt302 dL_law_1560 rfl ?_
                                            refine wq_aload_n F dL_law_1561 rfl rfl rfl ?_
                                            refine wq_iload F dL_law_1562 rfl rfl ?_
                                            refine wq_iconst (n := 2) F dL_law_1564 rfl ?_
                                            refine wq_iadd F dL_law_1565 rfl ?_
                                            obtain ⟨t303, ht303, wt303, h⟩ := wq_ix_some h
                                            refine wq_sld F hX hbl hbA ht303 wt303 dL_law_1566 rfl ?_
                                            refine wq_if_eq (tgt := 1574) F dL_law_1567 (by decide) rfl (fun hc => ?_) (fun hc => ?_)
                                            · replace h := wq_ift hc h
                                              refine wq_iconst (n := 0) F dL_law_1574 rfl ?_
                                              refine wq_aload_n F dL_law_1575 rfl rfl rfl ?_
                                              obtain ⟨r304, S305, h1r304, h⟩ := wq_bd_some h
                                              refine wq_callW (As := [.ref (b + 0), .int (wq_I (X t302)), .int (wq_I 0), .ref (b + 316)]) (mc := 1) (ms := 6) (n := 9) F K Kn lk_L_197 (ct_L_setDue hlt h1r304) ⟨(Nat.le_of_ble_eq_true rfl), (Nat.le_of_ble_eq_true rfl)⟩ ⟨by show cc + 1 ≤ room_1.cells; omega, by show ss + 6 ≤ room_1.slots; omega⟩ rfl rfl (Nat.le_of_ble_eq_true rfl) dL_law_1576 rfl ?_
                                              refine wq_istore (L' := [some (.ref b0), some (.ref (b + 0)), some (.ref (b + 284)), some (.ref (b + 316)), some (.int (wq_I y4)), some (.int (wq_I r304)), none]) F dL_law_1579 (by decide) rfl rfl rfl ?_
                                              refine wq_aload_n F dL_law_1581 rfl rfl rfl ?_
                                              refine wq_aload_n F dL_law_1582 rfl rfl rfl ?_
                                              refine wq_iload F dL_law_1583 rfl rfl ?_
                                              refine wq_iconst (n := 1) F dL_law_1585 rfl ?_
                                              refine wq_iadd F dL_law_1586 rfl ?_
                                              obtain ⟨t307, ht307, wt307, h⟩ := wq_ix_some h
                                              refine wq_sld F hX hbl hbA ht307 wt307 dL_law_1587 rfl ?_
                                              refine wq_aload_n F dL_law_1588 rfl rfl rfl ?_
                                              refine wq_iload F dL_law_1589 rfl rfl ?_
                                              refine wq_iconst (n := 2) F dL_law_1591 rfl ?_
                                              refine wq_iadd F dL_law_1592 rfl ?_
                                              obtain ⟨t308, ht308, wt308, h⟩ := wq_ix_some h
                                              refine wq_sld F hX hbl hbA ht308 wt308 dL_law_1593 rfl ?_
                                              refine wq_if_eq (tgt := 1601) F dL_law_1594 (by decide) rfl (fun hc => ?_) (fun hc => ?_)
                                              · replace h := wq_ift hc h
                                                refine wq_iconst (n := 0) F dL_law_1601 rfl ?_
                                                obtain ⟨r309, S310, h1r309, h⟩ := wq_bd_some h
                                                obtain ⟨S311, eS311, h⟩ := wq_lt_some h
                                                refine wq_callV (As := [.int (wq_I (X t307)), .int (wq_I 0)]) (k := 284) (n := 3) F lk_L_200 (wq_Ct_emb (o := 284) (ct_X9_setDue h1r309) (Nat.le_of_ble_eq_true rfl) wq_EL_m (wq_mdl_at _)) ⟨(Nat.le_of_ble_eq_true rfl), (Nat.le_of_ble_eq_true rfl)⟩ ⟨by show cc + 1 ≤ room_1.cells; omega, by show ss + 6 ≤ room_1.slots; omega⟩ (Nat.le_of_ble_eq_true rfl) rfl rfl wq_AbX rfl rfl (Nat.le_of_ble_eq_true rfl) dL_law_1602 rfl ?_
                                                refine wq_namS eS311 ?_
                                                refine wq_istore (L' := [some (.ref b0), some (.ref (b + 0)), some (.ref (b + 284)), some (.ref (b + 316)), some (.int (wq_I y4)), some (.int (wq_I r304)), some (.int (wq_I r309))]) F dL_law_1605 (by decide) rfl rfl rfl ?_
                                                refine wq_aload_n F dL_law_1607 rfl rfl rfl ?_
                                                obtain ⟨r312, S313, h1r312, h⟩ := wq_bd_some h
                                                obtain ⟨S314, eS314, h⟩ := wq_lt_some h
                                                refine wq_callV (As := []) (k := 284) (n := 1) F lk_L_133 (wq_Ct_emb (o := 284) (ct_X9_thrown h1r312) (Nat.le_of_ble_eq_true rfl) wq_EL_m (wq_mdl_at _)) ⟨(Nat.le_of_ble_eq_true rfl), (Nat.le_of_ble_eq_true rfl)⟩ ⟨by show cc + 1 ≤ room_1.cells; omega, by show ss + 6 ≤ room_1.slots; omega⟩ (Nat.le_of_ble_eq_true rfl) rfl rfl wq_AbX rfl rfl (Nat.le_of_ble_eq_true rfl) dL_law_1608 rfl ?_
                                                refine wq_namS eS314 ?_
                                                refine wq_iload F dL_law_1611 rfl rfl ?_
                                                refine wq_icmp_eq (tgt := 1618) F dL_law_1613 (by decide) rfl (fun hc => ?_) (fun hc => ?_)
                                                · replace h := wq_ift hc h
                                                  refine wq_iload F dL_law_1618 rfl rfl ?_
                                                  refine wq_if_ne (tgt := 1642) F dL_law_1620 (by decide) rfl (fun hc => ?_) (fun hc => ?_)
                                                  · replace h := wq_iff hc h
                                                    refine wq_goto (tgt := 2456) F dL_law_1642 (by decide) ?_
                                                    refine wq_iinc (L' := [some (.ref b0), some (.ref (b + 0)), some (.ref (b + 284)), some (.ref (b + 316)), some (.int (wq_I (y4 + 6))), some (.int (wq_I r304)), some (.int (wq_I r309))]) F dL_law_2456 rfl (by decide) rfl rfl rfl ?_
                                                    refine wq_goto (tgt := 23) F dL_law_2459 (by decide) ?_
                                                    exact wq_wid (k := cc + 10) (n := ss + 60) (by omega) (by omega) <| wq_lsub [some (.ref b0), some (.ref (b + 0)), some (.ref (b + 284)), some (.ref (b + 316)), some (.int (wq_I (y4 + 6))), none, none] (by simp [wq_sub]) (hrec (y4 + 6) S314 h)
                                                  · replace h := wq_ift hc h
                                                    refine wq_aload_n F dL_law_1623 rfl rfl rfl ?_
                                                    refine wq_iconst (n := 0) F dL_law_1624 rfl ?_
                                                    obtain ⟨t315, ht315, wt315, h⟩ := wq_ix_some h
                                                    refine wq_lald F (Nat.le_of_ble_eq_true rfl) rfl ht315 wt315 dL_law_1625 rfl ?_
                                                    refine wq_iload F dL_law_1626 rfl rfl ?_
                                                    refine wq_if_eq (tgt := 1635) F dL_law_1628 (by decide) rfl (fun hc => ?_) (fun hc => ?_)
                                                    · replace h := wq_ift hc h
                                                      refine wq_lconst (v := 0) F dL_law_1635 rfl rfl ?_
                                                      refine wq_lcmp F dL_law_1636 rfl ?_
                                                      refine wq_if_eq (tgt := 1642) F dL_law_1637 (by decide) rfl (fun hc => ?_) (fun hc => ?_)
                                                      · replace h := wq_ift hc h
                                                        refine wq_goto (tgt := 2456) F dL_law_1642 (by decide) ?_
                                                        refine wq_iinc (L' := [some (.ref b0), some (.ref (b + 0)), some (.ref (b + 284)), some (.ref (b + 316)), some (.int (wq_I (y4 + 6))), some (.int (wq_I r304)), some (.int (wq_I r309))]) F dL_law_2456 rfl (by decide) rfl rfl rfl ?_
                                                        refine wq_goto (tgt := 23) F dL_law_2459 (by decide) ?_
                                                        exact wq_wid (k := cc + 10) (n := ss + 60) (by omega) (by omega) <| wq_lsub [some (.ref b0), some (.ref (b + 0)), some (.ref (b + 284)), some (.ref (b + 316)), some (.int (wq_I (y4 + 6))), none, none] (by simp [wq_sub]) (hrec (y4 + 6) S314 h)
                                                      · replace h := wq_iff hc h
                                                        refine wq_iconst (n := 0) F dL_law_1640 rfl ?_
                                                        simp at h
                                                    · replace h := wq_iff hc h
                                                      refine wq_lconst (v := 1) F dL_law_1631 rfl rfl ?_
                                                      refine wq_goto (tgt := 1636) F dL_law_1632 (by decide) ?_
                                                      refine wq_lcmp F dL_law_1636 rfl ?_
                                                      refine wq_if_eq (tgt := 1642) F dL_law_1637 (by decide) rfl (fun hc => ?_) (fun hc => ?_)
                                                      · replace h := wq_ift hc h
                                                        refine wq_goto (tgt := 2456) F dL_law_1642 (by decide) ?_
                                                        refine wq_iinc (L' := [some (.ref b0), some (.ref (b + 0)), some (.ref (b + 284)), some (.ref (b + 316)), some (.int (wq_I (y4 + 6))), some (.int (wq_I r304)), some (.int (wq_I r309))]) F dL_law_2456 rfl (by decide) rfl rfl rfl ?_
                                                        refine wq_goto (tgt := 23) F dL_law_2459 (by decide) ?_
                                                        exact wq_wid (k := cc + 10) (n := ss + 60) (by omega) (by omega) <| wq_lsub [some (.ref b0), some (.ref (b + 0)), some (.ref (b + 284)), some (.ref (b + 316)), some (.int (wq_I (y4 + 6))), none, none] (by simp [wq_sub]) (hrec (y4 + 6) S314 h)
                                                      · replace h := wq_iff hc h
                                                        refine wq_iconst (n := 0) F dL_law_1640 rfl ?_
                                                        simp at h
                                                · replace h := wq_iff hc h
                                                  refine wq_iconst (n := 0) F dL_law_1616 rfl ?_
                                                  simp at h
                                              · replace h := wq_iff hc h
                                                refine wq_iconst (n := 1) F dL_law_1597 rfl ?_
                                                refine wq_goto (tgt := 1602) F dL_law_1598 (by decide) ?_
                                                obtain ⟨r316, S317, h1r316, h⟩ := wq_bd_some h
                                                obtain ⟨S318, eS318, h⟩ := wq_lt_some h
                                                refine wq_callV (As := [.int (wq_I (X t307)), .int (wq_I 1)]) (k := 284) (n := 3) F lk_L_200 (wq_Ct_emb (o := 284) (ct_X9_setDue h1r316) (Nat.le_of_ble_eq_true rfl) wq_EL_m (wq_mdl_at _)) ⟨(Nat.le_of_ble_eq_true rfl), (Nat.le_of_ble_eq_true rfl)⟩ ⟨by show cc + 1 ≤ room_1.cells; omega, by show ss + 6 ≤ room_1.slots; omega⟩ (Nat.le_of_ble_eq_true rfl) rfl rfl wq_AbX rfl rfl (Nat.le_of_ble_eq_true rfl) dL_law_1602 rfl ?_
                                                refine wq_namS eS318 ?_
                                                refine wq_istore (L' := [some (.ref b0), some (.ref (b + 0)), some (.ref (b + 284)), some (.ref (b + 316)), some (.int (wq_I y4)), some (.int (wq_I r304)), some (.int (wq_I r316))]) F dL_law_1605 (by decide) rfl rfl rfl ?_
                                                refine wq_aload_n F dL_law_1607 rfl rfl rfl ?_
                                                obtain ⟨r319, S320, h1r319, h⟩ := wq_bd_some h
                                                obtain ⟨S321, eS321, h⟩ := wq_lt_some h
                                                refine wq_callV (As := []) (k := 284) (n := 1) F lk_L_133 (wq_Ct_emb (o := 284) (ct_X9_thrown h1r319) (Nat.le_of_ble_eq_true rfl) wq_EL_m (wq_mdl_at _)) ⟨(Nat.le_of_ble_eq_true rfl), (Nat.le_of_ble_eq_true rfl)⟩ ⟨by show cc + 1 ≤ room_1.cells; omega, by show ss + 6 ≤ room_1.slots; omega⟩ (Nat.le_of_ble_eq_true rfl) rfl rfl wq_AbX rfl rfl (Nat.le_of_ble_eq_true rfl) dL_law_1608 rfl ?_
                                                refine wq_namS eS321 ?_
                                                refine wq_iload F dL_law_1611 rfl rfl ?_
                                                refine wq_icmp_eq (tgt := 1618) F dL_law_1613 (by decide) rfl (fun hc => ?_) (fun hc => ?_)
                                                · replace h := wq_ift hc h
                                                  refine wq_iload F dL_law_1618 rfl rfl ?_
                                                  refine wq_if_ne (tgt := 1642) F dL_law_1620 (by decide) rfl (fun hc => ?_) (fun hc => ?_)
                                                  · replace h := wq_iff hc h
                                                    refine wq_goto (tgt := 2456) F dL_law_1642 (by decide) ?_
                                                    refine wq_iinc (L' := [some (.ref b0), some (.ref (b + 0)), some (.ref (b + 284)), some (.ref (b + 316)), some (.int (wq_I (y4 + 6))), some (.int (wq_I r304)), some (.int (wq_I r316))]) F dL_law_2456 rfl (by decide) rfl rfl rfl ?_
                                                    refine wq_goto (tgt := 23) F dL_law_2459 (by decide) ?_
                                                    exact wq_wid (k := cc + 10) (n := ss + 60) (by omega) (by omega) <| wq_lsub [some (.ref b0), some (.ref (b + 0)), some (.ref (b + 284)), some (.ref (b + 316)), some (.int (wq_I (y4 + 6))), none, none] (by simp [wq_sub]) (hrec (y4 + 6) S321 h)
                                                  · replace h := wq_ift hc h
                                                    refine wq_aload_n F dL_law_1623 rfl rfl rfl ?_
                                                    refine wq_iconst (n := 0) F dL_law_1624 rfl ?_
                                                    obtain ⟨t322, ht322, wt322, h⟩ := wq_ix_some h
                                                    refine wq_lald F (Nat.le_of_ble_eq_true rfl) rfl ht322 wt322 dL_law_1625 rfl ?_
                                                    refine wq_iload F dL_law_1626 rfl rfl ?_
                                                    refine wq_if_eq (tgt := 1635) F dL_law_1628 (by decide) rfl (fun hc => ?_) (fun hc => ?_)
                                                    · replace h := wq_ift hc h
                                                      refine wq_lconst (v := 0) F dL_law_1635 rfl rfl ?_
                                                      refine wq_lcmp F dL_law_1636 rfl ?_
                                                      refine wq_if_eq (tgt := 1642) F dL_law_1637 (by decide) rfl (fun hc => ?_) (fun hc => ?_)
                                                      · replace h := wq_ift hc h
                                                        refine wq_goto (tgt := 2456) F dL_law_1642 (by decide) ?_
                                                        refine wq_iinc (L' := [some (.ref b0), some (.ref (b + 0)), some (.ref (b + 284)), some (.ref (b + 316)), some (.int (wq_I (y4 + 6))), some (.int (wq_I r304)), some (.int (wq_I r316))]) F dL_law_2456 rfl (by decide) rfl rfl rfl ?_
                                                        refine wq_goto (tgt := 23) F dL_law_2459 (by decide) ?_
                                                        exact wq_wid (k := cc + 10) (n := ss + 60) (by omega) (by omega) <| wq_lsub [some (.ref b0), some (.ref (b + 0)), some (.ref (b + 284)), some (.ref (b + 316)), some (.int (wq_I (y4 + 6))), none, none] (by simp [wq_sub]) (hrec (y4 + 6) S321 h)
                                                      · replace h := wq_iff hc h
                                                        refine wq_iconst (n := 0) F dL_law_1640 rfl ?_
                                                        simp at h
                                                    · replace h := wq_iff hc h
                                                      refine wq_lconst (v := 1) F dL_law_1631 rfl rfl ?_
                                                      refine wq_goto (tgt := 1636) F dL_law_1632 (by decide) ?_
                                                      refine wq_lcmp F dL_law_1636 rfl ?_
                                                      refine wq_if_eq (tgt := 1642) F dL_law_1637 (by decide) rfl (fun hc => ?_) (fun hc => ?_)
                                                      · replace h := wq_ift hc h
                                                        refine wq_goto (tgt := 2456) F dL_law_1642 (by decide) ?_
                                                        refine wq_iinc (L' := [some (.ref b0), some (.ref (b + 0)), some (.ref (b + 284)), some (.ref (b + 316)), some (.int (wq_I (y4 + 6))), some (.int (wq_I r304)), some (.int (wq_I r316))]) F dL_law_2456 rfl (by decide) rfl rfl rfl ?_
                                                        refine wq_goto (tgt := 23) F dL_law_2459 (by decide) ?_
                                                        exact wq_wid (k := cc + 10) (n := ss + 60) (by omega) (by omega) <| wq_lsub [some (.ref b0), some (.ref (b + 0)), some (.ref (b + 284)), some (.ref (b + 316)), some (.int (wq_I (y4 + 6))), none, none] (by simp [wq_sub]) (hrec (y4 + 6) S321 h)
                                                      · replace h := wq_iff hc h
                                                        refine wq_iconst (n := 0) F dL_law_1640 rfl ?_
                                                        simp at h
                                                · replace h := wq_iff hc h
                                                  refine wq_iconst (n := 0) F dL_law_1616 rfl ?_
                                                  simp at h
                                            · replace h := wq_iff hc h
                                              refine wq_iconst (n := 1) F dL_law_1570 rfl ?_
                                              refine wq_goto (tgt := 1575) F dL_law_1571 (by decide) ?_
                                              refine wq_aload_n F dL_law_1575 rfl rfl rfl ?_
                                              obtain ⟨r323, S324, h1r323, h⟩ := wq_bd_some h
                                              refine wq_callW (As := [.ref (b + 0), .int (wq_I (X t302)), .int (wq_I 1), .ref (b + 316)]) (mc := 1) (ms := 6) (n := 9) F K Kn lk_L_197 (ct_L_setDue hlt h1r323) ⟨(Nat.le_of_ble_eq_true rfl), (Nat.le_of_ble_eq_true rfl)⟩ ⟨by show cc + 1 ≤ room_1.cells; omega, by show ss + 6 ≤ room_1.slots; omega⟩ rfl rfl (Nat.le_of_ble_eq_true rfl) dL_law_1576 rfl ?_
                                              refine wq_istore (L' := [some (.ref b0), some (.ref (b + 0)), some (.ref (b + 284)), some (.ref (b + 316)), some (.int (wq_I y4)), some (.int (wq_I r323)), none]) F dL_law_1579 (by decide) rfl rfl rfl ?_
                                              refine wq_aload_n F dL_law_1581 rfl rfl rfl ?_
                                              refine wq_aload_n F dL_law_1582 rfl rfl rfl ?_
                                              refine wq_iload F dL_law_1583 rfl rfl ?_
                                              refine wq_iconst (n := 1) F dL_law_1585 rfl ?_
                                              refine wq_iadd F dL_law_1586 rfl ?_
                                              obtain ⟨t326, ht326, wt326, h⟩ := wq_ix_some h
                                              refine wq_sld F hX hbl hbA ht326 wt326 dL_law_1587 rfl ?_
                                              refine wq_aload_n F dL_law_1588 rfl rfl rfl ?_
                                              refine wq_iload F dL_law_1589 rfl rfl ?_
                                              refine wq_iconst (n := 2) F dL_law_1591 rfl ?_
                                              refine wq_iadd F dL_law_1592 rfl ?_
                                              obtain ⟨t327, ht327, wt327, h⟩ := wq_ix_some h
                                              refine wq_sld F hX hbl hbA ht327 wt327 dL_law_1593 rfl ?_
                                              refine wq_if_eq (tgt := 1601) F dL_law_1594 (by decide) rfl (fun hc => ?_) (fun hc => ?_)
                                              · replace h := wq_ift hc h
                                                refine wq_iconst (n := 0) F dL_law_1601 rfl ?_
                                                obtain ⟨r328, S329, h1r328, h⟩ := wq_bd_some h
                                                obtain ⟨S330, eS330, h⟩ := wq_lt_some h
                                                refine wq_callV (As := [.int (wq_I (X t326)), .int (wq_I 0)]) (k := 284) (n := 3) F lk_L_200 (wq_Ct_emb (o := 284) (ct_X9_setDue h1r328) (Nat.le_of_ble_eq_true rfl) wq_EL_m (wq_mdl_at _)) ⟨(Nat.le_of_ble_eq_true rfl), (Nat.le_of_ble_eq_true rfl)⟩ ⟨by show cc + 1 ≤ room_1.cells; omega, by show ss + 6 ≤ room_1.slots; omega⟩ (Nat.le_of_ble_eq_true rfl) rfl rfl wq_AbX rfl rfl (Nat.le_of_ble_eq_true rfl) dL_law_1602 rfl ?_
                                                refine wq_namS eS330 ?_
                                                refine wq_istore (L' := [some (.ref b0), some (.ref (b + 0)), some (.ref (b + 284)), some (.ref (b + 316)), some (.int (wq_I y4)), some (.int (wq_I r323)), some (.int (wq_I r328))]) F dL_law_1605 (by decide) rfl rfl rfl ?_
                                                refine wq_aload_n F dL_law_1607 rfl rfl rfl ?_
                                                obtain ⟨r331, S332, h1r331, h⟩ := wq_bd_some h
                                                obtain ⟨S333, eS333, h⟩ := wq_lt_some h
                                                refine wq_callV (As := []) (k := 284) (n := 1) F lk_L_133 (wq_Ct_emb (o := 284) (ct_X9_thrown h1r331) (Nat.le_of_ble_eq_true rfl) wq_EL_m (wq_mdl_at _)) ⟨(Nat.le_of_ble_eq_true rfl), (Nat.le_of_ble_eq_true rfl)⟩ ⟨by show cc + 1 ≤ room_1.cells; omega, by show ss + 6 ≤ room_1.slots; omega⟩ (Nat.le_of_ble_eq_true rfl) rfl rfl wq_AbX rfl rfl (Nat.le_of_ble_eq_true rfl) dL_law_1608 rfl ?_
                                                refine wq_namS eS333 ?_
                                                refine wq_iload F dL_law_1611 rfl rfl ?_
                                                refine wq_icmp_eq (tgt := 1618) F dL_law_1613 (by decide) rfl (fun hc => ?_) (fun hc => ?_)
                                                · replace h := wq_ift hc h
                                                  refine wq_iload F dL_law_1618 rfl rfl ?_
                                                  refine wq_if_ne (tgt := 1642) F dL_law_1620 (by decide) rfl (fun hc => ?_) (fun hc => ?_)
                                                  · replace h := wq_iff hc h
                                                    refine wq_goto (tgt := 2456) F dL_law_1642 (by decide) ?_
                                                    refine wq_iinc (L' := [some (.ref b0), some (.ref (b + 0)), some (.ref (b + 284)), some (.ref (b + 316)), some (.int (wq_I (y4 + 6))), some (.int (wq_I r323)), some (.int (wq_I r328))]) F dL_law_2456 rfl (by decide) rfl rfl rfl ?_
                                                    refine wq_goto (tgt := 23) F dL_law_2459 (by decide) ?_
                                                    exact wq_wid (k := cc + 10) (n := ss + 60) (by omega) (by omega) <| wq_lsub [some (.ref b0), some (.ref (b + 0)), some (.ref (b + 284)), some (.ref (b + 316)), some (.int (wq_I (y4 + 6))), none, none] (by simp [wq_sub]) (hrec (y4 + 6) S333 h)
                                                  · replace h := wq_ift hc h
                                                    refine wq_aload_n F dL_law_1623 rfl rfl rfl ?_
                                                    refine wq_iconst (n := 0) F dL_law_1624 rfl ?_
                                                    obtain ⟨t334, ht334, wt334, h⟩ := wq_ix_some h
                                                    refine wq_lald F (Nat.le_of_ble_eq_true rfl) rfl ht334 wt334 dL_law_1625 rfl ?_
                                                    refine wq_iload F dL_law_1626 rfl rfl ?_
                                                    refine wq_if_eq (tgt := 1635) F dL_law_1628 (by decide) rfl (fun hc => ?_) (fun hc => ?_)
                                                    · replace h := wq_ift hc h
                                                      refine wq_lconst (v := 0) F dL_law_1635 rfl rfl ?_
                                                      refine wq_lcmp F dL_law_1636 rfl ?_
                                                      refine wq_if_eq (tgt := 1642) F dL_law_1637 (by decide) rfl (fun hc => ?_) (fun hc => ?_)
                                                      · replace h := wq_ift hc h
                                                        refine wq_goto (tgt := 2456) F dL_law_1642 (by decide) ?_
                                                        refine wq_iinc (L' := [some (.ref b0), some (.ref (b + 0)), some (.ref (b + 284)), some (.ref (b + 316)), some (.int (wq_I (y4 + 6))), some (.int (wq_I r323)), some (.int (wq_I r328))]) F dL_law_2456 rfl (by decide) rfl rfl rfl ?_
                                                        refine wq_goto (tgt := 23) F dL_law_2459 (by decide) ?_
                                                        exact wq_wid (k := cc + 10) (n := ss + 60) (by omega) (by omega) <| wq_lsub [some (.ref b0), some (.ref (b + 0)), some (.ref (b + 284)), some (.ref (b + 316)), some (.int (wq_I (y4 + 6))), none, none] (by simp [wq_sub]) (hrec (y4 + 6) S333 h)
                                                      · replace h := wq_iff hc h
                                                        refine wq_iconst (n := 0) F dL_law_1640 rfl ?_
                                                        simp at h
                                                    · replace h := wq_iff hc h
                                                      refine wq_lconst (v := 1) F dL_law_1631 rfl rfl ?_
                                                      refine wq_goto (tgt := 1636) F dL_law_1632 (by decide) ?_
                                                      refine wq_lcmp F dL_law_1636 rfl ?_
                                                      refine wq_if_eq (tgt := 1642) F dL_law_1637 (by decide) rfl (fun hc => ?_) (fun hc => ?_)
                                                      · replace h := wq_ift hc h
                                                        refine wq_goto (tgt := 2456) F dL_law_1642 (by decide) ?_
                                                        refine wq_iinc (L' := [some (.ref b0), some (.ref (b + 0)), some (.ref (b + 284)), some (.ref (b + 316)), some (.int (wq_I (y4 + 6))), some (.int (wq_I r323)), some (.int (wq_I r328))]) F dL_law_2456 rfl (by decide) rfl rfl rfl ?_
                                                        refine wq_goto (tgt := 23) F dL_law_2459 (by decide) ?_
                                                        exact wq_wid (k := cc + 10) (n := ss + 60) (by omega) (by omega) <| wq_lsub [some (.ref b0), some (.ref (b + 0)), some (.ref (b + 284)), some (.ref (b + 316)), some (.int (wq_I (y4 + 6))), none, none] (by simp [wq_sub]) (hrec (y4 + 6) S333 h)
                                                      · replace h := wq_iff hc h
                                                        refine wq_iconst (n := 0) F dL_law_1640 rfl ?_
                                                        simp at h
                                                · replace h := wq_iff hc h
                                                  refine wq_iconst (n := 0) F dL_law_1616 rfl ?_
                                                  simp at h
                                              · replace h := wq_iff hc h
                                                refine wq_iconst (n := 1) F dL_law_1597 rfl ?_
                                                refine wq_goto (tgt := 1602) F dL_law_1598 (by decide) ?_
                                                obtain ⟨r335, S336, h1r335, h⟩ := wq_bd_some h
                                                obtain ⟨S337, eS337, h⟩ := wq_lt_some h
                                                refine wq_callV (As := [.int (wq_I (X t326)), .int (wq_I 1)]) (k := 284) (n := 3) F lk_L_200 (wq_Ct_emb (o := 284) (ct_X9_setDue h1r335) (Nat.le_of_ble_eq_true rfl) wq_EL_m (wq_mdl_at _)) ⟨(Nat.le_of_ble_eq_true rfl), (Nat.le_of_ble_eq_true rfl)⟩ ⟨by show cc + 1 ≤ room_1.cells; omega, by show ss + 6 ≤ room_1.slots; omega⟩ (Nat.le_of_ble_eq_true rfl) rfl rfl wq_AbX rfl rfl (Nat.le_of_ble_eq_true rfl) dL_law_1602 rfl ?_
                                                refine wq_namS eS337 ?_
                                                refine wq_istore (L' := [some (.ref b0), some (.ref (b + 0)), some (.ref (b + 284)), some (.ref (b + 316)), some (.int (wq_I y4)), some (.int (wq_I r323)), some (.int (wq_I r335))]) F dL_law_1605 (by decide) rfl rfl rfl ?_
                                                refine wq_aload_n F dL_law_1607 rfl rfl rfl ?_
                                                obtain ⟨r338, S339, h1r338, h⟩ := wq_bd_some h
                                                obtain ⟨S340, eS340, h⟩ := wq_lt_some h
                                                refine wq_callV (As := []) (k := 284) (n := 1) F lk_L_133 (wq_Ct_emb (o := 284) (ct_X9_thrown h1r338) (Nat.le_of_ble_eq_true rfl) wq_EL_m (wq_mdl_at _)) ⟨(Nat.le_of_ble_eq_true rfl), (Nat.le_of_ble_eq_true rfl)⟩ ⟨by show cc + 1 ≤ room_1.cells; omega, by show ss + 6 ≤ room_1.slots; omega⟩ (Nat.le_of_ble_eq_true rfl) rfl rfl wq_AbX rfl rfl (Nat.le_of_ble_eq_true rfl) dL_law_1608 rfl ?_
                                                refine wq_namS eS340 ?_
                                                refine wq_iload F dL_law_1611 rfl rfl ?_
                                                refine wq_icmp_eq (tgt := 1618) F dL_law_1613 (by decide) rfl (fun hc => ?_) (fun hc => ?_)
                                                · replace h := wq_ift hc h
                                                  refine wq_iload F dL_law_1618 rfl rfl ?_
                                                  refine wq_if_ne (tgt := 1642) F dL_law_1620 (by decide) rfl (fun hc => ?_) (fun hc => ?_)
                                                  · replace h := wq_iff hc h
                                                    refine wq_goto (tgt := 2456) F dL_law_1642 (by decide) ?_
                                                    refine wq_iinc (L' := [some (.ref b0), some (.ref (b + 0)), some (.ref (b + 284)), some (.ref (b + 316)), some (.int (wq_I (y4 + 6))), some (.int (wq_I r323)), some (.int (wq_I r335))]) F dL_law_2456 rfl (by decide) rfl rfl rfl ?_
                                                    refine wq_goto (tgt := 23) F dL_law_2459 (by decide) ?_
                                                    exact wq_wid (k := cc + 10) (n := ss + 60) (by omega) (by omega) <| wq_lsub [some (.ref b0), some (.ref (b + 0)), some (.ref (b + 284)), some (.ref (b + 316)), some (.int (wq_I (y4 + 6))), none, none] (by simp [wq_sub]) (hrec (y4 + 6) S340 h)
                                                  · replace h := wq_ift hc h
                                                    refine wq_aload_n F dL_law_1623 rfl rfl rfl ?_
                                                    refine wq_iconst (n := 0) F dL_law_1624 rfl ?_
                                                    obtain ⟨t341, ht341, wt341, h⟩ := wq_ix_some h
                                                    refine wq_lald F (Nat.le_of_ble_eq_true rfl) rfl ht341 wt341 dL_law_1625 rfl ?_
                                                    refine wq_iload F dL_law_1626 rfl rfl ?_
                                                    refine wq_if_eq (tgt := 1635) F dL_law_1628 (by decide) rfl (fun hc => ?_) (fun hc => ?_)
                                                    · replace h := wq_ift hc h
                                                      refine wq_lconst (v := 0) F dL_law_1635 rfl rfl ?_
                                                      refine wq_lcmp F dL_law_1636 rfl ?_
                                                      refine wq_if_eq (tgt := 1642) F dL_law_1637 (by decide) rfl (fun hc => ?_) (fun hc => ?_)
                                                      · replace h := wq_ift hc h
                                                        refine wq_goto (tgt := 2456) F dL_law_1642 (by decide) ?_
                                                        refine wq_iinc (L' := [some (.ref b0), some (.ref (b + 0)), some (.ref (b + 284)), some (.ref (b + 316)), some (.int (wq_I (y4 + 6))), some (.int (wq_I r323)), some (.int (wq_I r335))]) F dL_law_2456 rfl (by decide) rfl rfl rfl ?_
                                                        refine wq_goto (tgt := 23) F dL_law_2459 (by decide) ?_
                                                        exact wq_wid (k := cc + 10) (n := ss + 60) (by omega) (by omega) <| wq_lsub [some (.ref b0), some (.ref (b + 0)), some (.ref (b + 284)), some (.ref (b + 316)), some (.int (wq_I (y4 + 6))), none, none] (by simp [wq_sub]) (hrec (y4 + 6) S340 h)
                                                      · replace h := wq_iff hc h
                                                        refine wq_iconst (n := 0) F dL_law_1640 rfl ?_
                                                        simp at h
                                                    · replace h := wq_iff hc h
                                                      refine wq_lconst (v := 1) F dL_law_1631 rfl rfl ?_
                                                      refine wq_goto (tgt := 1636) F dL_law_1632 (by decide) ?_
                                                      refine wq_lcmp F dL_law_1636 rfl ?_
                                                      refine wq_if_eq (tgt := 1642) F dL_law_1637 (by decide) rfl (fun hc => ?_) (fun hc => ?_)
                                                      · replace h := wq_ift hc h
                                                        refine wq_goto (tgt := 2456) F dL_law_1642 (by decide) ?_
                                                        refine wq_iinc (L' := [some (.ref b0), some (.ref (b + 0)), some (.ref (b + 284)), some (.ref (b + 316)), some (.int (wq_I (y4 + 6))), some (.int (wq_I r323)), some (.int (wq_I r335))]) F dL_law_2456 rfl (by decide) rfl rfl rfl ?_
                                                        refine wq_goto (tgt := 23) F dL_law_2459 (by decide) ?_
                                                        exact wq_wid (k := cc + 10) (n := ss + 60) (by omega) (by omega) <| wq_lsub [some (.ref b0), some (.ref (b + 0)), some (.ref (b + 284)), some (.ref (b + 316)), some (.int (wq_I (y4 + 6))), none, none] (by simp [wq_sub]) (hrec (y4 + 6) S340 h)
                                                      · replace h := wq_iff hc h
                                                        refine wq_iconst (n := 0) F dL_law_1640 rfl ?_
                                                        simp at h
                                                · replace h := wq_iff hc h
                                                  refine wq_iconst (n := 0) F dL_law_1616 rfl ?_
                                                  simp at h
                                          · replace h := wq_iff hc19 h
                                            by_cases hc20 : wq_w (wq_and (X t1) 63) = 20
                                            · replace h := wq_ift hc20 h
                                              refine wq_tableIn (tgt := 1645) (off := 1605) F dL_law_40 (by omega) (by omega) (by rw [hc20]; rfl) (by decide) ?_
                                              refine wq_aload_n F dL_law_1645 rfl rfl rfl ?_
                                              refine wq_aload_n F dL_law_1646 rfl rfl rfl ?_
                                              refine wq_iload F dL_law_1647 rfl rfl ?_
                                              refine wq_iconst (n := 1) F dL_law_1649 rfl ?_
                                              refine wq_iadd F dL_law_1650 rfl ?_
                                              obtain ⟨t342, ht342, wt342, h⟩ := wq_ix_some h
                                              refine wq_sld F hX hbl hbA ht342 wt342 dL_law_1651 rfl ?_
                                              refine wq_aload_n F dL_law_1652 rfl rfl rfl ?_
                                              obtain ⟨r343, S344, h1r343, h⟩ := wq_bd_some h
                                              refine wq_callW (As := [.ref (b + 0), .int (wq_I (X t342)), .ref (b + 316)]) (mc := 1) (ms := 6) (n := 9) F K Kn lk_L_201 (ct_L_isDue hlt h1r343) ⟨(Nat.le_of_ble_eq_true rfl), (Nat.le_of_ble_eq_true rfl)⟩ ⟨by show cc + 1 ≤ room_1.cells; omega, by show ss + 6 ≤ room_1.slots; omega⟩ rfl rfl (Nat.le_of_ble_eq_true rfl) dL_law_1653 rfl ?_
                                              refine wq_istore (L' := [some (.ref b0), some (.ref (b + 0)), some (.ref (b + 284)), some (.ref (b + 316)), some (.int (wq_I y4)), some (.int (wq_I r343)), none]) F dL_law_1656 (by decide) rfl rfl rfl ?_
                                              refine wq_aload_n F dL_law_1658 rfl rfl rfl ?_
                                              refine wq_aload_n F dL_law_1659 rfl rfl rfl ?_
                                              refine wq_iload F dL_law_1660 rfl rfl ?_
                                              refine wq_iconst (n := 1) F dL_law_1662 rfl ?_
                                              refine wq_iadd F dL_law_1663 rfl ?_
                                              obtain ⟨t346, ht346, wt346, h⟩ := wq_ix_some h
                                              refine wq_sld F hX hbl hbA ht346 wt346 dL_law_1664 rfl ?_
                                              obtain ⟨r347, S348, h1r347, h⟩ := wq_bd_some h
                                              obtain ⟨S349, eS349, h⟩ := wq_lt_some h
                                              refine wq_callV (As := [.int (wq_I (X t346))]) (k := 284) (n := 3) F lk_L_203 (wq_Ct_emb (o := 284) (ct_X9_isDue h1r347) (Nat.le_of_ble_eq_true rfl) wq_EL_m (wq_mdl_at _)) ⟨(Nat.le_of_ble_eq_true rfl), (Nat.le_of_ble_eq_true rfl)⟩ ⟨by show cc + 1 ≤ room_1.cells; omega, by show ss + 6 ≤ room_1.slots; omega⟩ (Nat.le_of_ble_eq_true rfl) rfl rfl wq_AbX rfl rfl (Nat.le_of_ble_eq_true rfl) dL_law_1665 rfl ?_
                                              refine wq_namS eS349 ?_
                                              refine wq_istore (L' := [some (.ref b0), some (.ref (b + 0)), some (.ref (b + 284)), some (.ref (b + 316)), some (.int (wq_I y4)), some (.int (wq_I r343)), some (.int (wq_I r347))]) F dL_law_1668 (by decide) rfl rfl rfl ?_
                                              refine wq_aload_n F dL_law_1670 rfl rfl rfl ?_
                                              obtain ⟨r350, S351, h1r350, h⟩ := wq_bd_some h
                                              obtain ⟨S352, eS352, h⟩ := wq_lt_some h
                                              refine wq_callV (As := []) (k := 284) (n := 1) F lk_L_133 (wq_Ct_emb (o := 284) (ct_X9_thrown h1r350) (Nat.le_of_ble_eq_true rfl) wq_EL_m (wq_mdl_at _)) ⟨(Nat.le_of_ble_eq_true rfl), (Nat.le_of_ble_eq_true rfl)⟩ ⟨by show cc + 1 ≤ room_1.cells; omega, by show ss + 6 ≤ room_1.slots; omega⟩ (Nat.le_of_ble_eq_true rfl) rfl rfl wq_AbX rfl rfl (Nat.le_of_ble_eq_true rfl) dL_law_1671 rfl ?_
                                              refine wq_namS eS352 ?_
                                              refine wq_iload F dL_law_1674 rfl rfl ?_
                                              refine wq_icmp_eq (tgt := 1681) F dL_law_1676 (by decide) rfl (fun hc => ?_) (fun hc => ?_)
                                              · replace h := wq_ift hc h
                                                refine wq_iload F dL_law_1681 rfl rfl ?_
                                                refine wq_if_ne (tgt := 1705) F dL_law_1683 (by decide) rfl (fun hc => ?_) (fun hc => ?_)
                                                · replace h := wq_iff hc h
                                                  refine wq_goto (tgt := 2456) F dL_law_1705 (by decide) ?_
                                                  refine wq_iinc (L' := [some (.ref b0), some (.ref (b + 0)), some (.ref (b + 284)), some (.ref (b + 316)), some (.int (wq_I (y4 + 6))), some (.int (wq_I r343)), some (.int (wq_I r347))]) F dL_law_2456 rfl (by decide) rfl rfl rfl ?_
                                                  refine wq_goto (tgt := 23) F dL_law_2459 (by decide) ?_
                                                  exact wq_wid (k := cc + 10) (n := ss + 60) (by omega) (by omega) <| wq_lsub [some (.ref b0), some (.ref (b + 0)), some (.ref (b + 284)), some (.ref (b + 316)), some (.int (wq_I (y4 + 6))), none, none] (by simp [wq_sub]) (hrec (y4 + 6) S352 h)
                                                · replace h := wq_ift hc h
                                                  refine wq_aload_n F dL_law_1686 rfl rfl rfl ?_
                                                  refine wq_iconst (n := 0) F dL_law_1687 rfl ?_
                                                  obtain ⟨t353, ht353, wt353, h⟩ := wq_ix_some h
                                                  refine wq_lald F (Nat.le_of_ble_eq_true rfl) rfl ht353 wt353 dL_law_1688 rfl ?_
                                                  refine wq_iload F dL_law_1689 rfl rfl ?_
                                                  refine wq_if_eq (tgt := 1698) F dL_law_1691 (by decide) rfl (fun hc => ?_) (fun hc => ?_)
                                                  · replace h := wq_ift hc h
                                                    refine wq_lconst (v := 0) F dL_law_1698 rfl rfl ?_
                                                    refine wq_lcmp F dL_law_1699 rfl ?_
                                                    refine wq_if_eq (tgt := 1705) F dL_law_1700 (by decide) rfl (fun hc => ?_) (fun hc => ?_)
                                                    · replace h := wq_ift hc h
                                                      refine wq_goto (tgt := 2456) F dL_law_1705 (by decide) ?_
                                                      refine wq_iinc (L' := [some (.ref b0), some (.ref (b + 0)), some (.ref (b + 284)), some (.ref (b + 316)), some (.int (wq_I (y4 + 6))), some (.int (wq_I r343)), some (.int (wq_I r347))]) F dL_law_2456 rfl (by decide) rfl rfl rfl ?_
                                                      refine wq_goto (tgt := 23) F dL_law_2459 (by decide) ?_
                                                      exact wq_wid (k := cc + 10) (n := ss + 60) (by omega) (by omega) <| wq_lsub [some (.ref b0), some (.ref (b + 0)), some (.ref (b + 284)), some (.ref (b + 316)), some (.int (wq_I (y4 + 6))), none, none] (by simp [wq_sub]) (hrec (y4 + 6) S352 h)
                                                    · replace h := wq_iff hc h
                                                      refine wq_iconst (n := 0) F dL_law_1703 rfl ?_
                                                      simp at h
                                                  · replace h := wq_iff hc h
                                                    refine wq_lconst (v := 1) F dL_law_1694 rfl rfl ?_
                                                    refine wq_goto (tgt := 1699) F dL_law_1695 (by decide) ?_
                                                    refine wq_lcmp F dL_law_1699 rfl ?_
                                                    refine wq_if_eq (tgt := 1705) F dL_law_1700 (by decide) rfl (fun hc => ?_) (fun hc => ?_)
                                                    · replace h := wq_ift hc h
                                                      refine wq_goto (tgt := 2456) F dL_law_1705 (by decide) ?_
                                                      refine wq_iinc (L' := [some (.ref b0), some (.ref (b + 0)), some (.ref (b + 284)), some (.ref (b + 316)), some (.int (wq_I (y4 + 6))), some (.int (wq_I r343)), some (.int (wq_I r347))]) F dL_law_2456 rfl (by decide) rfl rfl rfl ?_
                                                      refine wq_goto (tgt := 23) F dL_law_2459 (by decide) ?_
                                                      exact wq_wid (k := cc + 10) (n := ss + 60) (by omega) (by omega) <| wq_lsub [some (.ref b0), some (.ref (b + 0)), some (.ref (b + 284)), some (.ref (b + 316)), some (.int (wq_I (y4 + 6))), none, none] (by simp [wq_sub]) (hrec (y4 + 6) S352 h)
                                                    · replace h := wq_iff hc h
                                                      refine wq_iconst (n := 0) F dL_law_1703 rfl ?_
                                                      simp at h
                                              · replace h := wq_iff hc h
                                                refine wq_iconst (n := 0) F dL_law_1679 rfl ?_
                                                simp at h
                                            · replace h := wq_iff hc20 h
                                              by_cases hc21 : wq_w (wq_and (X t1) 63) = 21
                                              · replace h := wq_ift hc21 h
                                                refine wq_tableIn (tgt := 1708) (off := 1668) F dL_law_40 (by omega) (by omega) (by rw [hc21]; rfl) (by decide) ?_
                                                refine wq_aload_n F dL_law_1708 rfl rfl rfl ?_
                                                refine wq_aload_n F dL_law_1709 rfl rfl rfl ?_
                                                refine wq_iload F dL_law_1710 rfl rfl ?_
                                                refine wq_iconst (n := 1) F dL_law_1712 rfl ?_
                                                refine wq_iadd F dL_law_1713 rfl ?_
                                                obtain ⟨t354, ht354, wt354, h⟩ := wq_ix_some h
                                                refine wq_sld F hX hbl hbA ht354 wt354 dL_law_1714 rfl ?_
                                                refine wq_aload_n F dL_law_1715 rfl rfl rfl ?_
                                                refine wq_iload F dL_law_1716 rfl rfl ?_
                                                refine wq_iconst (n := 2) F dL_law_1718 rfl ?_
                                                refine wq_iadd F dL_law_1719 rfl ?_
                                                obtain ⟨t355, ht355, wt355, h⟩ := wq_ix_some h
                                                refine wq_sld F hX hbl hbA ht355 wt355 dL_law_1720 rfl ?_
                                                refine wq_aload_n F dL_law_1721 rfl rfl rfl ?_
                                                obtain ⟨r356, S357, h1r356, h⟩ := wq_bd_some h
                                                refine wq_callW (As := [.ref (b + 0), .int (wq_I (X t354)), .int (wq_I (X t355)), .ref (b + 316)]) (mc := 2) (ms := 12) (n := 14) F K Kn lk_L_204 (ct_L_planSource hlt h1r356) ⟨(Nat.le_of_ble_eq_true rfl), (Nat.le_of_ble_eq_true rfl)⟩ ⟨by show cc + 2 ≤ room_1.cells; omega, by show ss + 12 ≤ room_1.slots; omega⟩ rfl rfl (Nat.le_of_ble_eq_true rfl) dL_law_1722 rfl ?_
                                                refine wq_istore (L' := [some (.ref b0), some (.ref (b + 0)), some (.ref (b + 284)), some (.ref (b + 316)), some (.int (wq_I y4)), some (.int (wq_I r356)), none]) F dL_law_1725 (by decide) rfl rfl rfl ?_
                                                refine wq_aload_n F dL_law_1727 rfl rfl rfl ?_
                                                refine wq_aload_n F dL_law_1728 rfl rfl rfl ?_
                                                refine wq_iload F dL_law_1729 rfl rfl ?_
                                                refine wq_iconst (n := 1) F dL_law_1731 rfl ?_
                                                refine wq_iadd F dL_law_1732 rfl ?_
                                                obtain ⟨t359, ht359, wt359, h⟩ := wq_ix_some h
                                                refine wq_sld F hX hbl hbA ht359 wt359 dL_law_1733 rfl ?_
                                                refine wq_aload_n F dL_law_1734 rfl rfl rfl ?_
                                                refine wq_iload F dL_law_1735 rfl rfl ?_
                                                refine wq_iconst (n := 2) F dL_law_1737 rfl ?_
                                                refine wq_iadd F dL_law_1738 rfl ?_
                                                obtain ⟨t360, ht360, wt360, h⟩ := wq_ix_some h
                                                refine wq_sld F hX hbl hbA ht360 wt360 dL_law_1739 rfl ?_
                                                obtain ⟨r361, S362, h1r361, h⟩ := wq_bd_some h
                                                obtain ⟨S363, eS363, h⟩ := wq_lt_some h
                                                refine wq_callV (As := [.int (wq_I (X t359)), .int (wq_I (X t360))]) (k := 284) (n := 7) F lk_L_206 (wq_Ct_emb (o := 284) (ct_X9_planSource h1r361) (Nat.le_of_ble_eq_true rfl) wq_EL_m (wq_mdl_at _)) ⟨(Nat.le_of_ble_eq_true rfl), (Nat.le_of_ble_eq_true rfl)⟩ ⟨by show cc + 2 ≤ room_1.cells; omega, by show ss + 12 ≤ room_1.slots; omega⟩ (Nat.le_of_ble_eq_true rfl) rfl rfl wq_AbX rfl rfl (Nat.le_of_ble_eq_true rfl) dL_law_1740 rfl ?_
                                                refine wq_namS eS363 ?_
                                                refine wq_istore (L' := [some (.ref b0), some (.ref (b + 0)), some (.ref (b + 284)), some (.ref (b + 316)), some (.int (wq_I y4)), some (.int (wq_I r356)), some (.int (wq_I r361))]) F dL_law_1743 (by decide) rfl rfl rfl ?_
                                                refine wq_aload_n F dL_law_1745 rfl rfl rfl ?_
                                                obtain ⟨r364, S365, h1r364, h⟩ := wq_bd_some h
                                                obtain ⟨S366, eS366, h⟩ := wq_lt_some h
                                                refine wq_callV (As := []) (k := 284) (n := 1) F lk_L_133 (wq_Ct_emb (o := 284) (ct_X9_thrown h1r364) (Nat.le_of_ble_eq_true rfl) wq_EL_m (wq_mdl_at _)) ⟨(Nat.le_of_ble_eq_true rfl), (Nat.le_of_ble_eq_true rfl)⟩ ⟨by show cc + 2 ≤ room_1.cells; omega, by show ss + 12 ≤ room_1.slots; omega⟩ (Nat.le_of_ble_eq_true rfl) rfl rfl wq_AbX rfl rfl (Nat.le_of_ble_eq_true rfl) dL_law_1746 rfl ?_
                                                refine wq_namS eS366 ?_
                                                refine wq_iload F dL_law_1749 rfl rfl ?_
                                                refine wq_icmp_eq (tgt := 1756) F dL_law_1751 (by decide) rfl (fun hc => ?_) (fun hc => ?_)
                                                · replace h := wq_ift hc h
                                                  refine wq_iload F dL_law_1756 rfl rfl ?_
                                                  refine wq_if_ne (tgt := 1773) F dL_law_1758 (by decide) rfl (fun hc => ?_) (fun hc => ?_)
                                                  · replace h := wq_iff hc h
                                                    refine wq_goto (tgt := 2456) F dL_law_1773 (by decide) ?_
                                                    refine wq_iinc (L' := [some (.ref b0), some (.ref (b + 0)), some (.ref (b + 284)), some (.ref (b + 316)), some (.int (wq_I (y4 + 6))), some (.int (wq_I r356)), some (.int (wq_I r361))]) F dL_law_2456 rfl (by decide) rfl rfl rfl ?_
                                                    refine wq_goto (tgt := 23) F dL_law_2459 (by decide) ?_
                                                    exact wq_wid (k := cc + 10) (n := ss + 60) (by omega) (by omega) <| wq_lsub [some (.ref b0), some (.ref (b + 0)), some (.ref (b + 284)), some (.ref (b + 316)), some (.int (wq_I (y4 + 6))), none, none] (by simp [wq_sub]) (hrec (y4 + 6) S366 h)
                                                  · replace h := wq_ift hc h
                                                    refine wq_aload_n F dL_law_1761 rfl rfl rfl ?_
                                                    refine wq_iconst (n := 0) F dL_law_1762 rfl ?_
                                                    obtain ⟨t367, ht367, wt367, h⟩ := wq_ix_some h
                                                    refine wq_lald F (Nat.le_of_ble_eq_true rfl) rfl ht367 wt367 dL_law_1763 rfl ?_
                                                    refine wq_iload F dL_law_1764 rfl rfl ?_
                                                    refine wq_i2l_ F dL_law_1766 rfl ?_
                                                    refine wq_lcmp F dL_law_1767 rfl ?_
                                                    refine wq_if_eq (tgt := 1773) F dL_law_1768 (by decide) rfl (fun hc => ?_) (fun hc => ?_)
                                                    · replace h := wq_ift hc h
                                                      refine wq_goto (tgt := 2456) F dL_law_1773 (by decide) ?_
                                                      refine wq_iinc (L' := [some (.ref b0), some (.ref (b + 0)), some (.ref (b + 284)), some (.ref (b + 316)), some (.int (wq_I (y4 + 6))), some (.int (wq_I r356)), some (.int (wq_I r361))]) F dL_law_2456 rfl (by decide) rfl rfl rfl ?_
                                                      refine wq_goto (tgt := 23) F dL_law_2459 (by decide) ?_
                                                      exact wq_wid (k := cc + 10) (n := ss + 60) (by omega) (by omega) <| wq_lsub [some (.ref b0), some (.ref (b + 0)), some (.ref (b + 284)), some (.ref (b + 316)), some (.int (wq_I (y4 + 6))), none, none] (by simp [wq_sub]) (hrec (y4 + 6) S366 h)
                                                    · replace h := wq_iff hc h
                                                      refine wq_iconst (n := 0) F dL_law_1771 rfl ?_
                                                      simp at h
                                                · replace h := wq_iff hc h
                                                  refine wq_iconst (n := 0) F dL_law_1754 rfl ?_
                                                  simp at h
                                              · replace h := wq_iff hc21 h
                                                by_cases hc22 : wq_w (wq_and (X t1) 63) = 22
                                                · replace h := wq_ift hc22 h
                                                  refine wq_tableIn (tgt := 1776) (off := 1736) F dL_law_40 (by omega) (by omega) (by rw [hc22]; rfl) (by decide) ?_
                                                  refine wq_aload_n F dL_law_1776 rfl rfl rfl ?_
                                                  refine wq_aload_n F dL_law_1777 rfl rfl rfl ?_
                                                  refine wq_iload F dL_law_1778 rfl rfl ?_
                                                  refine wq_iconst (n := 1) F dL_law_1780 rfl ?_
                                                  refine wq_iadd F dL_law_1781 rfl ?_
                                                  obtain ⟨t368, ht368, wt368, h⟩ := wq_ix_some h
                                                  refine wq_sld F hX hbl hbA ht368 wt368 dL_law_1782 rfl ?_
                                                  refine wq_aload_n F dL_law_1783 rfl rfl rfl ?_
                                                  refine wq_iload F dL_law_1784 rfl rfl ?_
                                                  refine wq_iconst (n := 2) F dL_law_1786 rfl ?_
                                                  refine wq_iadd F dL_law_1787 rfl ?_
                                                  obtain ⟨t369, ht369, wt369, h⟩ := wq_ix_some h
                                                  refine wq_sld F hX hbl hbA ht369 wt369 dL_law_1788 rfl ?_
                                                  refine wq_aload_n F dL_law_1789 rfl rfl rfl ?_
                                                  obtain ⟨r370, S371, h1r370, h⟩ := wq_bd_some h
                                                  refine wq_callW (As := [.ref (b + 0), .int (wq_I (X t368)), .int (wq_I (X t369)), .ref (b + 316)]) (mc := 2) (ms := 12) (n := 14) F K Kn lk_L_207 (ct_L_planWay hlt h1r370) ⟨(Nat.le_of_ble_eq_true rfl), (Nat.le_of_ble_eq_true rfl)⟩ ⟨by show cc + 2 ≤ room_1.cells; omega, by show ss + 12 ≤ room_1.slots; omega⟩ rfl rfl (Nat.le_of_ble_eq_true rfl) dL_law_1790 rfl ?_
                                                  refine wq_istore (L' := [some (.ref b0), some (.ref (b + 0)), some (.ref (b + 284)), some (.ref (b + 316)), some (.int (wq_I y4)), some (.int (wq_I r370)), none]) F dL_law_1793 (by decide) rfl rfl rfl ?_
                                                  refine wq_aload_n F dL_law_1795 rfl rfl rfl ?_
                                                  refine wq_aload_n F dL_law_1796 rfl rfl rfl ?_
                                                  refine wq_iload F dL_law_1797 rfl rfl ?_
                                                  refine wq_iconst (n := 1) F dL_law_1799 rfl ?_
                                                  refine wq_iadd F dL_law_1800 rfl ?_
                                                  obtain ⟨t373, ht373, wt373, h⟩ := wq_ix_some h
                                                  refine wq_sld F hX hbl hbA ht373 wt373 dL_law_1801 rfl ?_
                                                  refine wq_aload_n F dL_law_1802 rfl rfl rfl ?_
                                                  refine wq_iload F dL_law_1803 rfl rfl ?_
                                                  refine wq_iconst (n := 2) F dL_law_1805 rfl ?_
                                                  refine wq_iadd F dL_law_1806 rfl ?_
                                                  obtain ⟨t374, ht374, wt374, h⟩ := wq_ix_some h
                                                  refine wq_sld F hX hbl hbA ht374 wt374 dL_law_1807 rfl ?_
                                                  obtain ⟨r375, S376, h1r375, h⟩ := wq_bd_some h
                                                  obtain ⟨S377, eS377, h⟩ := wq_lt_some h
                                                  refine wq_callV (As := [.int (wq_I (X t373)), .int (wq_I (X t374))]) (k := 284) (n := 7) F lk_L_209 (wq_Ct_emb (o := 284) (ct_X9_planWay h1r375) (Nat.le_of_ble_eq_true rfl) wq_EL_m (wq_mdl_at _)) ⟨(Nat.le_of_ble_eq_true rfl), (Nat.le_of_ble_eq_true rfl)⟩ ⟨by show cc + 2 ≤ room_1.cells; omega, by show ss + 12 ≤ room_1.slots; omega⟩ (Nat.le_of_ble_eq_true rfl) rfl rfl wq_AbX rfl rfl (Nat.le_of_ble_eq_true rfl) dL_law_1808 rfl ?_
                                                  refine wq_namS eS377 ?_
                                                  refine wq_istore (L' := [some (.ref b0), some (.ref (b + 0)), some (.ref (b + 284)), some (.ref (b + 316)), some (.int (wq_I y4)), some (.int (wq_I r370)), some (.int (wq_I r375))]) F dL_law_1811 (by decide) rfl rfl rfl ?_
                                                  refine wq_aload_n F dL_law_1813 rfl rfl rfl ?_
                                                  obtain ⟨r378, S379, h1r378, h⟩ := wq_bd_some h
                                                  obtain ⟨S380, eS380, h⟩ := wq_lt_some h
                                                  refine wq_callV (As := []) (k := 284) (n := 1) F lk_L_133 (wq_Ct_emb (o := 284) (ct_X9_thrown h1r378) (Nat.le_of_ble_eq_true rfl) wq_EL_m (wq_mdl_at _)) ⟨(Nat.le_of_ble_eq_true rfl), (Nat.le_of_ble_eq_true rfl)⟩ ⟨by show cc + 2 ≤ room_1.cells; omega, by show ss + 12 ≤ room_1.slots; omega⟩ (Nat.le_of_ble_eq_true rfl) rfl rfl wq_AbX rfl rfl (Nat.le_of_ble_eq_true rfl) dL_law_1814 rfl ?_
                                                  refine wq_namS eS380 ?_
                                                  refine wq_iload F dL_law_1817 rfl rfl ?_
                                                  refine wq_icmp_eq (tgt := 1824) F dL_law_1819 (by decide) rfl (fun hc => ?_) (fun hc => ?_)
                                                  · replace h := wq_ift hc h
                                                    refine wq_iload F dL_law_1824 rfl rfl ?_
                                                    refine wq_if_ne (tgt := 1841) F dL_law_1826 (by decide) rfl (fun hc => ?_) (fun hc => ?_)
                                                    · replace h := wq_iff hc h
                                                      refine wq_goto (tgt := 2456) F dL_law_1841 (by decide) ?_
                                                      refine wq_iinc (L' := [some (.ref b0), some (.ref (b + 0)), some (.ref (b + 284)), some (.ref (b + 316)), some (.int (wq_I (y4 + 6))), some (.int (wq_I r370)), some (.int (wq_I r375))]) F dL_law_2456 rfl (by decide) rfl rfl rfl ?_
                                                      refine wq_goto (tgt := 23) F dL_law_2459 (by decide) ?_
                                                      exact wq_wid (k := cc + 10) (n := ss + 60) (by omega) (by omega) <| wq_lsub [some (.ref b0), some (.ref (b + 0)), some (.ref (b + 284)), some (.ref (b + 316)), some (.int (wq_I (y4 + 6))), none, none] (by simp [wq_sub]) (hrec (y4 + 6) S380 h)
                                                    · replace h := wq_ift hc h
                                                      refine wq_aload_n F dL_law_1829 rfl rfl rfl ?_
                                                      refine wq_iconst (n := 0) F dL_law_1830 rfl ?_
                                                      obtain ⟨t381, ht381, wt381, h⟩ := wq_ix_some h
                                                      refine wq_lald F (Nat.le_of_ble_eq_true rfl) rfl ht381 wt381 dL_law_1831 rfl ?_
                                                      refine wq_iload F dL_law_1832 rfl rfl ?_
                                                      refine wq_i2l_ F dL_law_1834 rfl ?_
                                                      refine wq_lcmp F dL_law_1835 rfl ?_
                                                      refine wq_if_eq (tgt := 1841) F dL_law_1836 (by decide) rfl (fun hc => ?_) (fun hc => ?_)
                                                      · replace h := wq_ift hc h
                                                        refine wq_goto (tgt := 2456) F dL_law_1841 (by decide) ?_
                                                        refine wq_iinc (L' := [some (.ref b0), some (.ref (b + 0)), some (.ref (b + 284)), some (.ref (b + 316)), some (.int (wq_I (y4 + 6))), some (.int (wq_I r370)), some (.int (wq_I r375))]) F dL_law_2456 rfl (by decide) rfl rfl rfl ?_
                                                        refine wq_goto (tgt := 23) F dL_law_2459 (by decide) ?_
                                                        exact wq_wid (k := cc + 10) (n := ss + 60) (by omega) (by omega) <| wq_lsub [some (.ref b0), some (.ref (b + 0)), some (.ref (b + 284)), some (.ref (b + 316)), some (.int (wq_I (y4 + 6))), none, none] (by simp [wq_sub]) (hrec (y4 + 6) S380 h)
                                                      · replace h := wq_iff hc h
                                                        refine wq_iconst (n := 0) F dL_law_1839 rfl ?_
                                                        simp at h
                                                  · replace h := wq_iff hc h
                                                    refine wq_iconst (n := 0) F dL_law_1822 rfl ?_
                                                    simp at h
                                                · replace h := wq_iff hc22 h
                                                  by_cases hc23 : wq_w (wq_and (X t1) 63) = 23
                                                  · replace h := wq_ift hc23 h
                                                    refine wq_tableIn (tgt := 1844) (off := 1804) F dL_law_40 (by omega) (by omega) (by rw [hc23]; rfl) (by decide) ?_
                                                    refine wq_aload_n F dL_law_1844 rfl rfl rfl ?_
                                                    refine wq_aload_n F dL_law_1845 rfl rfl rfl ?_
                                                    refine wq_iload F dL_law_1846 rfl rfl ?_
                                                    refine wq_iconst (n := 1) F dL_law_1848 rfl ?_
                                                    refine wq_iadd F dL_law_1849 rfl ?_
                                                    obtain ⟨t382, ht382, wt382, h⟩ := wq_ix_some h
                                                    refine wq_sld F hX hbl hbA ht382 wt382 dL_law_1850 rfl ?_
                                                    refine wq_aload_n F dL_law_1851 rfl rfl rfl ?_
                                                    obtain ⟨r383, S384, h1r383, h⟩ := wq_bd_some h
                                                    refine wq_callW (As := [.ref (b + 0), .int (wq_I (X t382)), .ref (b + 316)]) (mc := 1) (ms := 6) (n := 14) F K Kn lk_L_210 (ct_L_foretold hlt h1r383) ⟨(Nat.le_of_ble_eq_true rfl), (Nat.le_of_ble_eq_true rfl)⟩ ⟨by show cc + 1 ≤ room_1.cells; omega, by show ss + 6 ≤ room_1.slots; omega⟩ rfl rfl (Nat.le_of_ble_eq_true rfl) dL_law_1852 rfl ?_
                                                    refine wq_istore (L' := [some (.ref b0), some (.ref (b + 0)), some (.ref (b + 284)), some (.ref (b + 316)), some (.int (wq_I y4)), some (.int (wq_I r383)), none]) F dL_law_1855 (by decide) rfl rfl rfl ?_
                                                    refine wq_aload_n F dL_law_1857 rfl rfl rfl ?_
                                                    refine wq_aload_n F dL_law_1858 rfl rfl rfl ?_
                                                    refine wq_iload F dL_law_1859 rfl rfl ?_
                                                    refine wq_iconst (n := 1) F dL_law_1861 rfl ?_
                                                    refine wq_iadd F dL_law_1862 rfl ?_
                                                    obtain ⟨t386, ht386, wt386, h⟩ := wq_ix_some h
                                                    refine wq_sld F hX hbl hbA ht386 wt386 dL_law_1863 rfl ?_
                                                    obtain ⟨r387, S388, h1r387, h⟩ := wq_bd_some h
                                                    obtain ⟨S389, eS389, h⟩ := wq_lt_some h
                                                    refine wq_callV (As := [.int (wq_I (X t386))]) (k := 284) (n := 8) F lk_L_212 (wq_Ct_emb (o := 284) (ct_X9_foretold h1r387) (Nat.le_of_ble_eq_true rfl) wq_EL_m (wq_mdl_at _)) ⟨(Nat.le_of_ble_eq_true rfl), (Nat.le_of_ble_eq_true rfl)⟩ ⟨by show cc + 1 ≤ room_1.cells; omega, by show ss + 6 ≤ room_1.slots; omega⟩ (Nat.le_of_ble_eq_true rfl) rfl rfl wq_AbX rfl rfl (Nat.le_of_ble_eq_true rfl) dL_law_1864 rfl ?_
                                                    refine wq_namS eS389 ?_
                                                    refine wq_istore (L' := [some (.ref b0), some (.ref (b + 0)), some (.ref (b + 284)), some (.ref (b + 316)), some (.int (wq_I y4)), some (.int (wq_I r383)), some (.int (wq_I r387))]) F dL_law_1867 (by decide) rfl rfl rfl ?_
                                                    refine wq_aload_n F dL_law_1869 rfl rfl rfl ?_
                                                    obtain ⟨r390, S391, h1r390, h⟩ := wq_bd_some h
                                                    obtain ⟨S392, eS392, h⟩ := wq_lt_some h
                                                    refine wq_callV (As := []) (k := 284) (n := 1) F lk_L_133 (wq_Ct_emb (o := 284) (ct_X9_thrown h1r390) (Nat.le_of_ble_eq_true rfl) wq_EL_m (wq_mdl_at _)) ⟨(Nat.le_of_ble_eq_true rfl), (Nat.le_of_ble_eq_true rfl)⟩ ⟨by show cc + 1 ≤ room_1.cells; omega, by show ss + 6 ≤ room_1.slots; omega⟩ (Nat.le_of_ble_eq_true rfl) rfl rfl wq_AbX rfl rfl (Nat.le_of_ble_eq_true rfl) dL_law_1870 rfl ?_
                                                    refine wq_namS eS392 ?_
                                                    refine wq_iload F dL_law_1873 rfl rfl ?_
                                                    refine wq_icmp_eq (tgt := 1880) F dL_law_1875 (by decide) rfl (fun hc => ?_) (fun hc => ?_)
                                                    · replace h := wq_ift hc h
                                                      refine wq_iload F dL_law_1880 rfl rfl ?_
                                                      refine wq_if_ne (tgt := 1897) F dL_law_1882 (by decide) rfl (fun hc => ?_) (fun hc => ?_)
                                                      · replace h := wq_iff hc h
                                                        refine wq_goto (tgt := 2456) F dL_law_1897 (by decide) ?_
                                                        refine wq_iinc (L' := [some (.ref b0), some (.ref (b + 0)), some (.ref (b + 284)), some (.ref (b + 316)), some (.int (wq_I (y4 + 6))), some (.int (wq_I r383)), some (.int (wq_I r387))]) F dL_law_2456 rfl (by decide) rfl rfl rfl ?_
                                                        refine wq_goto (tgt := 23) F dL_law_2459 (by decide) ?_
                                                        exact wq_wid (k := cc + 10) (n := ss + 60) (by omega) (by omega) <| wq_lsub [some (.ref b0), some (.ref (b + 0)), some (.ref (b + 284)), some (.ref (b + 316)), some (.int (wq_I (y4 + 6))), none, none] (by simp [wq_sub]) (hrec (y4 + 6) S392 h)
                                                      · replace h := wq_ift hc h
                                                        refine wq_aload_n F dL_law_1885 rfl rfl rfl ?_
                                                        refine wq_iconst (n := 0) F dL_law_1886 rfl ?_
                                                        obtain ⟨t393, ht393, wt393, h⟩ := wq_ix_some h
                                                        refine wq_lald F (Nat.le_of_ble_eq_true rfl) rfl ht393 wt393 dL_law_1887 rfl ?_
                                                        refine wq_iload F dL_law_1888 rfl rfl ?_
                                                        refine wq_i2l_ F dL_law_1890 rfl ?_
                                                        refine wq_lcmp F dL_law_1891 rfl ?_
                                                        refine wq_if_eq (tgt := 1897) F dL_law_1892 (by decide) rfl (fun hc => ?_) (fun hc => ?_)
                                                        · replace h := wq_ift hc h
                                                          refine wq_goto (tgt := 2456) F dL_law_1897 (by decide) ?_
                                                          refine wq_iinc (L' := [some (.ref b0), some (.ref (b + 0)), some (.ref (b + 284)), some (.ref (b + 316)), some (.int (wq_I (y4 + 6))), some (.int (wq_I r383)), some (.int (wq_I r387))]) F dL_law_2456 rfl (by decide) rfl rfl rfl ?_
                                                          refine wq_goto (tgt := 23) F dL_law_2459 (by decide) ?_
                                                          exact wq_wid (k := cc + 10) (n := ss + 60) (by omega) (by omega) <| wq_lsub [some (.ref b0), some (.ref (b + 0)), some (.ref (b + 284)), some (.ref (b + 316)), some (.int (wq_I (y4 + 6))), none, none] (by simp [wq_sub]) (hrec (y4 + 6) S392 h)
                                                        · replace h := wq_iff hc h
                                                          refine wq_iconst (n := 0) F dL_law_1895 rfl ?_
                                                          simp at h
                                                    · replace h := wq_iff hc h
                                                      refine wq_iconst (n := 0) F dL_law_1878 rfl ?_
                                                      simp at h
                                                  · replace h := wq_iff hc23 h
                                                    by_cases hc24 : wq_w (wq_and (X t1) 63) = 24
                                                    · replace h := wq_ift hc24 h
                                                      refine wq_tableIn (tgt := 1900) (off := 1860) F dL_law_40 (by omega) (by omega) (by rw [hc24]; rfl) (by decide) ?_
                                                      refine wq_aload_n F dL_law_1900 rfl rfl rfl ?_
                                                      refine wq_aload_n F dL_law_1901 rfl rfl rfl ?_
                                                      refine wq_iload F dL_law_1902 rfl rfl ?_
                                                      refine wq_iconst (n := 1) F dL_law_1904 rfl ?_
                                                      refine wq_iadd F dL_law_1905 rfl ?_
                                                      obtain ⟨t394, ht394, wt394, h⟩ := wq_ix_some h
                                                      refine wq_sld F hX hbl hbA ht394 wt394 dL_law_1906 rfl ?_
                                                      refine wq_aload_n F dL_law_1907 rfl rfl rfl ?_
                                                      obtain ⟨r395, S396, h1r395, h⟩ := wq_bd_some h
                                                      refine wq_callW (As := [.ref (b + 0), .int (wq_I (X t394)), .ref (b + 316)]) (mc := 1) (ms := 6) (n := 15) F K Kn lk_L_213 (ct_L_minutes hlt h1r395) ⟨(Nat.le_of_ble_eq_true rfl), (Nat.le_of_ble_eq_true rfl)⟩ ⟨by show cc + 1 ≤ room_1.cells; omega, by show ss + 6 ≤ room_1.slots; omega⟩ rfl rfl (Nat.le_of_ble_eq_true rfl) dL_law_1908 rfl ?_
                                                      refine wq_istore (L' := [some (.ref b0), some (.ref (b + 0)), some (.ref (b + 284)), some (.ref (b + 316)), some (.int (wq_I y4)), some (.int (wq_I r395)), none]) F dL_law_1911 (by decide) rfl rfl rfl ?_
                                                      refine wq_aload_n F dL_law_1913 rfl rfl rfl ?_
                                                      refine wq_aload_n F dL_law_1914 rfl rfl rfl ?_
                                                      refine wq_iload F dL_law_1915 rfl rfl ?_
                                                      refine wq_iconst (n := 1) F dL_law_1917 rfl ?_
                                                      refine wq_iadd F dL_law_1918 rfl ?_
                                                      obtain ⟨t398, ht398, wt398, h⟩ := wq_ix_some h
                                                      refine wq_sld F hX hbl hbA ht398 wt398 dL_law_1919 rfl ?_
                                                      obtain ⟨r399, S400, h1r399, h⟩ := wq_bd_some h
                                                      obtain ⟨S401, eS401, h⟩ := wq_lt_some h
                                                      refine wq_callV (As := [.int (wq_I (X t398))]) (k := 284) (n := 8) F lk_L_215 (wq_Ct_emb (o := 284) (ct_X9_minutes h1r399) (Nat.le_of_ble_eq_true rfl) wq_EL_m (wq_mdl_at _)) ⟨(Nat.le_of_ble_eq_true rfl), (Nat.le_of_ble_eq_true rfl)⟩ ⟨by show cc + 1 ≤ room_1.cells; omega, by show ss + 6 ≤ room_1.slots; omega⟩ (Nat.le_of_ble_eq_true rfl) rfl rfl wq_AbX rfl rfl (Nat.le_of_ble_eq_true rfl) dL_law_1920 rfl ?_
                                                      refine wq_namS eS401 ?_
                                                      refine wq_istore (L' := [some (.ref b0), some (.ref (b + 0)), some (.ref (b + 284)), some (.ref (b + 316)), some (.int (wq_I y4)), some (.int (wq_I r395)), some (.int (wq_I r399))]) F dL_law_1923 (by decide) rfl rfl rfl ?_
                                                      refine wq_aload_n F dL_law_1925 rfl rfl rfl ?_
                                                      obtain ⟨r402, S403, h1r402, h⟩ := wq_bd_some h
                                                      obtain ⟨S404, eS404, h⟩ := wq_lt_some h
                                                      refine wq_callV (As := []) (k := 284) (n := 1) F lk_L_133 (wq_Ct_emb (o := 284) (ct_X9_thrown h1r402) (Nat.le_of_ble_eq_true rfl) wq_EL_m (wq_mdl_at _)) ⟨(Nat.le_of_ble_eq_true rfl), (Nat.le_of_ble_eq_true rfl)⟩ ⟨by show cc + 1 ≤ room_1.cells; omega, by show ss + 6 ≤ room_1.slots; omega⟩ (Nat.le_of_ble_eq_true rfl) rfl rfl wq_AbX rfl rfl (Nat.le_of_ble_eq_true rfl) dL_law_1926 rfl ?_
                                                      refine wq_namS eS404 ?_
                                                      refine wq_iload F dL_law_1929 rfl rfl ?_
                                                      refine wq_icmp_eq (tgt := 1936) F dL_law_1931 (by decide) rfl (fun hc => ?_) (fun hc => ?_)
                                                      · replace h := wq_ift hc h
                                                        refine wq_iload F dL_law_1936 rfl rfl ?_
                                                        refine wq_if_ne (tgt := 1953) F dL_law_1938 (by decide) rfl (fun hc => ?_) (fun hc => ?_)
                                                        · replace h := wq_iff hc h
                                                          refine wq_goto (tgt := 2456) F dL_law_1953 (by decide) ?_
                                                          refine wq_iinc (L' := [some (.ref b0), some (.ref (b + 0)), some (.ref (b + 284)), some (.ref (b + 316)), some (.int (wq_I (y4 + 6))), some (.int (wq_I r395)), some (.int (wq_I r399))]) F dL_law_2456 rfl (by decide) rfl rfl rfl ?_
                                                          refine wq_goto (tgt := 23) F dL_law_2459 (by decide) ?_
                                                          exact wq_wid (k := cc + 10) (n := ss + 60) (by omega) (by omega) <| wq_lsub [some (.ref b0), some (.ref (b + 0)), some (.ref (b + 284)), some (.ref (b + 316)), some (.int (wq_I (y4 + 6))), none, none] (by simp [wq_sub]) (hrec (y4 + 6) S404 h)
                                                        · replace h := wq_ift hc h
                                                          refine wq_aload_n F dL_law_1941 rfl rfl rfl ?_
                                                          refine wq_iconst (n := 0) F dL_law_1942 rfl ?_
                                                          obtain ⟨t405, ht405, wt405, h⟩ := wq_ix_some h
                                                          refine wq_lald F (Nat.le_of_ble_eq_true rfl) rfl ht405 wt405 dL_law_1943 rfl ?_
                                                          refine wq_iload F dL_law_1944 rfl rfl ?_
                                                          refine wq_i2l_ F dL_law_1946 rfl ?_
                                                          refine wq_lcmp F dL_law_1947 rfl ?_
                                                          refine wq_if_eq (tgt := 1953) F dL_law_1948 (by decide) rfl (fun hc => ?_) (fun hc => ?_)
                                                          · replace h := wq_ift hc h
                                                            refine wq_goto (tgt := 2456) F dL_law_1953 (by decide) ?_
                                                            refine wq_iinc (L' := [some (.ref b0), some (.ref (b + 0)), some (.ref (b + 284)), some (.ref (b + 316)), some (.int (wq_I (y4 + 6))), some (.int (wq_I r395)), some (.int (wq_I r399))]) F dL_law_2456 rfl (by decide) rfl rfl rfl ?_
                                                            refine wq_goto (tgt := 23) F dL_law_2459 (by decide) ?_
                                                            exact wq_wid (k := cc + 10) (n := ss + 60) (by omega) (by omega) <| wq_lsub [some (.ref b0), some (.ref (b + 0)), some (.ref (b + 284)), some (.ref (b + 316)), some (.int (wq_I (y4 + 6))), none, none] (by simp [wq_sub]) (hrec (y4 + 6) S404 h)
                                                          · replace h := wq_iff hc h
                                                            refine wq_iconst (n := 0) F dL_law_1951 rfl ?_
                                                            simp at h
                                                      · replace h := wq_iff hc h
                                                        refine wq_iconst (n := 0) F dL_law_1934 rfl ?_
                                                        simp at h
                                                    · replace h := wq_iff hc24 h
                                                      by_cases hc25 : wq_w (wq_and (X t1) 63) = 25
                                                      · replace h := wq_ift hc25 h
                                                        refine wq_tableIn (tgt := 1956) (off := 1916) F dL_law_40 (by omega) (by omega) (by rw [hc25]; rfl) (by decide) ?_
                                                        refine wq_aload_n F dL_law_1956 rfl rfl rfl ?_
                                                        refine wq_aload_n F dL_law_1957 rfl rfl rfl ?_
                                                        refine wq_iload F dL_law_1958 rfl rfl ?_
                                                        refine wq_iconst (n := 1) F dL_law_1960 rfl ?_
                                                        refine wq_iadd F dL_law_1961 rfl ?_
                                                        obtain ⟨t406, ht406, wt406, h⟩ := wq_ix_some h
                                                        refine wq_sld F hX hbl hbA ht406 wt406 dL_law_1962 rfl ?_
                                                        refine wq_aload_n F dL_law_1963 rfl rfl rfl ?_
                                                        obtain ⟨r407, S408, h1r407, h⟩ := wq_bd_some h
                                                        refine wq_callW (As := [.ref (b + 0), .int (wq_I (X t406)), .ref (b + 316)]) (mc := 1) (ms := 6) (n := 15) F K Kn lk_L_216 (ct_L_answer hlt h1r407) ⟨(Nat.le_of_ble_eq_true rfl), (Nat.le_of_ble_eq_true rfl)⟩ ⟨by show cc + 1 ≤ room_1.cells; omega, by show ss + 6 ≤ room_1.slots; omega⟩ rfl rfl (Nat.le_of_ble_eq_true rfl) dL_law_1964 rfl ?_
                                                        refine wq_istore (L' := [some (.ref b0), some (.ref (b + 0)), some (.ref (b + 284)), some (.ref (b + 316)), some (.int (wq_I y4)), some (.int (wq_I r407)), none]) F dL_law_1967 (by decide) rfl rfl rfl ?_
                                                        refine wq_aload_n F dL_law_1969 rfl rfl rfl ?_
                                                        refine wq_aload_n F dL_law_1970 rfl rfl rfl ?_
                                                        refine wq_iload F dL_law_1971 rfl rfl ?_
                                                        refine wq_iconst (n := 1) F dL_law_1973 rfl ?_
                                                        refine wq_iadd F dL_law_1974 rfl ?_
                                                        obtain ⟨t410, ht410, wt410, h⟩ := wq_ix_some h
                                                        refine wq_sld F hX hbl hbA ht410 wt410 dL_law_1975 rfl ?_
                                                        obtain ⟨r411, S412, h1r411, h⟩ := wq_bd_some h
                                                        obtain ⟨S413, eS413, h⟩ := wq_lt_some h
                                                        refine wq_callV (As := [.int (wq_I (X t410))]) (k := 284) (n := 8) F lk_L_218 (wq_Ct_emb (o := 284) (ct_X9_answer h1r411) (Nat.le_of_ble_eq_true rfl) wq_EL_m (wq_mdl_at _)) ⟨(Nat.le_of_ble_eq_true rfl), (Nat.le_of_ble_eq_true rfl)⟩ ⟨by show cc + 1 ≤ room_1.cells; omega, by show ss + 6 ≤ room_1.slots; omega⟩ (Nat.le_of_ble_eq_true rfl) rfl rfl wq_AbX rfl rfl (Nat.le_of_ble_eq_true rfl) dL_law_1976 rfl ?_
                                                        refine wq_namS eS413 ?_
                                                        refine wq_istore (L' := [some (.ref b0), some (.ref (b + 0)), some (.ref (b + 284)), some (.ref (b + 316)), some (.int (wq_I y4)), some (.int (wq_I r407)), some (.int (wq_I r411))]) F dL_law_1979 (by decide) rfl rfl rfl ?_
                                                        refine wq_aload_n F dL_law_1981 rfl rfl rfl ?_
                                                        obtain ⟨r414, S415, h1r414, h⟩ := wq_bd_some h
                                                        obtain ⟨S416, eS416, h⟩ := wq_lt_some h
                                                        refine wq_callV (As := []) (k := 284) (n := 1) F lk_L_133 (wq_Ct_emb (o := 284) (ct_X9_thrown h1r414) (Nat.le_of_ble_eq_true rfl) wq_EL_m (wq_mdl_at _)) ⟨(Nat.le_of_ble_eq_true rfl), (Nat.le_of_ble_eq_true rfl)⟩ ⟨by show cc + 1 ≤ room_1.cells; omega, by show ss + 6 ≤ room_1.slots; omega⟩ (Nat.le_of_ble_eq_true rfl) rfl rfl wq_AbX rfl rfl (Nat.le_of_ble_eq_true rfl) dL_law_1982 rfl ?_
                                                        refine wq_namS eS416 ?_
                                                        refine wq_iload F dL_law_1985 rfl rfl ?_
                                                        refine wq_icmp_eq (tgt := 1992) F dL_law_1987 (by decide) rfl (fun hc => ?_) (fun hc => ?_)
                                                        · replace h := wq_ift hc h
                                                          refine wq_iload F dL_law_1992 rfl rfl ?_
                                                          refine wq_if_ne (tgt := 2009) F dL_law_1994 (by decide) rfl (fun hc => ?_) (fun hc => ?_)
                                                          · replace h := wq_iff hc h
                                                            refine wq_goto (tgt := 2456) F dL_law_2009 (by decide) ?_
                                                            refine wq_iinc (L' := [some (.ref b0), some (.ref (b + 0)), some (.ref (b + 284)), some (.ref (b + 316)), some (.int (wq_I (y4 + 6))), some (.int (wq_I r407)), some (.int (wq_I r411))]) F dL_law_2456 rfl (by decide) rfl rfl rfl ?_
                                                            refine wq_goto (tgt := 23) F dL_law_2459 (by decide) ?_
                                                            exact wq_wid (k := cc + 10) (n := ss + 60) (by omega) (by omega) <| wq_lsub [some (.ref b0), some (.ref (b + 0)), some (.ref (b + 284)), some (.ref (b + 316)), some (.int (wq_I (y4 + 6))), none, none] (by simp [wq_sub]) (hrec (y4 + 6) S416 h)
                                                          · replace h := wq_ift hc h
                                                            refine wq_aload_n F dL_law_1997 rfl rfl rfl ?_
                                                            refine wq_iconst (n := 0) F dL_law_1998 rfl ?_
                                                            obtain ⟨t417, ht417, wt417, h⟩ := wq_ix_some h
                                                            refine wq_lald F (Nat.le_of_ble_eq_true rfl) rfl ht417 wt417 dL_law_1999 rfl ?_
                                                            refine wq_iload F dL_law_2000 rfl rfl ?_
                                                            refine wq_i2l_ F dL_law_2002 rfl ?_
                                                            refine wq_lcmp F dL_law_2003 rfl ?_
                                                            refine wq_if_eq (tgt := 2009) F dL_law_2004 (by decide) rfl (fun hc => ?_) (fun hc => ?_)
                                                            · replace h := wq_ift hc h
                                                              refine wq_goto (tgt := 2456) F dL_law_2009 (by decide) ?_
                                                              refine wq_iinc (L' := [some (.ref b0), some (.ref (b + 0)), some (.ref (b + 284)), some (.ref (b + 316)), some (.int (wq_I (y4 + 6))), some (.int (wq_I r407)), some (.int (wq_I r411))]) F dL_law_2456 rfl (by decide) rfl rfl rfl ?_
                                                              refine wq_goto (tgt := 23) F dL_law_2459 (by decide) ?_
                                                              exact wq_wid (k := cc + 10) (n := ss + 60) (by omega) (by omega) <| wq_lsub [some (.ref b0), some (.ref (b + 0)), some (.ref (b + 284)), some (.ref (b + 316)), some (.int (wq_I (y4 + 6))), none, none] (by simp [wq_sub]) (hrec (y4 + 6) S416 h)
                                                            · replace h := wq_iff hc h
                                                              refine wq_iconst (n := 0) F dL_law_2007 rfl ?_
                                                              simp at h
                                                        · replace h := wq_iff hc h
                                                          refine wq_iconst (n := 0) F dL_law_1990 rfl ?_
                                                          simp at h
                                                      · replace h := wq_iff hc25 h
                                                        by_cases hc26 : wq_w (wq_and (X t1) 63) = 26
                                                        · replace h := wq_ift hc26 h
                                                          refine wq_tableIn (tgt := 2012) (off := 1972) F dL_law_40 (by omega) (by omega) (by rw [hc26]; rfl) (by decide) ?_
                                                          refine wq_aload_n F dL_law_2012 rfl rfl rfl ?_
                                                          refine wq_aload_n F dL_law_2013 rfl rfl rfl ?_
                                                          refine wq_iload F dL_law_2014 rfl rfl ?_
                                                          refine wq_iconst (n := 1) F dL_law_2016 rfl ?_
                                                          refine wq_iadd F dL_law_2017 rfl ?_
                                                          obtain ⟨t418, ht418, wt418, h⟩ := wq_ix_some h
                                                          refine wq_sld F hX hbl hbA ht418 wt418 dL_law_2018 rfl ?_
                                                          refine wq_aload_n F dL_law_2019 rfl rfl rfl ?_
                                                          obtain ⟨r419, S420, h1r419, h⟩ := wq_bd_some h
                                                          refine wq_callW (As := [.ref (b + 0), .int (wq_I (X t418)), .ref (b + 316)]) (mc := 1) (ms := 6) (n := 15) F K Kn lk_L_219 (ct_L_sum hlt h1r419) ⟨(Nat.le_of_ble_eq_true rfl), (Nat.le_of_ble_eq_true rfl)⟩ ⟨by show cc + 1 ≤ room_1.cells; omega, by show ss + 6 ≤ room_1.slots; omega⟩ rfl rfl (Nat.le_of_ble_eq_true rfl) dL_law_2020 rfl ?_
                                                          refine wq_istore (L' := [some (.ref b0), some (.ref (b + 0)), some (.ref (b + 284)), some (.ref (b + 316)), some (.int (wq_I y4)), some (.int (wq_I r419)), none]) F dL_law_2023 (by decide) rfl rfl rfl ?_
                                                          refine wq_aload_n F dL_law_2025 rfl rfl rfl ?_
                                                          refine wq_aload_n F dL_law_2026 rfl rfl rfl ?_
                                                          refine wq_iload F dL_law_2027 rfl rfl ?_
                                                          refine wq_iconst (n := 1) F dL_law_2029 rfl ?_
                                                          refine wq_iadd F dL_law_2030 rfl ?_
                                                          obtain ⟨t422, ht422, wt422, h⟩ := wq_ix_some h
                                                          refine wq_sld F hX hbl hbA ht422 wt422 dL_law_2031 rfl ?_
                                                          obtain ⟨r423, S424, h1r423, h⟩ := wq_bd_some h
                                                          obtain ⟨S425, eS425, h⟩ := wq_lt_some h
                                                          refine wq_callV (As := [.int (wq_I (X t422))]) (k := 284) (n := 8) F lk_L_221 (wq_Ct_emb (o := 284) (ct_X9_sum h1r423) (Nat.le_of_ble_eq_true rfl) wq_EL_m (wq_mdl_at _)) ⟨(Nat.le_of_ble_eq_true rfl), (Nat.le_of_ble_eq_true rfl)⟩ ⟨by show cc + 1 ≤ room_1.cells; omega, by show ss + 6 ≤ room_1.slots; omega⟩ (Nat.le_of_ble_eq_true rfl) rfl rfl wq_AbX rfl rfl (Nat.le_of_ble_eq_true rfl) dL_law_2032 rfl ?_
                                                          refine wq_namS eS425 ?_
                                                          refine wq_istore (L' := [some (.ref b0), some (.ref (b + 0)), some (.ref (b + 284)), some (.ref (b + 316)), some (.int (wq_I y4)), some (.int (wq_I r419)), some (.int (wq_I r423))]) F dL_law_2035 (by decide) rfl rfl rfl ?_
                                                          refine wq_aload_n F dL_law_2037 rfl rfl rfl ?_
                                                          obtain ⟨r426, S427, h1r426, h⟩ := wq_bd_some h
                                                          obtain ⟨S428, eS428, h⟩ := wq_lt_some h
                                                          refine wq_callV (As := []) (k := 284) (n := 1) F lk_L_133 (wq_Ct_emb (o := 284) (ct_X9_thrown h1r426) (Nat.le_of_ble_eq_true rfl) wq_EL_m (wq_mdl_at _)) ⟨(Nat.le_of_ble_eq_true rfl), (Nat.le_of_ble_eq_true rfl)⟩ ⟨by show cc + 1 ≤ room_1.cells; omega, by show ss + 6 ≤ room_1.slots; omega⟩ (Nat.le_of_ble_eq_true rfl) rfl rfl wq_AbX rfl rfl (Nat.le_of_ble_eq_true rfl) dL_law_2038 rfl ?_
                                                          refine wq_namS eS428 ?_
                                                          refine wq_iload F dL_law_2041 rfl rfl ?_
                                                          refine wq_icmp_eq (tgt := 2048) F dL_law_2043 (by decide) rfl (fun hc => ?_) (fun hc => ?_)
                                                          · replace h := wq_ift hc h
                                                            refine wq_iload F dL_law_2048 rfl rfl ?_
                                                            refine wq_if_ne (tgt := 2065) F dL_law_2050 (by decide) rfl (fun hc => ?_) (fun hc => ?_)
                                                            · replace h := wq_iff hc h
                                                              refine wq_goto (tgt := 2456) F dL_law_2065 (by decide) ?_
                                                              refine wq_iinc (L' := [some (.ref b0), some (.ref (b + 0)), some (.ref (b + 284)), some (.ref (b + 316)), some (.int (wq_I (y4 + 6))), some (.int (wq_I r419)), some (.int (wq_I r423))]) F dL_law_2456 rfl (by decide) rfl rfl rfl ?_
                                                              refine wq_goto (tgt := 23) F dL_law_2459 (by decide) ?_
                                                              exact wq_wid (k := cc + 10) (n := ss + 60) (by omega) (by omega) <| wq_lsub [some (.ref b0), some (.ref (b + 0)), some (.ref (b + 284)), some (.ref (b + 316)), some (.int (wq_I (y4 + 6))), none, none] (by simp [wq_sub]) (hrec (y4 + 6) S428 h)
                                                            · replace h := wq_ift hc h
                                                              refine wq_aload_n F dL_law_2053 rfl rfl rfl ?_
                                                              refine wq_iconst (n := 0) F dL_law_2054 rfl ?_
                                                              obtain ⟨t429, ht429, wt429, h⟩ := wq_ix_some h
                                                              refine wq_lald F (Nat.le_of_ble_eq_true rfl) rfl ht429 wt429 dL_law_2055 rfl ?_
                                                              refine wq_iload F dL_law_2056 rfl rfl ?_
                                                              refine wq_i2l_ F dL_law_2058 rfl ?_
                                                              refine wq_lcmp F dL_law_2059 rfl ?_
                                                              refine wq_if_eq (tgt := 2065) F dL_law_2060 (by decide) rfl (fun hc => ?_) (fun hc => ?_)
                                                              · replace h := wq_ift hc h
                                                                refine wq_goto (tgt := 2456) F dL_law_2065 (by decide) ?_
                                                                refine wq_iinc (L' := [some (.ref b0), some (.ref (b + 0)), some (.ref (b + 284)), some (.ref (b + 316)), some (.int (wq_I (y4 + 6))), some (.int (wq_I r419)), some (.int (wq_I r423))]) F dL_law_2456 rfl (by decide) rfl rfl rfl ?_
                                                                refine wq_goto (tgt := 23) F dL_law_2459 (by decide) ?_
                                                                exact wq_wid (k := cc + 10) (n := ss + 60) (by omega) (by omega) <| wq_lsub [some (.ref b0), some (.ref (b + 0)), some (.ref (b + 284)), some (.ref (b + 316)), some (.int (wq_I (y4 + 6))), none, none] (by simp [wq_sub]) (hrec (y4 + 6) S428 h)
                                                              · replace h := wq_iff hc h
                                                                refine wq_iconst (n := 0) F dL_law_2063 rfl ?_
                                                                simp at h
                                                          · replace h := wq_iff hc h
                                                            refine wq_iconst (n := 0) F dL_law_2046 rfl ?_
                                                            simp at h
                                                        · replace h := wq_iff hc26 h
                                                          by_cases hc27 : wq_w (wq_and (X t1) 63) = 27
                                                          · replace h := wq_ift hc27 h
                                                            refine wq_tableIn (tgt := 2068) (off := 2028) F dL_law_40 (by omega) (by omega) (by rw [hc27]; rfl) (by decide) ?_
                                                            refine wq_aload_n F dL_law_2068 rfl rfl rfl ?_
                                                            refine wq_aload_n F dL_law_2069 rfl rfl rfl ?_
                                                            refine wq_iload F dL_law_2070 rfl rfl ?_
                                                            refine wq_iconst (n := 1) F dL_law_2072 rfl ?_
                                                            refine wq_iadd F dL_law_2073 rfl ?_
                                                            obtain ⟨t430, ht430, wt430, h⟩ := wq_ix_some h
                                                            refine wq_sld F hX hbl hbA ht430 wt430 dL_law_2074 rfl ?_
                                                            refine wq_aload_n F dL_law_2075 rfl rfl rfl ?_
                                                            obtain ⟨r431, S432, h1r431, h⟩ := wq_bd_some h
                                                            refine wq_callW (As := [.ref (b + 0), .int (wq_I (X t430)), .ref (b + 316)]) (mc := 1) (ms := 6) (n := 15) F K Kn lk_L_222 (ct_L_plainAnswer hlt h1r431) ⟨(Nat.le_of_ble_eq_true rfl), (Nat.le_of_ble_eq_true rfl)⟩ ⟨by show cc + 1 ≤ room_1.cells; omega, by show ss + 6 ≤ room_1.slots; omega⟩ rfl rfl (Nat.le_of_ble_eq_true rfl) dL_law_2076 rfl ?_
                                                            refine wq_istore (L' := [some (.ref b0), some (.ref (b + 0)), some (.ref (b + 284)), some (.ref (b + 316)), some (.int (wq_I y4)), some (.int (wq_I r431)), none]) F dL_law_2079 (by decide) rfl rfl rfl ?_
                                                            refine wq_aload_n F dL_law_2081 rfl rfl rfl ?_
                                                            refine wq_aload_n F dL_law_2082 rfl rfl rfl ?_
                                                            refine wq_iload F dL_law_2083 rfl rfl ?_
                                                            refine wq_iconst (n := 1) F dL_law_2085 rfl ?_
                                                            refine wq_iadd F dL_law_2086 rfl ?_
                                                            obtain ⟨t434, ht434, wt434, h⟩ := wq_ix_some h
                                                            refine wq_sld F hX hbl hbA ht434 wt434 dL_law_2087 rfl ?_
                                                            obtain ⟨r435, S436, h1r435, h⟩ := wq_bd_some h
                                                            obtain ⟨S437, eS437, h⟩ := wq_lt_some h
                                                            refine wq_callV (As := [.int (wq_I (X t434))]) (k := 284) (n := 9) F lk_L_224 (wq_Ct_emb (o := 284) (ct_X9_plainAnswer h1r435) (Nat.le_of_ble_eq_true rfl) wq_EL_m (wq_mdl_at _)) ⟨(Nat.le_of_ble_eq_true rfl), (Nat.le_of_ble_eq_true rfl)⟩ ⟨by show cc + 1 ≤ room_1.cells; omega, by show ss + 6 ≤ room_1.slots; omega⟩ (Nat.le_of_ble_eq_true rfl) rfl rfl wq_AbX rfl rfl (Nat.le_of_ble_eq_true rfl) dL_law_2088 rfl ?_
                                                            refine wq_namS eS437 ?_
                                                            refine wq_istore (L' := [some (.ref b0), some (.ref (b + 0)), some (.ref (b + 284)), some (.ref (b + 316)), some (.int (wq_I y4)), some (.int (wq_I r431)), some (.int (wq_I r435))]) F dL_law_2091 (by decide) rfl rfl rfl ?_
                                                            refine wq_aload_n F dL_law_2093 rfl rfl rfl ?_
                                                            obtain ⟨r438, S439, h1r438, h⟩ := wq_bd_some h
                                                            obtain ⟨S440, eS440, h⟩ := wq_lt_some h
                                                            refine wq_callV (As := []) (k := 284) (n := 1) F lk_L_133 (wq_Ct_emb (o := 284) (ct_X9_thrown h1r438) (Nat.le_of_ble_eq_true rfl) wq_EL_m (wq_mdl_at _)) ⟨(Nat.le_of_ble_eq_true rfl), (Nat.le_of_ble_eq_true rfl)⟩ ⟨by show cc + 1 ≤ room_1.cells; omega, by show ss + 6 ≤ room_1.slots; omega⟩ (Nat.le_of_ble_eq_true rfl) rfl rfl wq_AbX rfl rfl (Nat.le_of_ble_eq_true rfl) dL_law_2094 rfl ?_
                                                            refine wq_namS eS440 ?_
                                                            refine wq_iload F dL_law_2097 rfl rfl ?_
                                                            refine wq_icmp_eq (tgt := 2104) F dL_law_2099 (by decide) rfl (fun hc => ?_) (fun hc => ?_)
                                                            · replace h := wq_ift hc h
                                                              refine wq_iload F dL_law_2104 rfl rfl ?_
                                                              refine wq_if_ne (tgt := 2121) F dL_law_2106 (by decide) rfl (fun hc => ?_) (fun hc => ?_)
                                                              · replace h := wq_iff hc h
                                                                refine wq_goto (tgt := 2456) F dL_law_2121 (by decide) ?_
                                                                refine wq_iinc (L' := [some (.ref b0), some (.ref (b + 0)), some (.ref (b + 284)), some (.ref (b + 316)), some (.int (wq_I (y4 + 6))), some (.int (wq_I r431)), some (.int (wq_I r435))]) F dL_law_2456 rfl (by decide) rfl rfl rfl ?_
                                                                refine wq_goto (tgt := 23) F dL_law_2459 (by decide) ?_
                                                                exact wq_wid (k := cc + 10) (n := ss + 60) (by omega) (by omega) <| wq_lsub [some (.ref b0), some (.ref (b + 0)), some (.ref (b + 284)), some (.ref (b + 316)), some (.int (wq_I (y4 + 6))), none, none] (by simp [wq_sub]) (hrec (y4 + 6) S440 h)
                                                              · replace h := wq_ift hc h
                                                                refine wq_aload_n F dL_law_2109 rfl rfl rfl ?_
                                                                refine wq_iconst (n := 0) F dL_law_2110 rfl ?_
                                                                obtain ⟨t441, ht441, wt441, h⟩ := wq_ix_some h
                                                                refine wq_lald F (Nat.le_of_ble_eq_true rfl) rfl ht441 wt441 dL_law_2111 rfl ?_
                                                                refine wq_iload F dL_law_2112 rfl rfl ?_
                                                                refine wq_i2l_ F dL_law_2114 rfl ?_
                                                                refine wq_lcmp F dL_law_2115 rfl ?_
                                                                refine wq_if_eq (tgt := 2121) F dL_law_2116 (by decide) rfl (fun hc => ?_) (fun hc => ?_)
                                                                · replace h := wq_ift hc h
                                                                  refine wq_goto (tgt := 2456) F dL_law_2121 (by decide) ?_
                                                                  refine wq_iinc (L' := [some (.ref b0), some (.ref (b + 0)), some (.ref (b + 284)), some (.ref (b + 316)), some (.int (wq_I (y4 + 6))), some (.int (wq_I r431)), some (.int (wq_I r435))]) F dL_law_2456 rfl (by decide) rfl rfl rfl ?_
                                                                  refine wq_goto (tgt := 23) F dL_law_2459 (by decide) ?_
                                                                  exact wq_wid (k := cc + 10) (n := ss + 60) (by omega) (by omega) <| wq_lsub [some (.ref b0), some (.ref (b + 0)), some (.ref (b + 284)), some (.ref (b + 316)), some (.int (wq_I (y4 + 6))), none, none] (by simp [wq_sub]) (hrec (y4 + 6) S440 h)
                                                                · replace h := wq_iff hc h
                                                                  refine wq_iconst (n := 0) F dL_law_2119 rfl ?_
                                                                  simp at h
                                                            · replace h := wq_iff hc h
                                                              refine wq_iconst (n := 0) F dL_law_2102 rfl ?_
                                                              simp at h
                                                          · replace h := wq_iff hc27 h
                                                            by_cases hc28 : wq_w (wq_and (X t1) 63) = 28
                                                            · replace h := wq_ift hc28 h
                                                              refine wq_tableIn (tgt := 2124) (off := 2084) F dL_law_40 (by omega) (by omega) (by rw [hc28]; rfl) (by decide) ?_
                                                              refine wq_aload_n F dL_law_2124 rfl rfl rfl ?_
                                                              refine wq_aload_n F dL_law_2125 rfl rfl rfl ?_
                                                              refine wq_iload F dL_law_2126 rfl rfl ?_
                                                              refine wq_iconst (n := 1) F dL_law_2128 rfl ?_
                                                              refine wq_iadd F dL_law_2129 rfl ?_
                                                              obtain ⟨t442, ht442, wt442, h⟩ := wq_ix_some h
                                                              refine wq_sld F hX hbl hbA ht442 wt442 dL_law_2130 rfl ?_
                                                              refine wq_aload_n F dL_law_2131 rfl rfl rfl ?_
                                                              obtain ⟨r443, S444, h1r443, h⟩ := wq_bd_some h
                                                              refine wq_callW (As := [.ref (b + 0), .int (wq_I (X t442)), .ref (b + 316)]) (mc := 1) (ms := 6) (n := 15) F K Kn lk_L_225 (ct_L_plainSum hlt h1r443) ⟨(Nat.le_of_ble_eq_true rfl), (Nat.le_of_ble_eq_true rfl)⟩ ⟨by show cc + 1 ≤ room_1.cells; omega, by show ss + 6 ≤ room_1.slots; omega⟩ rfl rfl (Nat.le_of_ble_eq_true rfl) dL_law_2132 rfl ?_
                                                              refine wq_istore (L' := [some (.ref b0), some (.ref (b + 0)), some (.ref (b + 284)), some (.ref (b + 316)), some (.int (wq_I y4)), some (.int (wq_I r443)), none]) F dL_law_2135 (by decide) rfl rfl rfl ?_
                                                              refine wq_aload_n F dL_law_2137 rfl rfl rfl ?_
                                                              refine wq_aload_n F dL_law_2138 rfl rfl rfl ?_
                                                              refine wq_iload F dL_law_2139 rfl rfl ?_
                                                              refine wq_iconst (n := 1) F dL_law_2141 rfl ?_
                                                              refine wq_iadd F dL_law_2142 rfl ?_
                                                              obtain ⟨t446, ht446, wt446, h⟩ := wq_ix_some h
                                                              refine wq_sld F hX hbl hbA ht446 wt446 dL_law_2143 rfl ?_
                                                              obtain ⟨r447, S448, h1r447, h⟩ := wq_bd_some h
                                                              obtain ⟨S449, eS449, h⟩ := wq_lt_some h
                                                              refine wq_callV (As := [.int (wq_I (X t446))]) (k := 284) (n := 9) F lk_L_227 (wq_Ct_emb (o := 284) (ct_X9_plainSum h1r447) (Nat.le_of_ble_eq_true rfl) wq_EL_m (wq_mdl_at _)) ⟨(Nat.le_of_ble_eq_true rfl), (Nat.le_of_ble_eq_true rfl)⟩ ⟨by show cc + 1 ≤ room_1.cells; omega, by show ss + 6 ≤ room_1.slots; omega⟩ (Nat.le_of_ble_eq_true rfl) rfl rfl wq_AbX rfl rfl (Nat.le_of_ble_eq_true rfl) dL_law_2144 rfl ?_
                                                              refine wq_namS eS449 ?_
                                                              refine wq_istore (L' := [some (.ref b0), some (.ref (b + 0)), some (.ref (b + 284)), some (.ref (b + 316)), some (.int (wq_I y4)), some (.int (wq_I r443)), some (.int (wq_I r447))]) F dL_law_2147 (by decide) rfl rfl rfl ?_
                                                              refine wq_aload_n F dL_law_2149 rfl rfl rfl ?_
                                                              obtain ⟨r450, S451, h1r450, h⟩ := wq_bd_some h
                                                              obtain ⟨S452, eS452, h⟩ := wq_lt_some h
                                                              refine wq_callV (As := []) (k := 284) (n := 1) F lk_L_133 (wq_Ct_emb (o := 284) (ct_X9_thrown h1r450) (Nat.le_of_ble_eq_true rfl) wq_EL_m (wq_mdl_at _)) ⟨(Nat.le_of_ble_eq_true rfl), (Nat.le_of_ble_eq_true rfl)⟩ ⟨by show cc + 1 ≤ room_1.cells; omega, by show ss + 6 ≤ room_1.slots; omega⟩ (Nat.le_of_ble_eq_true rfl) rfl rfl wq_AbX rfl rfl (Nat.le_of_ble_eq_true rfl) dL_law_2150 rfl ?_
                                                              refine wq_namS eS452 ?_
                                                              refine wq_iload F dL_law_2153 rfl rfl ?_
                                                              refine wq_icmp_eq (tgt := 2160) F dL_law_2155 (by decide) rfl (fun hc => ?_) (fun hc => ?_)
                                                              · replace h := wq_ift hc h
                                                                refine wq_iload F dL_law_2160 rfl rfl ?_
                                                                refine wq_if_ne (tgt := 2177) F dL_law_2162 (by decide) rfl (fun hc => ?_) (fun hc => ?_)
                                                                · replace h := wq_iff hc h
                                                                  refine wq_goto (tgt := 2456) F dL_law_2177 (by decide) ?_
                                                                  refine wq_iinc (L' := [some (.ref b0), some (.ref (b + 0)), some (.ref (b + 284)), some (.ref (b + 316)), some (.int (wq_I (y4 + 6))), some (.int (wq_I r443)), some (.int (wq_I r447))]) F dL_law_2456 rfl (by decide) rfl rfl rfl ?_
                                                                  refine wq_goto (tgt := 23) F dL_law_2459 (by decide) ?_
                                                                  exact wq_wid (k := cc + 10) (n := ss + 60) (by omega) (by omega) <| wq_lsub [some (.ref b0), some (.ref (b + 0)), some (.ref (b + 284)), some (.ref (b + 316)), some (.int (wq_I (y4 + 6))), none, none] (by simp [wq_sub]) (hrec (y4 + 6) S452 h)
                                                                · replace h := wq_ift hc h
                                                                  refine wq_aload_n F dL_law_2165 rfl rfl rfl ?_
                                                                  refine wq_iconst (n := 0) F dL_law_2166 rfl ?_
                                                                  obtain ⟨t453, ht453, wt453, h⟩ := wq_ix_some h
                                                                  refine wq_lald F (Nat.le_of_ble_eq_true rfl) rfl ht453 wt453 dL_law_2167 rfl ?_
                                                                  refine wq_iload F dL_law_2168 rfl rfl ?_
                                                                  refine wq_i2l_ F dL_law_2170 rfl ?_
                                                                  refine wq_lcmp F dL_law_2171 rfl ?_
                                                                  refine wq_if_eq (tgt := 2177) F dL_law_2172 (by decide) rfl (fun hc => ?_) (fun hc => ?_)
                                                                  · replace h := wq_ift hc h
                                                                    refine wq_goto (tgt := 2456) F dL_law_2177 (by decide) ?_
                                                                    refine wq_iinc (L' := [some (.ref b0), some (.ref (b + 0)), some (.ref (b + 284)), some (.ref (b + 316)), some (.int (wq_I (y4 + 6))), some (.int (wq_I r443)), some (.int (wq_I r447))]) F dL_law_2456 rfl (by decide) rfl rfl rfl ?_
                                                                    refine wq_goto (tgt := 23) F dL_law_2459 (by decide) ?_
                                                                    exact wq_wid (k := cc + 10) (n := ss + 60) (by omega) (by omega) <| wq_lsub [some (.ref b0), some (.ref (b + 0)), some (.ref (b + 284)), some (.ref (b + 316)), some (.int (wq_I (y4 + 6))), none, none] (by simp [wq_sub]) (hrec (y4 + 6) S452 h)
                                                                  · replace h := wq_iff hc h
                                                                    refine wq_iconst (n := 0) F dL_law_2175 rfl ?_
                                                                    simp at h
                                                              · replace h := wq_iff hc h
                                                                refine wq_iconst (n := 0) F dL_law_2158 rfl ?_
                                                                simp at h
                                                            · replace h := wq_iff hc28 h
                                                              by_cases hc29 : wq_w (wq_and (X t1) 63) = 29
                                                              · replace h := wq_ift hc29 h
                                                                refine wq_tableIn (tgt := 2180) (off := 2140) F dL_law_40 (by omega) (by omega) (by rw [hc29]; rfl) (by decide) ?_
                                                                refine wq_aload_n F dL_law_2180 rfl rfl rfl ?_
                                                                refine wq_aload_n F dL_law_2181 rfl rfl rfl ?_
                                                                refine wq_iload F dL_law_2182 rfl rfl ?_
                                                                refine wq_iconst (n := 1) F dL_law_2184 rfl ?_
                                                                refine wq_iadd F dL_law_2185 rfl ?_
                                                                obtain ⟨t454, ht454, wt454, h⟩ := wq_ix_some h
                                                                refine wq_sld F hX hbl hbA ht454 wt454 dL_law_2186 rfl ?_
                                                                refine wq_aload_n F dL_law_2187 rfl rfl rfl ?_
                                                                obtain ⟨r455, S456, h1r455, h⟩ := wq_bd_some h
                                                                refine wq_callW (As := [.ref (b + 0), .int (wq_I (X t454)), .ref (b + 316)]) (mc := 1) (ms := 6) (n := 15) F K Kn lk_L_228 (ct_L_night hlt h1r455) ⟨(Nat.le_of_ble_eq_true rfl), (Nat.le_of_ble_eq_true rfl)⟩ ⟨by show cc + 1 ≤ room_1.cells; omega, by show ss + 6 ≤ room_1.slots; omega⟩ rfl rfl (Nat.le_of_ble_eq_true rfl) dL_law_2188 rfl ?_
                                                                refine wq_istore (L' := [some (.ref b0), some (.ref (b + 0)), some (.ref (b + 284)), some (.ref (b + 316)), some (.int (wq_I y4)), some (.int (wq_I r455)), none]) F dL_law_2191 (by decide) rfl rfl rfl ?_
                                                                refine wq_aload_n F dL_law_2193 rfl rfl rfl ?_
                                                                refine wq_aload_n F dL_law_2194 rfl rfl rfl ?_
                                                                refine wq_iload F dL_law_2195 rfl rfl ?_
                                                                refine wq_iconst (n := 1) F dL_law_2197 rfl ?_
                                                                refine wq_iadd F dL_law_2198 rfl ?_
                                                                obtain ⟨t458, ht458, wt458, h⟩ := wq_ix_some h
                                                                refine wq_sld F hX hbl hbA ht458 wt458 dL_law_2199 rfl ?_
                                                                obtain ⟨r459, S460, h1r459, h⟩ := wq_bd_some h
                                                                obtain ⟨S461, eS461, h⟩ := wq_lt_some h
                                                                refine wq_callV (As := [.int (wq_I (X t458))]) (k := 284) (n := 9) F lk_L_230 (wq_Ct_emb (o := 284) (ct_X9_night h1r459) (Nat.le_of_ble_eq_true rfl) wq_EL_m (wq_mdl_at _)) ⟨(Nat.le_of_ble_eq_true rfl), (Nat.le_of_ble_eq_true rfl)⟩ ⟨by show cc + 1 ≤ room_1.cells; omega, by show ss + 6 ≤ room_1.slots; omega⟩ (Nat.le_of_ble_eq_true rfl) rfl rfl wq_AbX rfl rfl (Nat.le_of_ble_eq_true rfl) dL_law_2200 rfl ?_
                                                                refine wq_namS eS461 ?_
                                                                refine wq_istore (L' := [some (.ref b0), some (.ref (b + 0)), some (.ref (b + 284)), some (.ref (b + 316)), some (.int (wq_I y4)), some (.int (wq_I r455)), some (.int (wq_I r459))]) F dL_law_2203 (by decide) rfl rfl rfl ?_
                                                                refine wq_aload_n F dL_law_2205 rfl rfl rfl ?_
                                                                obtain ⟨r462, S463, h1r462, h⟩ := wq_bd_some h
                                                                obtain ⟨S464, eS464, h⟩ := wq_lt_some h
                                                                refine wq_callV (As := []) (k := 284) (n := 1) F lk_L_133 (wq_Ct_emb (o := 284) (ct_X9_thrown h1r462) (Nat.le_of_ble_eq_true rfl) wq_EL_m (wq_mdl_at _)) ⟨(Nat.le_of_ble_eq_true rfl), (Nat.le_of_ble_eq_true rfl)⟩ ⟨by show cc + 1 ≤ room_1.cells; omega, by show ss + 6 ≤ room_1.slots; omega⟩ (Nat.le_of_ble_eq_true rfl) rfl rfl wq_AbX rfl rfl (Nat.le_of_ble_eq_true rfl) dL_law_2206 rfl ?_
                                                                refine wq_namS eS464 ?_
                                                                refine wq_iload F dL_law_2209 rfl rfl ?_
                                                                refine wq_icmp_eq (tgt := 2216) F dL_law_2211 (by decide) rfl (fun hc => ?_) (fun hc => ?_)
                                                                · replace h := wq_ift hc h
                                                                  refine wq_iload F dL_law_2216 rfl rfl ?_
                                                                  refine wq_if_ne (tgt := 2233) F dL_law_2218 (by decide) rfl (fun hc => ?_) (fun hc => ?_)
                                                                  · replace h := wq_iff hc h
                                                                    refine wq_goto (tgt := 2456) F dL_law_2233 (by decide) ?_
                                                                    refine wq_iinc (L' := [some (.ref b0), some (.ref (b + 0)), some (.ref (b + 284)), some (.ref (b + 316)), some (.int (wq_I (y4 + 6))), some (.int (wq_I r455)), some (.int (wq_I r459))]) F dL_law_2456 rfl (by decide) rfl rfl rfl ?_
                                                                    refine wq_goto (tgt := 23) F dL_law_2459 (by decide) ?_
                                                                    exact wq_wid (k := cc + 10) (n := ss + 60) (by omega) (by omega) <| wq_lsub [some (.ref b0), some (.ref (b + 0)), some (.ref (b + 284)), some (.ref (b + 316)), some (.int (wq_I (y4 + 6))), none, none] (by simp [wq_sub]) (hrec (y4 + 6) S464 h)
                                                                  · replace h := wq_ift hc h
                                                                    refine wq_aload_n F dL_law_2221 rfl rfl rfl ?_
                                                                    refine wq_iconst (n := 0) F dL_law_2222 rfl ?_
                                                                    obtain ⟨t465, ht465, wt465, h⟩ := wq_ix_some h
                                                                    refine wq_lald F (Nat.le_of_ble_eq_true rfl) rfl ht465 wt465 dL_law_2223 rfl ?_
                                                                    refine wq_iload F dL_law_2224 rfl rfl ?_
                                                                    refine wq_i2l_ F dL_law_2226 rfl ?_
                                                                    refine wq_lcmp F dL_law_2227 rfl ?_
                                                                    refine wq_if_eq (tgt := 2233) F dL_law_2228 (by decide) rfl (fun hc => ?_) (fun hc => ?_)
                                                                    · replace h := wq_ift hc h
                                                                      refine wq_goto (tgt := 2456) F dL_law_2233 (by decide) ?_
                                                                      refine wq_iinc (L' := [some (.ref b0), some (.ref (b + 0)), some (.ref (b + 284)), some (.ref (b + 316)), some (.int (wq_I (y4 + 6))), some (.int (wq_I r455)), some (.int (wq_I r459))]) F dL_law_2456 rfl (by decide) rfl rfl rfl ?_
                                                                      refine wq_goto (tgt := 23) F dL_law_2459 (by decide) ?_
                                                                      exact wq_wid (k := cc + 10) (n := ss + 60) (by omega) (by omega) <| wq_lsub [some (.ref b0), some (.ref (b + 0)), some (.ref (b + 284)), some (.ref (b + 316)), some (.int (wq_I (y4 + 6))), none, none] (by simp [wq_sub]) (hrec (y4 + 6) S464 h)
                                                                    · replace h := wq_iff hc h
                                                                      refine wq_iconst (n := 0) F dL_law_2231 rfl ?_
                                                                      simp at h
                                                                · replace h := wq_iff hc h
                                                                  refine wq_iconst (n := 0) F dL_law_2214 rfl ?_
                                                                  simp at h
                                                              · replace h := wq_iff hc29 h
                                                                by_cases hc30 : wq_w (wq_and (X t1) 63) = 30
                                                                · replace h := wq_ift hc30 h
                                                                  refine wq_tableIn (tgt := 2236) (off := 2196) F dL_law_40 (by omega) (by omega) (by rw [hc30]; rfl) (by decide) ?_
                                                                  refine wq_aload_n F dL_law_2236 rfl rfl rfl ?_
                                                                  obtain ⟨r466, S467, h1r466, h⟩ := wq_bd_some h
                                                                  obtain ⟨S468, eS468, h⟩ := wq_lt_some h
                                                                  refine wq_callV (As := []) (k := 0) (n := 1) F lk_L_231 (wq_Ct_emb (o := 0) (ct_X8_nights h1r466) (Nat.le_of_ble_eq_true rfl) wq_EL_c (wq_cls_at _)) ⟨(Nat.le_of_ble_eq_true rfl), (Nat.le_of_ble_eq_true rfl)⟩ ⟨by show cc ≤ room_1.cells; omega, by show ss ≤ room_1.slots; omega⟩ (Nat.le_of_ble_eq_true rfl) rfl rfl wq_AbX rfl rfl (Nat.le_of_ble_eq_true rfl) dL_law_2237 rfl ?_
                                                                  refine wq_namS eS468 ?_
                                                                  refine wq_aload_n F dL_law_2240 rfl rfl rfl ?_
                                                                  obtain ⟨r469, S470, h1r469, h⟩ := wq_bd_some h
                                                                  obtain ⟨S471, eS471, h⟩ := wq_lt_some h
                                                                  refine wq_callV (As := []) (k := 284) (n := 2) F lk_L_234 (wq_Ct_emb (o := 284) (ct_X9_nights h1r469) (Nat.le_of_ble_eq_true rfl) wq_EL_m (wq_mdl_at _)) ⟨(Nat.le_of_ble_eq_true rfl), (Nat.le_of_ble_eq_true rfl)⟩ ⟨by show cc ≤ room_1.cells; omega, by show ss ≤ room_1.slots; omega⟩ (Nat.le_of_ble_eq_true rfl) rfl rfl wq_AbX rfl rfl (Nat.le_of_ble_eq_true rfl) dL_law_2241 rfl ?_
                                                                  refine wq_namS eS471 ?_
                                                                  refine wq_icmp_eq (tgt := 2456) F dL_law_2244 (by decide) rfl (fun hc => ?_) (fun hc => ?_)
                                                                  · replace h := wq_ift hc h
                                                                    refine wq_iinc (L' := [some (.ref b0), some (.ref (b + 0)), some (.ref (b + 284)), some (.ref (b + 316)), some (.int (wq_I (y4 + 6))), none, none]) F dL_law_2456 rfl (by decide) rfl rfl rfl ?_
                                                                    refine wq_goto (tgt := 23) F dL_law_2459 (by decide) ?_
                                                                    exact wq_wid (k := cc + 10) (n := ss + 60) (by omega) (by omega) <| wq_lsub [some (.ref b0), some (.ref (b + 0)), some (.ref (b + 284)), some (.ref (b + 316)), some (.int (wq_I (y4 + 6))), none, none] (by simp [wq_sub]) (hrec (y4 + 6) S471 h)
                                                                  · replace h := wq_iff hc h
                                                                    refine wq_iconst (n := 0) F dL_law_2247 rfl ?_
                                                                    simp at h
                                                                · replace h := wq_iff hc30 h
                                                                  by_cases hc31 : wq_w (wq_and (X t1) 63) = 31
                                                                  · replace h := wq_ift hc31 h
                                                                    refine wq_tableIn (tgt := 2249) (off := 2209) F dL_law_40 (by omega) (by omega) (by rw [hc31]; rfl) (by decide) ?_
                                                                    refine wq_aload_n F dL_law_2249 rfl rfl rfl ?_
                                                                    obtain ⟨r472, S473, h1r472, h⟩ := wq_bd_some h
                                                                    obtain ⟨S474, eS474, h⟩ := wq_lt_some h
                                                                    refine wq_callV (As := []) (k := 0) (n := 1) F lk_L_235 (wq_Ct_emb (o := 0) (ct_X8_paid h1r472) (Nat.le_of_ble_eq_true rfl) wq_EL_c (wq_cls_at _)) ⟨(Nat.le_of_ble_eq_true rfl), (Nat.le_of_ble_eq_true rfl)⟩ ⟨by show cc ≤ room_1.cells; omega, by show ss ≤ room_1.slots; omega⟩ (Nat.le_of_ble_eq_true rfl) rfl rfl wq_AbX rfl rfl (Nat.le_of_ble_eq_true rfl) dL_law_2250 rfl ?_
                                                                    refine wq_namS eS474 ?_
                                                                    refine wq_aload_n F dL_law_2253 rfl rfl rfl ?_
                                                                    obtain ⟨r475, S476, h1r475, h⟩ := wq_bd_some h
                                                                    obtain ⟨S477, eS477, h⟩ := wq_lt_some h
                                                                    refine wq_callV (As := []) (k := 284) (n := 2) F lk_L_238 (wq_Ct_emb (o := 284) (ct_X9_paid h1r475) (Nat.le_of_ble_eq_true rfl) wq_EL_m (wq_mdl_at _)) ⟨(Nat.le_of_ble_eq_true rfl), (Nat.le_of_ble_eq_true rfl)⟩ ⟨by show cc ≤ room_1.cells; omega, by show ss ≤ room_1.slots; omega⟩ (Nat.le_of_ble_eq_true rfl) rfl rfl wq_AbX rfl rfl (Nat.le_of_ble_eq_true rfl) dL_law_2254 rfl ?_
                                                                    refine wq_namS eS477 ?_
                                                                    refine wq_icmp_eq (tgt := 2456) F dL_law_2257 (by decide) rfl (fun hc => ?_) (fun hc => ?_)
                                                                    · replace h := wq_ift hc h
                                                                      refine wq_iinc (L' := [some (.ref b0), some (.ref (b + 0)), some (.ref (b + 284)), some (.ref (b + 316)), some (.int (wq_I (y4 + 6))), none, none]) F dL_law_2456 rfl (by decide) rfl rfl rfl ?_
                                                                      refine wq_goto (tgt := 23) F dL_law_2459 (by decide) ?_
                                                                      exact wq_wid (k := cc + 10) (n := ss + 60) (by omega) (by omega) <| wq_lsub [some (.ref b0), some (.ref (b + 0)), some (.ref (b + 284)), some (.ref (b + 316)), some (.int (wq_I (y4 + 6))), none, none] (by simp [wq_sub]) (hrec (y4 + 6) S477 h)
                                                                    · replace h := wq_iff hc h
                                                                      refine wq_iconst (n := 0) F dL_law_2260 rfl ?_
                                                                      simp at h
                                                                  · replace h := wq_iff hc31 h
                                                                    by_cases hc32 : wq_w (wq_and (X t1) 63) = 32
                                                                    · replace h := wq_ift hc32 h
                                                                      refine wq_tableIn (tgt := 2262) (off := 2222) F dL_law_40 (by omega) (by omega) (by rw [hc32]; rfl) (by decide) ?_
                                                                      refine wq_aload_n F dL_law_2262 rfl rfl rfl ?_
                                                                      obtain ⟨r478, S479, h1r478, h⟩ := wq_bd_some h
                                                                      obtain ⟨S480, eS480, h⟩ := wq_lt_some h
                                                                      refine wq_callV (As := []) (k := 0) (n := 1) F lk_L_239 (wq_Ct_emb (o := 0) (ct_X8_left h1r478) (Nat.le_of_ble_eq_true rfl) wq_EL_c (wq_cls_at _)) ⟨(Nat.le_of_ble_eq_true rfl), (Nat.le_of_ble_eq_true rfl)⟩ ⟨by show cc ≤ room_1.cells; omega, by show ss ≤ room_1.slots; omega⟩ (Nat.le_of_ble_eq_true rfl) rfl rfl wq_AbX rfl rfl (Nat.le_of_ble_eq_true rfl) dL_law_2263 rfl ?_
                                                                      refine wq_namS eS480 ?_
                                                                      refine wq_aload_n F dL_law_2266 rfl rfl rfl ?_
                                                                      obtain ⟨r481, S482, h1r481, h⟩ := wq_bd_some h
                                                                      obtain ⟨S483, eS483, h⟩ := wq_lt_some h
                                                                      refine wq_callV (As := []) (k := 284) (n := 2) F lk_L_242 (wq_Ct_emb (o := 284) (ct_X9_left h1r481) (Nat.le_of_ble_eq_true rfl) wq_EL_m (wq_mdl_at _)) ⟨(Nat.le_of_ble_eq_true rfl), (Nat.le_of_ble_eq_true rfl)⟩ ⟨by show cc ≤ room_1.cells; omega, by show ss ≤ room_1.slots; omega⟩ (Nat.le_of_ble_eq_true rfl) rfl rfl wq_AbX rfl rfl (Nat.le_of_ble_eq_true rfl) dL_law_2267 rfl ?_
                                                                      refine wq_namS eS483 ?_
                                                                      refine wq_icmp_eq (tgt := 2456) F dL_law_2270 (by decide) rfl (fun hc => ?_) (fun hc => ?_)
                                                                      · replace h := wq_ift hc h
                                                                        refine wq_iinc (L' := [some (.ref b0), some (.ref (b + 0)), some (.ref (b + 284)), some (.ref (b + 316)), some (.int (wq_I (y4 + 6))), none, none]) F dL_law_2456 rfl (by decide) rfl rfl rfl ?_
                                                                        refine wq_goto (tgt := 23) F dL_law_2459 (by decide) ?_
                                                                        exact wq_wid (k := cc + 10) (n := ss + 60) (by omega) (by omega) <| wq_lsub [some (.ref b0), some (.ref (b + 0)), some (.ref (b + 284)), some (.ref (b + 316)), some (.int (wq_I (y4 + 6))), none, none] (by simp [wq_sub]) (hrec (y4 + 6) S483 h)
                                                                      · replace h := wq_iff hc h
                                                                        refine wq_iconst (n := 0) F dL_law_2273 rfl ?_
                                                                        simp at h
                                                                    · replace h := wq_iff hc32 h
                                                                      by_cases hc33 : wq_w (wq_and (X t1) 63) = 33
                                                                      · replace h := wq_ift hc33 h
                                                                        refine wq_tableIn (tgt := 2275) (off := 2235) F dL_law_40 (by omega) (by omega) (by rw [hc33]; rfl) (by decide) ?_
                                                                        refine wq_aload_n F dL_law_2275 rfl rfl rfl ?_
                                                                        obtain ⟨r484, S485, h1r484, h⟩ := wq_bd_some h
                                                                        obtain ⟨S486, eS486, h⟩ := wq_lt_some h
                                                                        refine wq_callV (As := []) (k := 0) (n := 1) F lk_L_243 (wq_Ct_emb (o := 0) (ct_X8_owed h1r484) (Nat.le_of_ble_eq_true rfl) wq_EL_c (wq_cls_at _)) ⟨(Nat.le_of_ble_eq_true rfl), (Nat.le_of_ble_eq_true rfl)⟩ ⟨by show cc ≤ room_1.cells; omega, by show ss ≤ room_1.slots; omega⟩ (Nat.le_of_ble_eq_true rfl) rfl rfl wq_AbX rfl rfl (Nat.le_of_ble_eq_true rfl) dL_law_2276 rfl ?_
                                                                        refine wq_namS eS486 ?_
                                                                        refine wq_aload_n F dL_law_2279 rfl rfl rfl ?_
                                                                        obtain ⟨r487, S488, h1r487, h⟩ := wq_bd_some h
                                                                        obtain ⟨S489, eS489, h⟩ := wq_lt_some h
                                                                        refine wq_callV (As := []) (k := 284) (n := 2) F lk_L_246 (wq_Ct_emb (o := 284) (ct_X9_owed h1r487) (Nat.le_of_ble_eq_true rfl) wq_EL_m (wq_mdl_at _)) ⟨(Nat.le_of_ble_eq_true rfl), (Nat.le_of_ble_eq_true rfl)⟩ ⟨by show cc ≤ room_1.cells; omega, by show ss ≤ room_1.slots; omega⟩ (Nat.le_of_ble_eq_true rfl) rfl rfl wq_AbX rfl rfl (Nat.le_of_ble_eq_true rfl) dL_law_2280 rfl ?_
                                                                        refine wq_namS eS489 ?_
                                                                        refine wq_icmp_eq (tgt := 2456) F dL_law_2283 (by decide) rfl (fun hc => ?_) (fun hc => ?_)
                                                                        · replace h := wq_ift hc h
                                                                          refine wq_iinc (L' := [some (.ref b0), some (.ref (b + 0)), some (.ref (b + 284)), some (.ref (b + 316)), some (.int (wq_I (y4 + 6))), none, none]) F dL_law_2456 rfl (by decide) rfl rfl rfl ?_
                                                                          refine wq_goto (tgt := 23) F dL_law_2459 (by decide) ?_
                                                                          exact wq_wid (k := cc + 10) (n := ss + 60) (by omega) (by omega) <| wq_lsub [some (.ref b0), some (.ref (b + 0)), some (.ref (b + 284)), some (.ref (b + 316)), some (.int (wq_I (y4 + 6))), none, none] (by simp [wq_sub]) (hrec (y4 + 6) S489 h)
                                                                        · replace h := wq_iff hc h
                                                                          refine wq_iconst (n := 0) F dL_law_2286 rfl ?_
                                                                          simp at h
                                                                      · replace h := wq_iff hc33 h
                                                                        by_cases hc34 : wq_w (wq_and (X t1) 63) = 34
                                                                        · replace h := wq_ift hc34 h
                                                                          refine wq_tableIn (tgt := 2288) (off := 2248) F dL_law_40 (by omega) (by omega) (by rw [hc34]; rfl) (by decide) ?_
                                                                          refine wq_aload_n F dL_law_2288 rfl rfl rfl ?_
                                                                          refine wq_aload_n F dL_law_2289 rfl rfl rfl ?_
                                                                          refine wq_iload F dL_law_2290 rfl rfl ?_
                                                                          refine wq_iconst (n := 1) F dL_law_2292 rfl ?_
                                                                          refine wq_iadd F dL_law_2293 rfl ?_
                                                                          obtain ⟨t490, ht490, wt490, h⟩ := wq_ix_some h
                                                                          refine wq_sld F hX hbl hbA ht490 wt490 dL_law_2294 rfl ?_
                                                                          refine wq_aload_n F dL_law_2295 rfl rfl rfl ?_
                                                                          obtain ⟨r491, S492, h1r491, h⟩ := wq_bd_some h
                                                                          refine wq_callW (As := [.ref (b + 0), .int (wq_I (X t490)), .ref (b + 316)]) (mc := 1) (ms := 6) (n := 9) F K Kn lk_L_247 (ct_L_kept hlt h1r491) ⟨(Nat.le_of_ble_eq_true rfl), (Nat.le_of_ble_eq_true rfl)⟩ ⟨by show cc + 1 ≤ room_1.cells; omega, by show ss + 6 ≤ room_1.slots; omega⟩ rfl rfl (Nat.le_of_ble_eq_true rfl) dL_law_2296 rfl ?_
                                                                          refine wq_istore (L' := [some (.ref b0), some (.ref (b + 0)), some (.ref (b + 284)), some (.ref (b + 316)), some (.int (wq_I y4)), some (.int (wq_I r491)), none]) F dL_law_2299 (by decide) rfl rfl rfl ?_
                                                                          refine wq_aload_n F dL_law_2301 rfl rfl rfl ?_
                                                                          refine wq_aload_n F dL_law_2302 rfl rfl rfl ?_
                                                                          refine wq_iload F dL_law_2303 rfl rfl ?_
                                                                          refine wq_iconst (n := 1) F dL_law_2305 rfl ?_
                                                                          refine wq_iadd F dL_law_2306 rfl ?_
                                                                          obtain ⟨t494, ht494, wt494, h⟩ := wq_ix_some h
                                                                          refine wq_sld F hX hbl hbA ht494 wt494 dL_law_2307 rfl ?_
                                                                          obtain ⟨r495, S496, h1r495, h⟩ := wq_bd_some h
                                                                          obtain ⟨S497, eS497, h⟩ := wq_lt_some h
                                                                          refine wq_callV (As := [.int (wq_I (X t494))]) (k := 284) (n := 3) F lk_L_249 (wq_Ct_emb (o := 284) (ct_X9_kept h1r495) (Nat.le_of_ble_eq_true rfl) wq_EL_m (wq_mdl_at _)) ⟨(Nat.le_of_ble_eq_true rfl), (Nat.le_of_ble_eq_true rfl)⟩ ⟨by show cc + 1 ≤ room_1.cells; omega, by show ss + 6 ≤ room_1.slots; omega⟩ (Nat.le_of_ble_eq_true rfl) rfl rfl wq_AbX rfl rfl (Nat.le_of_ble_eq_true rfl) dL_law_2308 rfl ?_
                                                                          refine wq_namS eS497 ?_
                                                                          refine wq_istore (L' := [some (.ref b0), some (.ref (b + 0)), some (.ref (b + 284)), some (.ref (b + 316)), some (.int (wq_I y4)), some (.int (wq_I r491)), some (.int (wq_I r495))]) F dL_law_2311 (by decide) rfl rfl rfl ?_
                                                                          refine wq_aload_n F dL_law_2313 rfl rfl rfl ?_
                                                                          obtain ⟨r498, S499, h1r498, h⟩ := wq_bd_some h
                                                                          obtain ⟨S500, eS500, h⟩ := wq_lt_some h
                                                                          refine wq_callV (As := []) (k := 284) (n := 1) F lk_L_133 (wq_Ct_emb (o := 284) (ct_X9_thrown h1r498) (Nat.le_of_ble_eq_true rfl) wq_EL_m (wq_mdl_at _)) ⟨(Nat.le_of_ble_eq_true rfl), (Nat.le_of_ble_eq_true rfl)⟩ ⟨by show cc + 1 ≤ room_1.cells; omega, by show ss + 6 ≤ room_1.slots; omega⟩ (Nat.le_of_ble_eq_true rfl) rfl rfl wq_AbX rfl rfl (Nat.le_of_ble_eq_true rfl) dL_law_2314 rfl ?_
                                                                          refine wq_namS eS500 ?_
                                                                          refine wq_iload F dL_law_2317 rfl rfl ?_
                                                                          refine wq_icmp_eq (tgt := 2324) F dL_law_2319 (by decide) rfl (fun hc => ?_) (fun hc => ?_)
                                                                          · replace h := wq_ift hc h
                                                                            refine wq_iload F dL_law_2324 rfl rfl ?_
                                                                            refine wq_if_ne (tgt := 2341) F dL_law_2326 (by decide) rfl (fun hc => ?_) (fun hc => ?_)
                                                                            · replace h := wq_iff hc h
                                                                              refine wq_goto (tgt := 2456) F dL_law_2341 (by decide) ?_
                                                                              refine wq_iinc (L' := [some (.ref b0), some (.ref (b + 0)), some (.ref (b + 284)), some (.ref (b + 316)), some (.int (wq_I (y4 + 6))), some (.int (wq_I r491)), some (.int (wq_I r495))]) F dL_law_2456 rfl (by decide) rfl rfl rfl ?_
                                                                              refine wq_goto (tgt := 23) F dL_law_2459 (by decide) ?_
                                                                              exact wq_wid (k := cc + 10) (n := ss + 60) (by omega) (by omega) <| wq_lsub [some (.ref b0), some (.ref (b + 0)), some (.ref (b + 284)), some (.ref (b + 316)), some (.int (wq_I (y4 + 6))), none, none] (by simp [wq_sub]) (hrec (y4 + 6) S500 h)
                                                                            · replace h := wq_ift hc h
                                                                              refine wq_aload_n F dL_law_2329 rfl rfl rfl ?_
                                                                              refine wq_iconst (n := 0) F dL_law_2330 rfl ?_
                                                                              obtain ⟨t501, ht501, wt501, h⟩ := wq_ix_some h
                                                                              refine wq_lald F (Nat.le_of_ble_eq_true rfl) rfl ht501 wt501 dL_law_2331 rfl ?_
                                                                              refine wq_iload F dL_law_2332 rfl rfl ?_
                                                                              refine wq_i2l_ F dL_law_2334 rfl ?_
                                                                              refine wq_lcmp F dL_law_2335 rfl ?_
                                                                              refine wq_if_eq (tgt := 2341) F dL_law_2336 (by decide) rfl (fun hc => ?_) (fun hc => ?_)
                                                                              · replace h := wq_ift hc h
                                                                                refine wq_goto (tgt := 2456) F dL_law_2341 (by decide) ?_
                                                                                refine wq_iinc (L' := [some (.ref b0), some (.ref (b + 0)), some (.ref (b + 284)), some (.ref (b + 316)), some (.int (wq_I (y4 + 6))), some (.int (wq_I r491)), some (.int (wq_I r495))]) F dL_law_2456 rfl (by decide) rfl rfl rfl ?_
                                                                                refine wq_goto (tgt := 23) F dL_law_2459 (by decide) ?_
                                                                                exact wq_wid (k := cc + 10) (n := ss + 60) (by omega) (by omega) <| wq_lsub [some (.ref b0), some (.ref (b + 0)), some (.ref (b + 284)), some (.ref (b + 316)), some (.int (wq_I (y4 + 6))), none, none] (by simp [wq_sub]) (hrec (y4 + 6) S500 h)
                                                                              · replace h := wq_iff hc h
                                                                                refine wq_iconst (n := 0) F dL_law_2339 rfl ?_
                                                                                simp at h
                                                                          · replace h := wq_iff hc h
                                                                            refine wq_iconst (n := 0) F dL_law_2322 rfl ?_
                                                                            simp at h
                                                                        · replace h := wq_iff hc34 h
                                                                          by_cases hc35 : wq_w (wq_and (X t1) 63) = 35
                                                                          · replace h := wq_ift hc35 h
                                                                            refine wq_tableIn (tgt := 2344) (off := 2304) F dL_law_40 (by omega) (by omega) (by rw [hc35]; rfl) (by decide) ?_
                                                                            refine wq_aload_n F dL_law_2344 rfl rfl rfl ?_
                                                                            refine wq_aload_n F dL_law_2345 rfl rfl rfl ?_
                                                                            refine wq_iload F dL_law_2346 rfl rfl ?_
                                                                            refine wq_iconst (n := 1) F dL_law_2348 rfl ?_
                                                                            refine wq_iadd F dL_law_2349 rfl ?_
                                                                            obtain ⟨t502, ht502, wt502, h⟩ := wq_ix_some h
                                                                            refine wq_sld F hX hbl hbA ht502 wt502 dL_law_2350 rfl ?_
                                                                            refine wq_aload_n F dL_law_2351 rfl rfl rfl ?_
                                                                            obtain ⟨r503, S504, h1r503, h⟩ := wq_bd_some h
                                                                            refine wq_callW (As := [.ref (b + 0), .int (wq_I (X t502)), .ref (b + 316)]) (mc := 1) (ms := 6) (n := 9) F K Kn lk_L_250 (ct_L_keptSum hlt h1r503) ⟨(Nat.le_of_ble_eq_true rfl), (Nat.le_of_ble_eq_true rfl)⟩ ⟨by show cc + 1 ≤ room_1.cells; omega, by show ss + 6 ≤ room_1.slots; omega⟩ rfl rfl (Nat.le_of_ble_eq_true rfl) dL_law_2352 rfl ?_
                                                                            refine wq_istore (L' := [some (.ref b0), some (.ref (b + 0)), some (.ref (b + 284)), some (.ref (b + 316)), some (.int (wq_I y4)), some (.int (wq_I r503)), none]) F dL_law_2355 (by decide) rfl rfl rfl ?_
                                                                            refine wq_aload_n F dL_law_2357 rfl rfl rfl ?_
                                                                            refine wq_aload_n F dL_law_2358 rfl rfl rfl ?_
                                                                            refine wq_iload F dL_law_2359 rfl rfl ?_
                                                                            refine wq_iconst (n := 1) F dL_law_2361 rfl ?_
                                                                            refine wq_iadd F dL_law_2362 rfl ?_
                                                                            obtain ⟨t506, ht506, wt506, h⟩ := wq_ix_some h
                                                                            refine wq_sld F hX hbl hbA ht506 wt506 dL_law_2363 rfl ?_
                                                                            obtain ⟨r507, S508, h1r507, h⟩ := wq_bd_some h
                                                                            obtain ⟨S509, eS509, h⟩ := wq_lt_some h
                                                                            refine wq_callV (As := [.int (wq_I (X t506))]) (k := 284) (n := 3) F lk_L_252 (wq_Ct_emb (o := 284) (ct_X9_keptSum h1r507) (Nat.le_of_ble_eq_true rfl) wq_EL_m (wq_mdl_at _)) ⟨(Nat.le_of_ble_eq_true rfl), (Nat.le_of_ble_eq_true rfl)⟩ ⟨by show cc + 1 ≤ room_1.cells; omega, by show ss + 6 ≤ room_1.slots; omega⟩ (Nat.le_of_ble_eq_true rfl) rfl rfl wq_AbX rfl rfl (Nat.le_of_ble_eq_true rfl) dL_law_2364 rfl ?_
                                                                            refine wq_namS eS509 ?_
                                                                            refine wq_istore (L' := [some (.ref b0), some (.ref (b + 0)), some (.ref (b + 284)), some (.ref (b + 316)), some (.int (wq_I y4)), some (.int (wq_I r503)), some (.int (wq_I r507))]) F dL_law_2367 (by decide) rfl rfl rfl ?_
                                                                            refine wq_aload_n F dL_law_2369 rfl rfl rfl ?_
                                                                            obtain ⟨r510, S511, h1r510, h⟩ := wq_bd_some h
                                                                            obtain ⟨S512, eS512, h⟩ := wq_lt_some h
                                                                            refine wq_callV (As := []) (k := 284) (n := 1) F lk_L_133 (wq_Ct_emb (o := 284) (ct_X9_thrown h1r510) (Nat.le_of_ble_eq_true rfl) wq_EL_m (wq_mdl_at _)) ⟨(Nat.le_of_ble_eq_true rfl), (Nat.le_of_ble_eq_true rfl)⟩ ⟨by show cc + 1 ≤ room_1.cells; omega, by show ss + 6 ≤ room_1.slots; omega⟩ (Nat.le_of_ble_eq_true rfl) rfl rfl wq_AbX rfl rfl (Nat.le_of_ble_eq_true rfl) dL_law_2370 rfl ?_
                                                                            refine wq_namS eS512 ?_
                                                                            refine wq_iload F dL_law_2373 rfl rfl ?_
                                                                            refine wq_icmp_eq (tgt := 2380) F dL_law_2375 (by decide) rfl (fun hc => ?_) (fun hc => ?_)
                                                                            · replace h := wq_ift hc h
                                                                              refine wq_iload F dL_law_2380 rfl rfl ?_
                                                                              refine wq_if_ne (tgt := 2397) F dL_law_2382 (by decide) rfl (fun hc => ?_) (fun hc => ?_)
                                                                              · replace h := wq_iff hc h
                                                                                refine wq_goto (tgt := 2456) F dL_law_2397 (by decide) ?_
                                                                                refine wq_iinc (L' := [some (.ref b0), some (.ref (b + 0)), some (.ref (b + 284)), some (.ref (b + 316)), some (.int (wq_I (y4 + 6))), some (.int (wq_I r503)), some (.int (wq_I r507))]) F dL_law_2456 rfl (by decide) rfl rfl rfl ?_
                                                                                refine wq_goto (tgt := 23) F dL_law_2459 (by decide) ?_
                                                                                exact wq_wid (k := cc + 10) (n := ss + 60) (by omega) (by omega) <| wq_lsub [some (.ref b0), some (.ref (b + 0)), some (.ref (b + 284)), some (.ref (b + 316)), some (.int (wq_I (y4 + 6))), none, none] (by simp [wq_sub]) (hrec (y4 + 6) S512 h)
                                                                              · replace h := wq_ift hc h
                                                                                refine wq_aload_n F dL_law_2385 rfl rfl rfl ?_
                                                                                refine wq_iconst (n := 0) F dL_law_2386 rfl ?_
                                                                                obtain ⟨t513, ht513, wt513, h⟩ := wq_ix_some h
                                                                                refine wq_lald F (Nat.le_of_ble_eq_true rfl) rfl ht513 wt513 dL_law_2387 rfl ?_
                                                                                refine wq_iload F dL_law_2388 rfl rfl ?_
                                                                                refine wq_i2l_ F dL_law_2390 rfl ?_
                                                                                refine wq_lcmp F dL_law_2391 rfl ?_
                                                                                refine wq_if_eq (tgt := 2397) F dL_law_2392 (by decide) rfl (fun hc => ?_) (fun hc => ?_)
                                                                                · replace h := wq_ift hc h
                                                                                  refine wq_goto (tgt := 2456) F dL_law_2397 (by decide) ?_
                                                                                  refine wq_iinc (L' := [some (.ref b0), some (.ref (b + 0)), some (.ref (b + 284)), some (.ref (b + 316)), some (.int (wq_I (y4 + 6))), some (.int (wq_I r503)), some (.int (wq_I r507))]) F dL_law_2456 rfl (by decide) rfl rfl rfl ?_
                                                                                  refine wq_goto (tgt := 23) F dL_law_2459 (by decide) ?_
                                                                                  exact wq_wid (k := cc + 10) (n := ss + 60) (by omega) (by omega) <| wq_lsub [some (.ref b0), some (.ref (b + 0)), some (.ref (b + 284)), some (.ref (b + 316)), some (.int (wq_I (y4 + 6))), none, none] (by simp [wq_sub]) (hrec (y4 + 6) S512 h)
                                                                                · replace h := wq_iff hc h
                                                                                  refine wq_iconst (n := 0) F dL_law_2395 rfl ?_
                                                                                  simp at h
                                                                            · replace h := wq_iff hc h
                                                                              refine wq_iconst (n := 0) F dL_law_2378 rfl ?_
                                                                              simp at h
                                                                          · replace h := wq_iff hc35 h
                                                                            by_cases hc36 : wq_w (wq_and (X t1) 63) = 36
                                                                            · replace h := wq_ift hc36 h
                                                                              refine wq_tableIn (tgt := 2400) (off := 2360) F dL_law_40 (by omega) (by omega) (by rw [hc36]; rfl) (by decide) ?_
                                                                              refine wq_aload_n F dL_law_2400 rfl rfl rfl ?_
                                                                              refine wq_aload_n F dL_law_2401 rfl rfl rfl ?_
                                                                              refine wq_iload F dL_law_2402 rfl rfl ?_
                                                                              refine wq_iconst (n := 1) F dL_law_2404 rfl ?_
                                                                              refine wq_iadd F dL_law_2405 rfl ?_
                                                                              obtain ⟨t514, ht514, wt514, h⟩ := wq_ix_some h
                                                                              refine wq_sld F hX hbl hbA ht514 wt514 dL_law_2406 rfl ?_
                                                                              refine wq_aload_n F dL_law_2407 rfl rfl rfl ?_
                                                                              obtain ⟨r515, S516, h1r515, h⟩ := wq_bd_some h
                                                                              refine wq_callW (As := [.ref (b + 0), .int (wq_I (X t514)), .ref (b + 316)]) (mc := 1) (ms := 6) (n := 9) F K Kn lk_L_253 (ct_L_keptIn hlt h1r515) ⟨(Nat.le_of_ble_eq_true rfl), (Nat.le_of_ble_eq_true rfl)⟩ ⟨by show cc + 1 ≤ room_1.cells; omega, by show ss + 6 ≤ room_1.slots; omega⟩ rfl rfl (Nat.le_of_ble_eq_true rfl) dL_law_2408 rfl ?_
                                                                              refine wq_istore (L' := [some (.ref b0), some (.ref (b + 0)), some (.ref (b + 284)), some (.ref (b + 316)), some (.int (wq_I y4)), some (.int (wq_I r515)), none]) F dL_law_2411 (by decide) rfl rfl rfl ?_
                                                                              refine wq_aload_n F dL_law_2413 rfl rfl rfl ?_
                                                                              refine wq_aload_n F dL_law_2414 rfl rfl rfl ?_
                                                                              refine wq_iload F dL_law_2415 rfl rfl ?_
                                                                              refine wq_iconst (n := 1) F dL_law_2417 rfl ?_
                                                                              refine wq_iadd F dL_law_2418 rfl ?_
                                                                              obtain ⟨t518, ht518, wt518, h⟩ := wq_ix_some h
                                                                              refine wq_sld F hX hbl hbA ht518 wt518 dL_law_2419 rfl ?_
                                                                              obtain ⟨r519, S520, h1r519, h⟩ := wq_bd_some h
                                                                              obtain ⟨S521, eS521, h⟩ := wq_lt_some h
                                                                              refine wq_callV (As := [.int (wq_I (X t518))]) (k := 284) (n := 3) F lk_L_255 (wq_Ct_emb (o := 284) (ct_X9_keptIn h1r519) (Nat.le_of_ble_eq_true rfl) wq_EL_m (wq_mdl_at _)) ⟨(Nat.le_of_ble_eq_true rfl), (Nat.le_of_ble_eq_true rfl)⟩ ⟨by show cc + 1 ≤ room_1.cells; omega, by show ss + 6 ≤ room_1.slots; omega⟩ (Nat.le_of_ble_eq_true rfl) rfl rfl wq_AbX rfl rfl (Nat.le_of_ble_eq_true rfl) dL_law_2420 rfl ?_
                                                                              refine wq_namS eS521 ?_
                                                                              refine wq_istore (L' := [some (.ref b0), some (.ref (b + 0)), some (.ref (b + 284)), some (.ref (b + 316)), some (.int (wq_I y4)), some (.int (wq_I r515)), some (.int (wq_I r519))]) F dL_law_2423 (by decide) rfl rfl rfl ?_
                                                                              refine wq_aload_n F dL_law_2425 rfl rfl rfl ?_
                                                                              obtain ⟨r522, S523, h1r522, h⟩ := wq_bd_some h
                                                                              obtain ⟨S524, eS524, h⟩ := wq_lt_some h
                                                                              refine wq_callV (As := []) (k := 284) (n := 1) F lk_L_133 (wq_Ct_emb (o := 284) (ct_X9_thrown h1r522) (Nat.le_of_ble_eq_true rfl) wq_EL_m (wq_mdl_at _)) ⟨(Nat.le_of_ble_eq_true rfl), (Nat.le_of_ble_eq_true rfl)⟩ ⟨by show cc + 1 ≤ room_1.cells; omega, by show ss + 6 ≤ room_1.slots; omega⟩ (Nat.le_of_ble_eq_true rfl) rfl rfl wq_AbX rfl rfl (Nat.le_of_ble_eq_true rfl) dL_law_2426 rfl ?_
                                                                              refine wq_namS eS524 ?_
                                                                              refine wq_iload F dL_law_2429 rfl rfl ?_
                                                                              refine wq_icmp_eq (tgt := 2436) F dL_law_2431 (by decide) rfl (fun hc => ?_) (fun hc => ?_)
                                                                              · replace h := wq_ift hc h
                                                                                refine wq_iload F dL_law_2436 rfl rfl ?_
                                                                                refine wq_if_ne (tgt := 2453) F dL_law_2438 (by decide) rfl (fun hc => ?_) (fun hc => ?_)
                                                                                · replace h := wq_iff hc h
                                                                                  refine wq_goto (tgt := 2456) F dL_law_2453 (by decide) ?_
                                                                                  refine wq_iinc (L' := [some (.ref b0), some (.ref (b + 0)), some (.ref (b + 284)), some (.ref (b + 316)), some (.int (wq_I (y4 + 6))), some (.int (wq_I r515)), some (.int (wq_I r519))]) F dL_law_2456 rfl (by decide) rfl rfl rfl ?_
                                                                                  refine wq_goto (tgt := 23) F dL_law_2459 (by decide) ?_
                                                                                  exact wq_wid (k := cc + 10) (n := ss + 60) (by omega) (by omega) <| wq_lsub [some (.ref b0), some (.ref (b + 0)), some (.ref (b + 284)), some (.ref (b + 316)), some (.int (wq_I (y4 + 6))), none, none] (by simp [wq_sub]) (hrec (y4 + 6) S524 h)
                                                                                · replace h := wq_ift hc h
                                                                                  refine wq_aload_n F dL_law_2441 rfl rfl rfl ?_
                                                                                  refine wq_iconst (n := 0) F dL_law_2442 rfl ?_
                                                                                  obtain ⟨t525, ht525, wt525, h⟩ := wq_ix_some h
                                                                                  refine wq_lald F (Nat.le_of_ble_eq_true rfl) rfl ht525 wt525 dL_law_2443 rfl ?_
                                                                                  refine wq_iload F dL_law_2444 rfl rfl ?_
                                                                                  refine wq_i2l_ F dL_law_2446 rfl ?_
                                                                                  refine wq_lcmp F dL_law_2447 rfl ?_
                                                                                  refine wq_if_eq (tgt := 2453) F dL_law_2448 (by decide) rfl (fun hc => ?_) (fun hc => ?_)
                                                                                  · replace h := wq_ift hc h
                                                                                    refine wq_goto (tgt := 2456) F dL_law_2453 (by decide) ?_
                                                                                    refine wq_iinc (L' := [some (.ref b0), some (.ref (b + 0)), some (.ref (b + 284)), some (.ref (b + 316)), some (.int (wq_I (y4 + 6))), some (.int (wq_I r515)), some (.int (wq_I r519))]) F dL_law_2456 rfl (by decide) rfl rfl rfl ?_
                                                                                    refine wq_goto (tgt := 23) F dL_law_2459 (by decide) ?_
                                                                                    exact wq_wid (k := cc + 10) (n := ss + 60) (by omega) (by omega) <| wq_lsub [some (.ref b0), some (.ref (b + 0)), some (.ref (b + 284)), some (.ref (b + 316)), some (.int (wq_I (y4 + 6))), none, none] (by simp [wq_sub]) (hrec (y4 + 6) S524 h)
                                                                                  · replace h := wq_iff hc h
                                                                                    refine wq_iconst (n := 0) F dL_law_2451 rfl ?_
                                                                                    simp at h
                                                                              · replace h := wq_iff hc h
                                                                                refine wq_iconst (n := 0) F dL_law_2434 rfl ?_
                                                                                simp at h
                                                                            · replace h := wq_iff hc36 h
                                                                              refine wq_tableOut (tgt := 2456) F dL_law_40 (by omega) (by decide) ?_
                                                                              refine wq_iinc (L' := [some (.ref b0), some (.ref (b + 0)), some (.ref (b + 284)), some (.ref (b + 316)), some (.int (wq_I (y4 + 6))), none, none]) F dL_law_2456 rfl (by decide) rfl rfl rfl ?_
                                                                              refine wq_goto (tgt := 23) F dL_law_2459 (by decide) ?_
                                                                              exact wq_wid (k := cc + 10) (n := ss + 60) (by omega) (by omega) <| wq_lsub [some (.ref b0), some (.ref (b + 0)), some (.ref (b + 284)), some (.ref (b + 316)), some (.int (wq_I (y4 + 6))), none, none] (by simp [wq_sub]) (hrec (y4 + 6) S h)
