set_option maxHeartbeats 40000000 in
set_option maxRecDepth 100000 in
theorem tj_L_law_108 {p : Program} {l : Launch} {e : Env} {s : State} {m : MethodId} {args : Array Value} {below : List Frame} {meth : Method} {c : Code} {D : va_G} {Ar : Nat → ClassId} {b : Nat} {Q : State → Prop} (F : wq_Fr p s m args meth c cL_law 17 (some .boolean) "WharfQueryLaw" D Ar) (K : wq_Kx b 570 s) (Kn : wq_Nx s) (hlt : l.stackTraces = false) {X : Nat → Int} {b0 LL : Nat} (hX : va_X b0 LL (fun j => wq_I (X j)) s s.heap) (hbl : b0 < s.heap.size) (hbA : ¬ wq_AX b 570 s.heap.size b0) {cc ss c9 s9 : Nat} (hC : cc + 0 ≤ c9) (hD : ss + 0 ≤ s9) (hE : c9 ≤ room_1.cells) (hF : s9 ≤ room_1.slots) {r0 : Int} {S0 : wq_St} {kx : Int → wq_St → Option (Int × wq_St)} {rec : Int → Int → wq_St → Option (Int × wq_St)} {j3 : Int} {j7 : Int} (hkx : ∀ (u6 : Int) (S : wq_St), kx u6 S = some (r0, S0) → wq_Z p l e room_1 s m args below meth c D (wq_EL Ar b) b 570 17 (wq_AX b 570 s.heap.size) Q c9 s9 116 [some (.ref b0), some (.ref (b + 0)), some (.ref (b + 284)), some (.int (wq_I j3)), some (.ref (b + 568)), some (.ref (b + 569)), some (.int (wq_I u6)), none, none, none, none, none, none, none, none, none, none] [] S) (hrec : ∀ (y6 : Int) (y7 : Int) (S : wq_St), rec y6 y7 S = some (r0, S0) → wq_Z p l e room_1 s m args below meth c D (wq_EL Ar b) b 570 17 (wq_AX b 570 s.heap.size) Q c9 s9 44 [some (.ref b0), some (.ref (b + 0)), some (.ref (b + 284)), some (.int (wq_I j3)), some (.ref (b + 568)), some (.ref (b + 569)), some (.int (wq_I y6)), some (.int (wq_I y7)), none, none, none, none, none, none, none, none, none] [] S) (z0 : Int) (S : wq_St) (h : j_L_law_108 X LL kx rec j3 j7 z0 S = some (r0, S0)) : wq_Z p l e room_1 s m args below meth c D (wq_EL Ar b) b 570 17 (wq_AX b 570 s.heap.size) Q cc ss 108 [some (.ref b0), some (.ref (b + 0)), some (.ref (b + 284)), some (.int (wq_I j3)), some (.ref (b + 568)), some (.ref (b + 569)), none, some (.int (wq_I j7)), none, none, none, none, none, none, none, none, none] [.int (wq_I z0)] S := by
  unfold j_L_law_108 at h
  refine wq_istore (L' := [some (.ref b0), some (.ref (b + 0)), some (.ref (b + 284)), some (.int (wq_I j3)), some (.ref (b + 568)), some (.ref (b + 569)), some (.int (wq_I z0)), some (.int (wq_I j7)), none, none, none, none, none, none, none, none, none]) F dL_law_108 (by decide) rfl rfl rfl ?_
  refine wq_iinc (L' := [some (.ref b0), some (.ref (b + 0)), some (.ref (b + 284)), some (.int (wq_I j3)), some (.ref (b + 568)), some (.ref (b + 569)), some (.int (wq_I z0)), some (.int (wq_I (j7 + 1))), none, none, none, none, none, none, none, none, none]) F dL_law_110 rfl (by decide) rfl rfl rfl ?_
  refine wq_goto (tgt := 44) F dL_law_113 (by decide) ?_
  exact wq_wid (k := c9) (n := s9) (by omega) (by omega) <| wq_lsub [some (.ref b0), some (.ref (b + 0)), some (.ref (b + 284)), some (.int (wq_I j3)), some (.ref (b + 568)), some (.ref (b + 569)), some (.int (wq_I z0)), some (.int (wq_I (j7 + 1))), none, none, none, none, none, none, none, none, none] (by simp [wq_sub]) (hrec z0 (j7 + 1) S h)
set_option maxHeartbeats 40000000 in
set_option maxRecDepth 100000 in
theorem tj_L_law_107 {p : Program} {l : Launch} {e : Env} {s : State} {m : MethodId} {args : Array Value} {below : List Frame} {meth : Method} {c : Code} {D : va_G} {Ar : Nat → ClassId} {b : Nat} {Q : State → Prop} (F : wq_Fr p s m args meth c cL_law 17 (some .boolean) "WharfQueryLaw" D Ar) (K : wq_Kx b 570 s) (Kn : wq_Nx s) (hlt : l.stackTraces = false) {X : Nat → Int} {b0 LL : Nat} (hX : va_X b0 LL (fun j => wq_I (X j)) s s.heap) (hbl : b0 < s.heap.size) (hbA : ¬ wq_AX b 570 s.heap.size b0) {cc ss c9 s9 : Nat} (hC : cc + 0 ≤ c9) (hD : ss + 0 ≤ s9) (hE : c9 ≤ room_1.cells) (hF : s9 ≤ room_1.slots) {r0 : Int} {S0 : wq_St} {kx : Int → wq_St → Option (Int × wq_St)} {rec : Int → Int → wq_St → Option (Int × wq_St)} {j3 : Int} {j7 : Int} (hkx : ∀ (u6 : Int) (S : wq_St), kx u6 S = some (r0, S0) → wq_Z p l e room_1 s m args below meth c D (wq_EL Ar b) b 570 17 (wq_AX b 570 s.heap.size) Q c9 s9 116 [some (.ref b0), some (.ref (b + 0)), some (.ref (b + 284)), some (.int (wq_I j3)), some (.ref (b + 568)), some (.ref (b + 569)), some (.int (wq_I u6)), none, none, none, none, none, none, none, none, none, none] [] S) (hrec : ∀ (y6 : Int) (y7 : Int) (S : wq_St), rec y6 y7 S = some (r0, S0) → wq_Z p l e room_1 s m args below meth c D (wq_EL Ar b) b 570 17 (wq_AX b 570 s.heap.size) Q c9 s9 44 [some (.ref b0), some (.ref (b + 0)), some (.ref (b + 284)), some (.int (wq_I j3)), some (.ref (b + 568)), some (.ref (b + 569)), some (.int (wq_I y6)), some (.int (wq_I y7)), none, none, none, none, none, none, none, none, none] [] S) (S : wq_St) (h : j_L_law_107 X LL kx rec j3 j7 S = some (r0, S0)) : wq_Z p l e room_1 s m args below meth c D (wq_EL Ar b) b 570 17 (wq_AX b 570 s.heap.size) Q cc ss 107 [some (.ref b0), some (.ref (b + 0)), some (.ref (b + 284)), some (.int (wq_I j3)), some (.ref (b + 568)), some (.ref (b + 569)), none, some (.int (wq_I j7)), none, none, none, none, none, none, none, none, none] [] S := by
  unfold j_L_law_107 at h
  refine wq_iconst (n := 0) F dL_law_107 rfl ?_
  exact wq_wid (k := cc + 0) (n := ss + 0) (by omega) (by omega) <| wq_lsub [some (.ref b0), some (.ref (b + 0)), some (.ref (b + 284)), some (.int (wq_I j3)), some (.ref (b + 568)), some (.ref (b + 569)), none, some (.int (wq_I j7)), none, none, none, none, none, none, none, none, none] (by simp [wq_sub]) (tj_L_law_108 (cc := cc + 0) (ss := ss + 0) (c9 := c9) (s9 := s9) F K Kn hlt hX hbl hbA (by omega) (by omega) hE hF hkx hrec 0 S h)
set_option maxHeartbeats 40000000 in
set_option maxRecDepth 100000 in
theorem tb_L_law_44 {p : Program} {l : Launch} {e : Env} {s : State} {m : MethodId} {args : Array Value} {below : List Frame} {meth : Method} {c : Code} {D : va_G} {Ar : Nat → ClassId} {b : Nat} {Q : State → Prop} (F : wq_Fr p s m args meth c cL_law 17 (some .boolean) "WharfQueryLaw" D Ar) (K : wq_Kx b 570 s) (Kn : wq_Nx s) (hlt : l.stackTraces = false) {X : Nat → Int} {b0 LL : Nat} (hX : va_X b0 LL (fun j => wq_I (X j)) s s.heap) (hbl : b0 < s.heap.size) (hbA : ¬ wq_AX b 570 s.heap.size b0) {cc ss c9 s9 : Nat} (hC : cc + 4 ≤ c9) (hD : ss + 24 ≤ s9) (hE : c9 ≤ room_1.cells) (hF : s9 ≤ room_1.slots) {r0 : Int} {S0 : wq_St} {c3 : Int} {kx : Int → wq_St → Option (Int × wq_St)} (hkx : ∀ (u6 : Int) (S : wq_St), kx u6 S = some (r0, S0) → wq_Z p l e room_1 s m args below meth c D (wq_EL Ar b) b 570 17 (wq_AX b 570 s.heap.size) Q c9 s9 116 [some (.ref b0), some (.ref (b + 0)), some (.ref (b + 284)), some (.int (wq_I c3)), some (.ref (b + 568)), some (.ref (b + 569)), some (.int (wq_I u6)), none, none, none, none, none, none, none, none, none, none] [] S) {rec : Int → Int → wq_St → Option (Int × wq_St)} (hrec : ∀ (y6 : Int) (y7 : Int) (S : wq_St), rec y6 y7 S = some (r0, S0) → wq_Z p l e room_1 s m args below meth c D (wq_EL Ar b) b 570 17 (wq_AX b 570 s.heap.size) Q c9 s9 44 [some (.ref b0), some (.ref (b + 0)), some (.ref (b + 284)), some (.int (wq_I c3)), some (.ref (b + 568)), some (.ref (b + 569)), some (.int (wq_I y6)), some (.int (wq_I y7)), none, none, none, none, none, none, none, none, none] [] S) (y6 : Int) (y7 : Int) (S : wq_St) (h : b_L_law_44 X LL c3 kx rec y6 y7 S = some (r0, S0)) : wq_Z p l e room_1 s m args below meth c D (wq_EL Ar b) b 570 17 (wq_AX b 570 s.heap.size) Q cc ss 44 [some (.ref b0), some (.ref (b + 0)), some (.ref (b + 284)), some (.int (wq_I c3)), some (.ref (b + 568)), some (.ref (b + 569)), some (.int (wq_I y6)), some (.int (wq_I y7)), none, none, none, none, none, none, none, none, none] [] S := by
  unfold b_L_law_44 at h
  refine wq_iload F dL_law_44 rfl rfl ?_
  refine wq_iconst (n := 3) F dL_law_46 rfl ?_
  refine wq_icmp_ge (tgt := 116) F dL_law_47 (by decide) rfl (fun hc => ?_) (fun hc => ?_)
  · replace h := wq_ift hc h
    exact wq_wid (k := c9) (n := s9) (by omega) (by omega) <| wq_lsub [some (.ref b0), some (.ref (b + 0)), some (.ref (b + 284)), some (.int (wq_I c3)), some (.ref (b + 568)), some (.ref (b + 569)), some (.int (wq_I y6)), none, none, none, none, none, none, none, none, none, none] (by simp [wq_sub]) (hkx y6 S h)
  · replace h := wq_iff hc h
    refine wq_aload F dL_law_50 rfl rfl ?_
    refine wq_iload F dL_law_52 rfl rfl ?_
    refine wq_iconst (n := 1) F dL_law_54 rfl ?_
    refine wq_aload_n F dL_law_55 rfl rfl rfl ?_
    refine wq_bipush (n := 61) F dL_law_56 (by decide) rfl ?_
    refine wq_iload F dL_law_58 rfl rfl ?_
    refine wq_iadd F dL_law_60 rfl ?_
    obtain ⟨r1, S2, h1r1, h⟩ := wq_bd_some h
    refine wq_callD F hX hbl hbA lk_L_150 (ct_L_drawn h1r1) ⟨(Nat.le_of_ble_eq_true rfl), (Nat.le_of_ble_eq_true rfl)⟩ ⟨by show cc + 0 ≤ room_1.cells; omega, by show ss + 0 ≤ room_1.slots; omega⟩ rfl (Nat.le_of_ble_eq_true rfl) dL_law_61 rfl ?_
    refine wq_iconst (n := 3) F dL_law_64 rfl ?_
    obtain ⟨hg, h⟩ := wq_gd_some h
    refine wq_irem (hy := hg) F dL_law_65 rfl ?_
    refine wq_iadd F dL_law_66 rfl ?_
    obtain ⟨t4, ht4, wt4, h⟩ := wq_ix_some h
    refine wq_iast F (Nat.le_of_ble_eq_true rfl) wq_EL_col wq_EL_col ht4 wt4 (Or.inl ⟨Nat.le_add_right _ _, Nat.add_lt_add_left (Nat.le_of_ble_eq_true rfl) b⟩) dL_law_67 rfl ?_
    obtain ⟨S5, eS5, h⟩ := wq_lt_some h
    refine wq_namS eS5 ?_
    refine wq_iload F dL_law_68 rfl rfl ?_
    refine wq_if_eq (tgt := 107) F dL_law_70 (by decide) rfl (fun hc => ?_) (fun hc => ?_)
    · replace h := wq_ift hc h
      exact wq_wid (k := cc + 0) (n := ss + 0) (by omega) (by omega) <| wq_lsub [some (.ref b0), some (.ref (b + 0)), some (.ref (b + 284)), some (.int (wq_I c3)), some (.ref (b + 568)), some (.ref (b + 569)), none, some (.int (wq_I y7)), none, none, none, none, none, none, none, none, none] (by simp [wq_sub]) (tj_L_law_107 (cc := cc + 0) (ss := ss + 0) (c9 := c9) (s9 := s9) F K Kn hlt hX hbl hbA (by omega) (by omega) hE hF hkx hrec S5 h)
    · replace h := wq_iff hc h
      refine wq_aload_n F dL_law_73 rfl rfl rfl ?_
      refine wq_iconst (n := 0) F dL_law_74 rfl ?_
      refine wq_aload F dL_law_75 rfl rfl ?_
      refine wq_iload F dL_law_77 rfl rfl ?_
      obtain ⟨t6, ht6, wt6, h⟩ := wq_ix_some h
      refine wq_iald F (Nat.le_of_ble_eq_true rfl) wq_EL_col ht6 wt6 dL_law_79 rfl ?_
      obtain ⟨r7, S8, h1r7, h⟩ := wq_bd_some h
      obtain ⟨S9, eS9, h⟩ := wq_lt_some h
      refine wq_callW (As := [.ref (b + 0), .int (wq_I 0), .int (wq_I (S5 568 t6))]) (mc := 2) (ms := 12) (n := 15) F K Kn lk_L_154 (wq_Cw_emb (o := 0) (ct_L_add hlt h1r7) (Nat.le_of_ble_eq_true rfl) wq_EL_a (wq_cls_at _)) ⟨(Nat.le_of_ble_eq_true rfl), (Nat.le_of_ble_eq_true rfl)⟩ ⟨by show cc + 0 + 2 ≤ room_1.cells; omega, by show ss + 0 + 12 ≤ room_1.slots; omega⟩ rfl rfl (Nat.le_of_ble_eq_true rfl) dL_law_80 rfl ?_
      refine wq_namS eS9 ?_
      refine wq_iload F dL_law_83 rfl rfl ?_
      refine wq_icmp_ne (tgt := 107) F dL_law_85 (by decide) rfl (fun hc => ?_) (fun hc => ?_)
      · replace h := wq_iff hc h
        exact wq_wid (k := cc + 2) (n := ss + 12) (by omega) (by omega) <| wq_lsub [some (.ref b0), some (.ref (b + 0)), some (.ref (b + 284)), some (.int (wq_I c3)), some (.ref (b + 568)), some (.ref (b + 569)), none, some (.int (wq_I y7)), none, none, none, none, none, none, none, none, none] (by simp [wq_sub]) (tj_L_law_107 (cc := cc + 2) (ss := ss + 12) (c9 := c9) (s9 := s9) F K Kn hlt hX hbl hbA (by omega) (by omega) hE hF hkx hrec S9 h)
      · replace h := wq_ift hc h
        refine wq_aload_n F dL_law_88 rfl rfl rfl ?_
        refine wq_iconst (n := 0) F dL_law_89 rfl ?_
        refine wq_aload F dL_law_90 rfl rfl ?_
        refine wq_iload F dL_law_92 rfl rfl ?_
        obtain ⟨t10, ht10, wt10, h⟩ := wq_ix_some h
        refine wq_iald F (Nat.le_of_ble_eq_true rfl) wq_EL_col ht10 wt10 dL_law_94 rfl ?_
        obtain ⟨r11, S12, h1r11, h⟩ := wq_bd_some h
        obtain ⟨S13, eS13, h⟩ := wq_lt_some h
        refine wq_callW (As := [.ref (b + 284), .int (wq_I 0), .int (wq_I (S9 568 t10))]) (mc := 2) (ms := 12) (n := 15) F K Kn lk_L_154 (wq_Cw_emb (o := 284) (ct_L_add hlt h1r11) (Nat.le_of_ble_eq_true rfl) wq_EL_b (wq_clt_at _)) ⟨(Nat.le_of_ble_eq_true rfl), (Nat.le_of_ble_eq_true rfl)⟩ ⟨by show cc + 2 + 2 ≤ room_1.cells; omega, by show ss + 12 + 12 ≤ room_1.slots; omega⟩ rfl rfl (Nat.le_of_ble_eq_true rfl) dL_law_95 rfl ?_
        refine wq_namS eS13 ?_
        refine wq_iload F dL_law_98 rfl rfl ?_
        refine wq_icmp_ne (tgt := 107) F dL_law_100 (by decide) rfl (fun hc => ?_) (fun hc => ?_)
        · replace h := wq_iff hc h
          exact wq_wid (k := cc + 4) (n := ss + 24) (by omega) (by omega) <| wq_lsub [some (.ref b0), some (.ref (b + 0)), some (.ref (b + 284)), some (.int (wq_I c3)), some (.ref (b + 568)), some (.ref (b + 569)), none, some (.int (wq_I y7)), none, none, none, none, none, none, none, none, none] (by simp [wq_sub]) (tj_L_law_107 (cc := cc + 4) (ss := ss + 24) (c9 := c9) (s9 := s9) F K Kn hlt hX hbl hbA (by omega) (by omega) hE hF hkx hrec S13 h)
        · replace h := wq_ift hc h
          refine wq_iconst (n := 1) F dL_law_103 rfl ?_
          refine wq_goto (tgt := 108) F dL_law_104 (by decide) ?_
          exact wq_wid (k := cc + 4) (n := ss + 24) (by omega) (by omega) <| wq_lsub [some (.ref b0), some (.ref (b + 0)), some (.ref (b + 284)), some (.int (wq_I c3)), some (.ref (b + 568)), some (.ref (b + 569)), none, some (.int (wq_I y7)), none, none, none, none, none, none, none, none, none] (by simp [wq_sub]) (tj_L_law_108 (cc := cc + 4) (ss := ss + 24) (c9 := c9) (s9 := s9) F K Kn hlt hX hbl hbA (by omega) (by omega) hE hF hkx hrec 1 S13 h)
set_option maxHeartbeats 40000000 in
set_option maxRecDepth 100000 in
theorem tl_L_law_44 {p : Program} {l : Launch} {e : Env} {s : State} {m : MethodId} {args : Array Value} {below : List Frame} {meth : Method} {c : Code} {D : va_G} {Ar : Nat → ClassId} {b : Nat} {Q : State → Prop} (F : wq_Fr p s m args meth c cL_law 17 (some .boolean) "WharfQueryLaw" D Ar) (K : wq_Kx b 570 s) (Kn : wq_Nx s) (hlt : l.stackTraces = false) {X : Nat → Int} {b0 LL : Nat} (hX : va_X b0 LL (fun j => wq_I (X j)) s s.heap) (hbl : b0 < s.heap.size) (hbA : ¬ wq_AX b 570 s.heap.size b0) {cE sE : Nat} (hE : cE ≤ room_1.cells) (hF : sE ≤ room_1.slots) (hM : 16 ≤ cE) (hN : 96 ≤ sE) {r0 : Int} {S0 : wq_St} {c3 : Int} {kx : Int → wq_St → Option (Int × wq_St)} (hkx : ∀ (u6 : Int) (S : wq_St), kx u6 S = some (r0, S0) → wq_Z p l e room_1 s m args below meth c D (wq_EL Ar b) b 570 17 (wq_AX b 570 s.heap.size) Q cE sE 116 [some (.ref b0), some (.ref (b + 0)), some (.ref (b + 284)), some (.int (wq_I c3)), some (.ref (b + 568)), some (.ref (b + 569)), some (.int (wq_I u6)), none, none, none, none, none, none, none, none, none, none] [] S) : ∀ (n : Nat), n ≤ 4 → ∀ (y6 : Int) (y7 : Int) (S : wq_St), l_L_law_44 X LL c3 kx n y6 y7 S = some (r0, S0) → wq_Z p l e room_1 s m args below meth c D (wq_EL Ar b) b 570 17 (wq_AX b 570 s.heap.size) Q (cE - 4 * n) (sE - 24 * n) 44 [some (.ref b0), some (.ref (b + 0)), some (.ref (b + 284)), some (.int (wq_I c3)), some (.ref (b + 568)), some (.ref (b + 569)), some (.int (wq_I y6)), some (.int (wq_I y7)), none, none, none, none, none, none, none, none, none] [] S
  | 0, _, y6, y7, S, h => absurd ((l_L_law_44_0 X LL c3 kx y6 y7 S).symm.trans h) (by simp)
  | n + 1, hn, y6, y7, S, h => tb_L_law_44 (cc := cE - 4 * (n + 1)) (ss := sE - 24 * (n + 1)) (c9 := cE - 4 * n) (s9 := sE - 24 * n) F K Kn hlt hX hbl hbA (by omega) (by omega) (by omega) (by omega) (fun u6 S9 h9 => wq_wid (by omega) (by omega) (hkx u6 S9 h9)) (fun y6 y7 S9 h9 => tl_L_law_44 F K Kn hlt hX hbl hbA hE hF hM hN hkx n (by omega) y6 y7 S9 h9) y6 y7 S ((l_L_law_44_s X LL c3 kx n y6 y7 S).symm.trans h)
set_option maxHeartbeats 40000000 in
set_option maxRecDepth 100000 in
theorem tj_L_law_963 {p : Program} {l : Launch} {e : Env} {s : State} {m : MethodId} {args : Array Value} {below : List Frame} {meth : Method} {c : Code} {D : va_G} {Ar : Nat → ClassId} {b : Nat} {Q : State → Prop} (F : wq_Fr p s m args meth c cL_law 17 (some .boolean) "WharfQueryLaw" D Ar) (K : wq_Kx b 570 s) (Kn : wq_Nx s) (hlt : l.stackTraces = false) {X : Nat → Int} {b0 LL : Nat} (hX : va_X b0 LL (fun j => wq_I (X j)) s s.heap) (hbl : b0 < s.heap.size) (hbA : ¬ wq_AX b 570 s.heap.size b0) {cc ss c9 s9 : Nat} (hC : cc + 0 ≤ c9) (hD : ss + 0 ≤ s9) (hE : c9 ≤ room_1.cells) (hF : s9 ≤ room_1.slots) {r0 : Int} {S0 : wq_St} {kx : Int → wq_St → Option (Int × wq_St)} {rec : Int → Int → wq_St → Option (Int × wq_St)} {j3 : Int} {j7 : Int} (hkx : ∀ (u6 : Int) (S : wq_St), kx u6 S = some (r0, S0) → wq_Z p l e room_1 s m args below meth c D (wq_EL Ar b) b 570 17 (wq_AX b 570 s.heap.size) Q c9 s9 971 [none, none, none, none, none, none, some (.int (wq_I u6)), none, none, none, none, none, none, none, none, none, none] [] S) (hrec : ∀ (y6 : Int) (y7 : Int) (S : wq_St), rec y6 y7 S = some (r0, S0) → wq_Z p l e room_1 s m args below meth c D (wq_EL Ar b) b 570 17 (wq_AX b 570 s.heap.size) Q c9 s9 119 [some (.ref b0), some (.ref (b + 0)), some (.ref (b + 284)), some (.int (wq_I j3)), some (.ref (b + 568)), some (.ref (b + 569)), some (.int (wq_I y6)), some (.int (wq_I y7)), none, none, none, none, none, none, none, none, none] [] S) (z0 : Int) (S : wq_St) (h : j_L_law_963 X LL kx rec j3 j7 z0 S = some (r0, S0)) : wq_Z p l e room_1 s m args below meth c D (wq_EL Ar b) b 570 17 (wq_AX b 570 s.heap.size) Q cc ss 963 [some (.ref b0), some (.ref (b + 0)), some (.ref (b + 284)), some (.int (wq_I j3)), some (.ref (b + 568)), some (.ref (b + 569)), none, some (.int (wq_I j7)), none, none, none, none, none, none, none, none, none] [.int (wq_I z0)] S := by
  unfold j_L_law_963 at h
  refine wq_istore (L' := [some (.ref b0), some (.ref (b + 0)), some (.ref (b + 284)), some (.int (wq_I j3)), some (.ref (b + 568)), some (.ref (b + 569)), some (.int (wq_I z0)), some (.int (wq_I j7)), none, none, none, none, none, none, none, none, none]) F dL_law_963 (by decide) rfl rfl rfl ?_
  refine wq_iinc (L' := [some (.ref b0), some (.ref (b + 0)), some (.ref (b + 284)), some (.int (wq_I j3)), some (.ref (b + 568)), some (.ref (b + 569)), some (.int (wq_I z0)), some (.int (wq_I (j7 + 1))), none, none, none, none, none, none, none, none, none]) F dL_law_965 rfl (by decide) rfl rfl rfl ?_
  refine wq_goto (tgt := 119) F dL_law_968 (by decide) ?_
  exact wq_wid (k := c9) (n := s9) (by omega) (by omega) <| wq_lsub [some (.ref b0), some (.ref (b + 0)), some (.ref (b + 284)), some (.int (wq_I j3)), some (.ref (b + 568)), some (.ref (b + 569)), some (.int (wq_I z0)), some (.int (wq_I (j7 + 1))), none, none, none, none, none, none, none, none, none] (by simp [wq_sub]) (hrec z0 (j7 + 1) S h)
set_option maxHeartbeats 40000000 in
set_option maxRecDepth 100000 in
theorem tj_L_law_962 {p : Program} {l : Launch} {e : Env} {s : State} {m : MethodId} {args : Array Value} {below : List Frame} {meth : Method} {c : Code} {D : va_G} {Ar : Nat → ClassId} {b : Nat} {Q : State → Prop} (F : wq_Fr p s m args meth c cL_law 17 (some .boolean) "WharfQueryLaw" D Ar) (K : wq_Kx b 570 s) (Kn : wq_Nx s) (hlt : l.stackTraces = false) {X : Nat → Int} {b0 LL : Nat} (hX : va_X b0 LL (fun j => wq_I (X j)) s s.heap) (hbl : b0 < s.heap.size) (hbA : ¬ wq_AX b 570 s.heap.size b0) {cc ss c9 s9 : Nat} (hC : cc + 0 ≤ c9) (hD : ss + 0 ≤ s9) (hE : c9 ≤ room_1.cells) (hF : s9 ≤ room_1.slots) {r0 : Int} {S0 : wq_St} {kx : Int → wq_St → Option (Int × wq_St)} {rec : Int → Int → wq_St → Option (Int × wq_St)} {j3 : Int} {j7 : Int} (hkx : ∀ (u6 : Int) (S : wq_St), kx u6 S = some (r0, S0) → wq_Z p l e room_1 s m args below meth c D (wq_EL Ar b) b 570 17 (wq_AX b 570 s.heap.size) Q c9 s9 971 [none, none, none, none, none, none, some (.int (wq_I u6)), none, none, none, none, none, none, none, none, none, none] [] S) (hrec : ∀ (y6 : Int) (y7 : Int) (S : wq_St), rec y6 y7 S = some (r0, S0) → wq_Z p l e room_1 s m args below meth c D (wq_EL Ar b) b 570 17 (wq_AX b 570 s.heap.size) Q c9 s9 119 [some (.ref b0), some (.ref (b + 0)), some (.ref (b + 284)), some (.int (wq_I j3)), some (.ref (b + 568)), some (.ref (b + 569)), some (.int (wq_I y6)), some (.int (wq_I y7)), none, none, none, none, none, none, none, none, none] [] S) (S : wq_St) (h : j_L_law_962 X LL kx rec j3 j7 S = some (r0, S0)) : wq_Z p l e room_1 s m args below meth c D (wq_EL Ar b) b 570 17 (wq_AX b 570 s.heap.size) Q cc ss 962 [some (.ref b0), some (.ref (b + 0)), some (.ref (b + 284)), some (.int (wq_I j3)), some (.ref (b + 568)), some (.ref (b + 569)), none, some (.int (wq_I j7)), none, none, none, none, none, none, none, none, none] [] S := by
  unfold j_L_law_962 at h
  refine wq_iconst (n := 0) F dL_law_962 rfl ?_
  exact wq_wid (k := cc + 0) (n := ss + 0) (by omega) (by omega) <| wq_lsub [some (.ref b0), some (.ref (b + 0)), some (.ref (b + 284)), some (.int (wq_I j3)), some (.ref (b + 568)), some (.ref (b + 569)), none, some (.int (wq_I j7)), none, none, none, none, none, none, none, none, none] (by simp [wq_sub]) (tj_L_law_963 (cc := cc + 0) (ss := ss + 0) (c9 := c9) (s9 := s9) F K Kn hlt hX hbl hbA (by omega) (by omega) hE hF hkx hrec 0 S h)
set_option maxHeartbeats 40000000 in
set_option maxRecDepth 100000 in
theorem tj_L_law_958 {p : Program} {l : Launch} {e : Env} {s : State} {m : MethodId} {args : Array Value} {below : List Frame} {meth : Method} {c : Code} {D : va_G} {Ar : Nat → ClassId} {b : Nat} {Q : State → Prop} (F : wq_Fr p s m args meth c cL_law 17 (some .boolean) "WharfQueryLaw" D Ar) (K : wq_Kx b 570 s) (Kn : wq_Nx s) (hlt : l.stackTraces = false) {X : Nat → Int} {b0 LL : Nat} (hX : va_X b0 LL (fun j => wq_I (X j)) s s.heap) (hbl : b0 < s.heap.size) (hbA : ¬ wq_AX b 570 s.heap.size b0) {cc ss c9 s9 : Nat} (hC : cc + 0 ≤ c9) (hD : ss + 0 ≤ s9) (hE : c9 ≤ room_1.cells) (hF : s9 ≤ room_1.slots) {r0 : Int} {S0 : wq_St} {kx : Int → wq_St → Option (Int × wq_St)} {rec : Int → Int → wq_St → Option (Int × wq_St)} {j3 : Int} {j7 : Int} (hkx : ∀ (u6 : Int) (S : wq_St), kx u6 S = some (r0, S0) → wq_Z p l e room_1 s m args below meth c D (wq_EL Ar b) b 570 17 (wq_AX b 570 s.heap.size) Q c9 s9 971 [none, none, none, none, none, none, some (.int (wq_I u6)), none, none, none, none, none, none, none, none, none, none] [] S) (hrec : ∀ (y6 : Int) (y7 : Int) (S : wq_St), rec y6 y7 S = some (r0, S0) → wq_Z p l e room_1 s m args below meth c D (wq_EL Ar b) b 570 17 (wq_AX b 570 s.heap.size) Q c9 s9 119 [some (.ref b0), some (.ref (b + 0)), some (.ref (b + 284)), some (.int (wq_I j3)), some (.ref (b + 568)), some (.ref (b + 569)), some (.int (wq_I y6)), some (.int (wq_I y7)), none, none, none, none, none, none, none, none, none] [] S) (S : wq_St) (h : j_L_law_958 X LL kx rec j3 j7 S = some (r0, S0)) : wq_Z p l e room_1 s m args below meth c D (wq_EL Ar b) b 570 17 (wq_AX b 570 s.heap.size) Q cc ss 958 [some (.ref b0), some (.ref (b + 0)), some (.ref (b + 284)), some (.int (wq_I j3)), some (.ref (b + 568)), some (.ref (b + 569)), none, some (.int (wq_I j7)), none, none, none, none, none, none, none, none, none] [] S := by
  unfold j_L_law_958 at h
  refine wq_iconst (n := 1) F dL_law_958 rfl ?_
  refine wq_goto (tgt := 963) F dL_law_959 (by decide) ?_
  exact wq_wid (k := cc + 0) (n := ss + 0) (by omega) (by omega) <| wq_lsub [some (.ref b0), some (.ref (b + 0)), some (.ref (b + 284)), some (.int (wq_I j3)), some (.ref (b + 568)), some (.ref (b + 569)), none, some (.int (wq_I j7)), none, none, none, none, none, none, none, none, none] (by simp [wq_sub]) (tj_L_law_963 (cc := cc + 0) (ss := ss + 0) (c9 := c9) (s9 := s9) F K Kn hlt hX hbl hbA (by omega) (by omega) hE hF hkx hrec 1 S h)
set_option maxHeartbeats 40000000 in
set_option maxRecDepth 100000 in
theorem tj_L_law_928 {p : Program} {l : Launch} {e : Env} {s : State} {m : MethodId} {args : Array Value} {below : List Frame} {meth : Method} {c : Code} {D : va_G} {Ar : Nat → ClassId} {b : Nat} {Q : State → Prop} (F : wq_Fr p s m args meth c cL_law 17 (some .boolean) "WharfQueryLaw" D Ar) (K : wq_Kx b 570 s) (Kn : wq_Nx s) (hlt : l.stackTraces = false) {X : Nat → Int} {b0 LL : Nat} (hX : va_X b0 LL (fun j => wq_I (X j)) s s.heap) (hbl : b0 < s.heap.size) (hbA : ¬ wq_AX b 570 s.heap.size b0) {cc ss c9 s9 : Nat} (hC : cc + 60 ≤ c9) (hD : ss + 360 ≤ s9) (hE : c9 ≤ room_1.cells) (hF : s9 ≤ room_1.slots) {r0 : Int} {S0 : wq_St} {kx : Int → wq_St → Option (Int × wq_St)} {rec : Int → Int → wq_St → Option (Int × wq_St)} {j3 : Int} {j6 : Int} {j7 : Int} {j8 : Int} (hkx : ∀ (u6 : Int) (S : wq_St), kx u6 S = some (r0, S0) → wq_Z p l e room_1 s m args below meth c D (wq_EL Ar b) b 570 17 (wq_AX b 570 s.heap.size) Q c9 s9 971 [none, none, none, none, none, none, some (.int (wq_I u6)), none, none, none, none, none, none, none, none, none, none] [] S) (hrec : ∀ (y6 : Int) (y7 : Int) (S : wq_St), rec y6 y7 S = some (r0, S0) → wq_Z p l e room_1 s m args below meth c D (wq_EL Ar b) b 570 17 (wq_AX b 570 s.heap.size) Q c9 s9 119 [some (.ref b0), some (.ref (b + 0)), some (.ref (b + 284)), some (.int (wq_I j3)), some (.ref (b + 568)), some (.ref (b + 569)), some (.int (wq_I y6)), some (.int (wq_I y7)), none, none, none, none, none, none, none, none, none] [] S) (S : wq_St) (h : j_L_law_928 X LL kx rec j3 j6 j7 j8 S = some (r0, S0)) : wq_Z p l e room_1 s m args below meth c D (wq_EL Ar b) b 570 17 (wq_AX b 570 s.heap.size) Q cc ss 928 [some (.ref b0), some (.ref (b + 0)), some (.ref (b + 284)), some (.int (wq_I j3)), some (.ref (b + 568)), some (.ref (b + 569)), some (.int (wq_I j6)), some (.int (wq_I j7)), some (.int (wq_I j8)), none, none, none, none, none, none, none, none] [] S := by
  unfold j_L_law_928 at h
  refine wq_iload F dL_law_928 rfl rfl ?_
  refine wq_if_eq (tgt := 962) F dL_law_930 (by decide) rfl (fun hc => ?_) (fun hc => ?_)
  · replace h := wq_ift hc h
    exact wq_wid (k := cc + 0) (n := ss + 0) (by omega) (by omega) <| wq_lsub [some (.ref b0), some (.ref (b + 0)), some (.ref (b + 284)), some (.int (wq_I j3)), some (.ref (b + 568)), some (.ref (b + 569)), none, some (.int (wq_I j7)), none, none, none, none, none, none, none, none, none] (by simp [wq_sub]) (tj_L_law_962 (cc := cc + 0) (ss := ss + 0) (c9 := c9) (s9 := s9) F K Kn hlt hX hbl hbA (by omega) (by omega) hE hF hkx hrec S h)
  · replace h := wq_iff hc h
    refine wq_iload F dL_law_933 rfl rfl ?_
    refine wq_iconst (n := 3) F dL_law_935 rfl ?_
    obtain ⟨hg, h⟩ := wq_gd_some h
    refine wq_irem (hy := hg) F dL_law_936 rfl ?_
    refine wq_iconst (n := 2) F dL_law_937 rfl ?_
    refine wq_icmp_lt (tgt := 958) F dL_law_938 (by decide) rfl (fun hc => ?_) (fun hc => ?_)
    · replace h := wq_ift hc h
      exact wq_wid (k := cc + 0) (n := ss + 0) (by omega) (by omega) <| wq_lsub [some (.ref b0), some (.ref (b + 0)), some (.ref (b + 284)), some (.int (wq_I j3)), some (.ref (b + 568)), some (.ref (b + 569)), none, some (.int (wq_I j7)), none, none, none, none, none, none, none, none, none] (by simp [wq_sub]) (tj_L_law_958 (cc := cc + 0) (ss := ss + 0) (c9 := c9) (s9 := s9) F K Kn hlt hX hbl hbA (by omega) (by omega) hE hF hkx hrec S h)
    · replace h := wq_iff hc h
      refine wq_aload_n F dL_law_941 rfl rfl rfl ?_
      refine wq_aload_n F dL_law_942 rfl rfl rfl ?_
      refine wq_aload F dL_law_943 rfl rfl ?_
      refine wq_aload F dL_law_945 rfl rfl ?_
      refine wq_iload F dL_law_947 rfl rfl ?_
      refine wq_iconst (n := 3) F dL_law_949 rfl ?_
      obtain ⟨hg, h⟩ := wq_gd_some h
      refine wq_idiv (hy := hg) F dL_law_950 rfl ?_
      refine wq_iload_n F dL_law_951 rfl rfl rfl ?_
      obtain ⟨r29, S30, h1r29, h⟩ := wq_bd_some h
      refine wq_callW0 (As := [.ref (b + 0), .ref (b + 284), .ref (b + 568), .ref (b + 569), .int (wq_I (wq_div j8 3)), .int (wq_I j3)]) (mc := 60) (ms := 360) (n := 16) F K Kn lk_L_171 (ct_L_same hlt h1r29) ⟨(Nat.le_of_ble_eq_true rfl), (Nat.le_of_ble_eq_true rfl)⟩ ⟨by show cc + 0 + 60 ≤ room_1.cells; omega, by show ss + 0 + 360 ≤ room_1.slots; omega⟩ rfl rfl (Nat.le_of_ble_eq_true rfl) dL_law_952 rfl ?_
      refine wq_if_eq (tgt := 962) F dL_law_955 (by decide) rfl (fun hc => ?_) (fun hc => ?_)
      · replace h := wq_ift hc h
        exact wq_wid (k := cc + 60) (n := ss + 360) (by omega) (by omega) <| wq_lsub [some (.ref b0), some (.ref (b + 0)), some (.ref (b + 284)), some (.int (wq_I j3)), some (.ref (b + 568)), some (.ref (b + 569)), none, some (.int (wq_I j7)), none, none, none, none, none, none, none, none, none] (by simp [wq_sub]) (tj_L_law_962 (cc := cc + 60) (ss := ss + 360) (c9 := c9) (s9 := s9) F K Kn hlt hX hbl hbA (by omega) (by omega) hE hF hkx hrec S30 h)
      · replace h := wq_iff hc h
        exact wq_wid (k := cc + 60) (n := ss + 360) (by omega) (by omega) <| wq_lsub [some (.ref b0), some (.ref (b + 0)), some (.ref (b + 284)), some (.int (wq_I j3)), some (.ref (b + 568)), some (.ref (b + 569)), none, some (.int (wq_I j7)), none, none, none, none, none, none, none, none, none] (by simp [wq_sub]) (tj_L_law_958 (cc := cc + 60) (ss := ss + 360) (c9 := c9) (s9 := s9) F K Kn hlt hX hbl hbA (by omega) (by omega) hE hF hkx hrec S30 h)
set_option maxHeartbeats 40000000 in
set_option maxRecDepth 100000 in
theorem tj_L_law_926 {p : Program} {l : Launch} {e : Env} {s : State} {m : MethodId} {args : Array Value} {below : List Frame} {meth : Method} {c : Code} {D : va_G} {Ar : Nat → ClassId} {b : Nat} {Q : State → Prop} (F : wq_Fr p s m args meth c cL_law 17 (some .boolean) "WharfQueryLaw" D Ar) (K : wq_Kx b 570 s) (Kn : wq_Nx s) (hlt : l.stackTraces = false) {X : Nat → Int} {b0 LL : Nat} (hX : va_X b0 LL (fun j => wq_I (X j)) s s.heap) (hbl : b0 < s.heap.size) (hbA : ¬ wq_AX b 570 s.heap.size b0) {cc ss c9 s9 : Nat} (hC : cc + 60 ≤ c9) (hD : ss + 360 ≤ s9) (hE : c9 ≤ room_1.cells) (hF : s9 ≤ room_1.slots) {r0 : Int} {S0 : wq_St} {kx : Int → wq_St → Option (Int × wq_St)} {rec : Int → Int → wq_St → Option (Int × wq_St)} {j3 : Int} {j7 : Int} {j8 : Int} (hkx : ∀ (u6 : Int) (S : wq_St), kx u6 S = some (r0, S0) → wq_Z p l e room_1 s m args below meth c D (wq_EL Ar b) b 570 17 (wq_AX b 570 s.heap.size) Q c9 s9 971 [none, none, none, none, none, none, some (.int (wq_I u6)), none, none, none, none, none, none, none, none, none, none] [] S) (hrec : ∀ (y6 : Int) (y7 : Int) (S : wq_St), rec y6 y7 S = some (r0, S0) → wq_Z p l e room_1 s m args below meth c D (wq_EL Ar b) b 570 17 (wq_AX b 570 s.heap.size) Q c9 s9 119 [some (.ref b0), some (.ref (b + 0)), some (.ref (b + 284)), some (.int (wq_I j3)), some (.ref (b + 568)), some (.ref (b + 569)), some (.int (wq_I y6)), some (.int (wq_I y7)), none, none, none, none, none, none, none, none, none] [] S) (z0 : Int) (S : wq_St) (h : j_L_law_926 X LL kx rec j3 j7 j8 z0 S = some (r0, S0)) : wq_Z p l e room_1 s m args below meth c D (wq_EL Ar b) b 570 17 (wq_AX b 570 s.heap.size) Q cc ss 926 [some (.ref b0), some (.ref (b + 0)), some (.ref (b + 284)), some (.int (wq_I j3)), some (.ref (b + 568)), some (.ref (b + 569)), none, some (.int (wq_I j7)), some (.int (wq_I j8)), none, none, none, none, none, none, none, none] [.int (wq_I z0)] S := by
  unfold j_L_law_926 at h
  refine wq_istore (L' := [some (.ref b0), some (.ref (b + 0)), some (.ref (b + 284)), some (.int (wq_I j3)), some (.ref (b + 568)), some (.ref (b + 569)), some (.int (wq_I z0)), some (.int (wq_I j7)), some (.int (wq_I j8)), none, none, none, none, none, none, none, none]) F dL_law_926 (by decide) rfl rfl rfl ?_
  exact wq_wid (k := cc + 0) (n := ss + 0) (by omega) (by omega) <| wq_lsub [some (.ref b0), some (.ref (b + 0)), some (.ref (b + 284)), some (.int (wq_I j3)), some (.ref (b + 568)), some (.ref (b + 569)), some (.int (wq_I z0)), some (.int (wq_I j7)), some (.int (wq_I j8)), none, none, none, none, none, none, none, none] (by simp [wq_sub]) (tj_L_law_928 (cc := cc + 0) (ss := ss + 0) (c9 := c9) (s9 := s9) F K Kn hlt hX hbl hbA (by omega) (by omega) hE hF hkx hrec S h)
set_option maxHeartbeats 40000000 in
set_option maxRecDepth 100000 in
theorem tj_L_law_881 {p : Program} {l : Launch} {e : Env} {s : State} {m : MethodId} {args : Array Value} {below : List Frame} {meth : Method} {c : Code} {D : va_G} {Ar : Nat → ClassId} {b : Nat} {Q : State → Prop} (F : wq_Fr p s m args meth c cL_law 17 (some .boolean) "WharfQueryLaw" D Ar) (K : wq_Kx b 570 s) (Kn : wq_Nx s) (hlt : l.stackTraces = false) {X : Nat → Int} {b0 LL : Nat} (hX : va_X b0 LL (fun j => wq_I (X j)) s s.heap) (hbl : b0 < s.heap.size) (hbA : ¬ wq_AX b 570 s.heap.size b0) {cc ss c9 s9 : Nat} (hC : cc + 60 ≤ c9) (hD : ss + 360 ≤ s9) (hE : c9 ≤ room_1.cells) (hF : s9 ≤ room_1.slots) {r0 : Int} {S0 : wq_St} {kx : Int → wq_St → Option (Int × wq_St)} {rec : Int → Int → wq_St → Option (Int × wq_St)} {j3 : Int} {j7 : Int} {j8 : Int} (hkx : ∀ (u6 : Int) (S : wq_St), kx u6 S = some (r0, S0) → wq_Z p l e room_1 s m args below meth c D (wq_EL Ar b) b 570 17 (wq_AX b 570 s.heap.size) Q c9 s9 971 [none, none, none, none, none, none, some (.int (wq_I u6)), none, none, none, none, none, none, none, none, none, none] [] S) (hrec : ∀ (y6 : Int) (y7 : Int) (S : wq_St), rec y6 y7 S = some (r0, S0) → wq_Z p l e room_1 s m args below meth c D (wq_EL Ar b) b 570 17 (wq_AX b 570 s.heap.size) Q c9 s9 119 [some (.ref b0), some (.ref (b + 0)), some (.ref (b + 284)), some (.int (wq_I j3)), some (.ref (b + 568)), some (.ref (b + 569)), some (.int (wq_I y6)), some (.int (wq_I y7)), none, none, none, none, none, none, none, none, none] [] S) (z0 : Int) (S : wq_St) (h : j_L_law_881 X LL kx rec j3 j7 j8 z0 S = some (r0, S0)) : wq_Z p l e room_1 s m args below meth c D (wq_EL Ar b) b 570 17 (wq_AX b 570 s.heap.size) Q cc ss 881 [some (.ref b0), some (.ref (b + 0)), some (.ref (b + 284)), some (.int (wq_I j3)), some (.ref (b + 568)), some (.ref (b + 569)), none, some (.int (wq_I j7)), some (.int (wq_I j8)), none, none, none, none, none, none, none, none] [.int (wq_I z0)] S := by
  unfold j_L_law_881 at h
  refine wq_istore (L' := [some (.ref b0), some (.ref (b + 0)), some (.ref (b + 284)), some (.int (wq_I j3)), some (.ref (b + 568)), some (.ref (b + 569)), some (.int (wq_I z0)), some (.int (wq_I j7)), some (.int (wq_I j8)), none, none, none, none, none, none, none, none]) F dL_law_881 (by decide) rfl rfl rfl ?_
  refine wq_goto (tgt := 928) F dL_law_883 (by decide) ?_
  exact wq_wid (k := cc + 0) (n := ss + 0) (by omega) (by omega) <| wq_lsub [some (.ref b0), some (.ref (b + 0)), some (.ref (b + 284)), some (.int (wq_I j3)), some (.ref (b + 568)), some (.ref (b + 569)), some (.int (wq_I z0)), some (.int (wq_I j7)), some (.int (wq_I j8)), none, none, none, none, none, none, none, none] (by simp [wq_sub]) (tj_L_law_928 (cc := cc + 0) (ss := ss + 0) (c9 := c9) (s9 := s9) F K Kn hlt hX hbl hbA (by omega) (by omega) hE hF hkx hrec S h)
set_option maxHeartbeats 40000000 in
set_option maxRecDepth 100000 in
theorem tj_L_law_859 {p : Program} {l : Launch} {e : Env} {s : State} {m : MethodId} {args : Array Value} {below : List Frame} {meth : Method} {c : Code} {D : va_G} {Ar : Nat → ClassId} {b : Nat} {Q : State → Prop} (F : wq_Fr p s m args meth c cL_law 17 (some .boolean) "WharfQueryLaw" D Ar) (K : wq_Kx b 570 s) (Kn : wq_Nx s) (hlt : l.stackTraces = false) {X : Nat → Int} {b0 LL : Nat} (hX : va_X b0 LL (fun j => wq_I (X j)) s s.heap) (hbl : b0 < s.heap.size) (hbA : ¬ wq_AX b 570 s.heap.size b0) {cc ss c9 s9 : Nat} (hC : cc + 63 ≤ c9) (hD : ss + 378 ≤ s9) (hE : c9 ≤ room_1.cells) (hF : s9 ≤ room_1.slots) {r0 : Int} {S0 : wq_St} {kx : Int → wq_St → Option (Int × wq_St)} {rec : Int → Int → wq_St → Option (Int × wq_St)} {j3 : Int} {j7 : Int} {j8 : Int} {j11 : Int} {j12 : Int} {j13 : Int} {j14 : Int} (hkx : ∀ (u6 : Int) (S : wq_St), kx u6 S = some (r0, S0) → wq_Z p l e room_1 s m args below meth c D (wq_EL Ar b) b 570 17 (wq_AX b 570 s.heap.size) Q c9 s9 971 [none, none, none, none, none, none, some (.int (wq_I u6)), none, none, none, none, none, none, none, none, none, none] [] S) (hrec : ∀ (y6 : Int) (y7 : Int) (S : wq_St), rec y6 y7 S = some (r0, S0) → wq_Z p l e room_1 s m args below meth c D (wq_EL Ar b) b 570 17 (wq_AX b 570 s.heap.size) Q c9 s9 119 [some (.ref b0), some (.ref (b + 0)), some (.ref (b + 284)), some (.int (wq_I j3)), some (.ref (b + 568)), some (.ref (b + 569)), some (.int (wq_I y6)), some (.int (wq_I y7)), none, none, none, none, none, none, none, none, none] [] S) (z0 : Int) (z1 : Int) (z2 : Int) (S : wq_St) (h : j_L_law_859 X LL kx rec j3 j7 j8 j11 j12 j13 j14 z0 z1 z2 S = some (r0, S0)) : wq_Z p l e room_1 s m args below meth c D (wq_EL Ar b) b 570 17 (wq_AX b 570 s.heap.size) Q cc ss 859 [some (.ref b0), some (.ref (b + 0)), some (.ref (b + 284)), some (.int (wq_I j3)), some (.ref (b + 568)), some (.ref (b + 569)), none, some (.int (wq_I j7)), some (.int (wq_I j8)), none, none, some (.int (wq_I j11)), some (.int (wq_I j12)), some (.int (wq_I j13)), some (.int (wq_I j14)), none, none] [.int (wq_I z0), .int (wq_I z1), .int (wq_I z2), .ref (b + 569)] S := by
  unfold j_L_law_859 at h
  refine wq_ior F dL_law_859 rfl ?_
  obtain ⟨t36, ht36, wt36, h⟩ := wq_ix_some h
  refine wq_iast F (Nat.le_of_ble_eq_true rfl) wq_EL_cnt wq_EL_cnt ht36 wt36 (Or.inl ⟨Nat.le_add_right _ _, Nat.add_lt_add_left (Nat.le_of_ble_eq_true rfl) b⟩) dL_law_860 rfl ?_
  obtain ⟨S37, eS37, h⟩ := wq_lt_some h
  refine wq_namS eS37 ?_
  refine wq_aload_n F dL_law_861 rfl rfl rfl ?_
  refine wq_iload F dL_law_862 rfl rfl ?_
  refine wq_iload F dL_law_864 rfl rfl ?_
  refine wq_iload F dL_law_866 rfl rfl ?_
  obtain ⟨r38, S39, h1r38, h⟩ := wq_bd_some h
  obtain ⟨S40, eS40, h⟩ := wq_lt_some h
  refine wq_callW (As := [.ref (b + 284), .int (wq_I j13), .int (wq_I j11), .int (wq_I j12)]) (mc := 3) (ms := 18) (n := 10) F K Kn lk_L_167 (wq_Cw_emb (o := 284) (ct_L_sums hlt h1r38) (Nat.le_of_ble_eq_true rfl) wq_EL_b (wq_clt_at _)) ⟨(Nat.le_of_ble_eq_true rfl), (Nat.le_of_ble_eq_true rfl)⟩ ⟨by show cc + 0 + 3 ≤ room_1.cells; omega, by show ss + 0 + 18 ≤ room_1.slots; omega⟩ rfl rfl (Nat.le_of_ble_eq_true rfl) dL_law_868 rfl ?_
  refine wq_namS eS40 ?_
  refine wq_iload F dL_law_871 rfl rfl ?_
  refine wq_icmp_ne (tgt := 880) F dL_law_873 (by decide) rfl (fun hc => ?_) (fun hc => ?_)
  · replace h := wq_iff hc h
    refine wq_iconst (n := 0) F dL_law_880 rfl ?_
    exact wq_wid (k := cc + 3) (n := ss + 18) (by omega) (by omega) <| wq_lsub [some (.ref b0), some (.ref (b + 0)), some (.ref (b + 284)), some (.int (wq_I j3)), some (.ref (b + 568)), some (.ref (b + 569)), none, some (.int (wq_I j7)), some (.int (wq_I j8)), none, none, none, none, none, none, none, none] (by simp [wq_sub]) (tj_L_law_881 (cc := cc + 3) (ss := ss + 18) (c9 := c9) (s9 := s9) F K Kn hlt hX hbl hbA (by omega) (by omega) hE hF hkx hrec 0 S40 h)
  · replace h := wq_ift hc h
    refine wq_iconst (n := 1) F dL_law_876 rfl ?_
    refine wq_goto (tgt := 881) F dL_law_877 (by decide) ?_
    exact wq_wid (k := cc + 3) (n := ss + 18) (by omega) (by omega) <| wq_lsub [some (.ref b0), some (.ref (b + 0)), some (.ref (b + 284)), some (.int (wq_I j3)), some (.ref (b + 568)), some (.ref (b + 569)), none, some (.int (wq_I j7)), some (.int (wq_I j8)), none, none, none, none, none, none, none, none] (by simp [wq_sub]) (tj_L_law_881 (cc := cc + 3) (ss := ss + 18) (c9 := c9) (s9 := s9) F K Kn hlt hX hbl hbA (by omega) (by omega) hE hF hkx hrec 1 S40 h)
set_option maxHeartbeats 40000000 in
set_option maxRecDepth 100000 in
theorem tj_L_law_817 {p : Program} {l : Launch} {e : Env} {s : State} {m : MethodId} {args : Array Value} {below : List Frame} {meth : Method} {c : Code} {D : va_G} {Ar : Nat → ClassId} {b : Nat} {Q : State → Prop} (F : wq_Fr p s m args meth c cL_law 17 (some .boolean) "WharfQueryLaw" D Ar) (K : wq_Kx b 570 s) (Kn : wq_Nx s) (hlt : l.stackTraces = false) {X : Nat → Int} {b0 LL : Nat} (hX : va_X b0 LL (fun j => wq_I (X j)) s s.heap) (hbl : b0 < s.heap.size) (hbA : ¬ wq_AX b 570 s.heap.size b0) {cc ss c9 s9 : Nat} (hC : cc + 60 ≤ c9) (hD : ss + 360 ≤ s9) (hE : c9 ≤ room_1.cells) (hF : s9 ≤ room_1.slots) {r0 : Int} {S0 : wq_St} {kx : Int → wq_St → Option (Int × wq_St)} {rec : Int → Int → wq_St → Option (Int × wq_St)} {j3 : Int} {j7 : Int} {j8 : Int} (hkx : ∀ (u6 : Int) (S : wq_St), kx u6 S = some (r0, S0) → wq_Z p l e room_1 s m args below meth c D (wq_EL Ar b) b 570 17 (wq_AX b 570 s.heap.size) Q c9 s9 971 [none, none, none, none, none, none, some (.int (wq_I u6)), none, none, none, none, none, none, none, none, none, none] [] S) (hrec : ∀ (y6 : Int) (y7 : Int) (S : wq_St), rec y6 y7 S = some (r0, S0) → wq_Z p l e room_1 s m args below meth c D (wq_EL Ar b) b 570 17 (wq_AX b 570 s.heap.size) Q c9 s9 119 [some (.ref b0), some (.ref (b + 0)), some (.ref (b + 284)), some (.int (wq_I j3)), some (.ref (b + 568)), some (.ref (b + 569)), some (.int (wq_I y6)), some (.int (wq_I y7)), none, none, none, none, none, none, none, none, none] [] S) (z0 : Int) (S : wq_St) (h : j_L_law_817 X LL kx rec j3 j7 j8 z0 S = some (r0, S0)) : wq_Z p l e room_1 s m args below meth c D (wq_EL Ar b) b 570 17 (wq_AX b 570 s.heap.size) Q cc ss 817 [some (.ref b0), some (.ref (b + 0)), some (.ref (b + 284)), some (.int (wq_I j3)), some (.ref (b + 568)), some (.ref (b + 569)), none, some (.int (wq_I j7)), some (.int (wq_I j8)), none, none, none, none, none, none, none, none] [.int (wq_I z0)] S := by
  unfold j_L_law_817 at h
  refine wq_istore (L' := [some (.ref b0), some (.ref (b + 0)), some (.ref (b + 284)), some (.int (wq_I j3)), some (.ref (b + 568)), some (.ref (b + 569)), some (.int (wq_I z0)), some (.int (wq_I j7)), some (.int (wq_I j8)), none, none, none, none, none, none, none, none]) F dL_law_817 (by decide) rfl rfl rfl ?_
  refine wq_goto (tgt := 928) F dL_law_819 (by decide) ?_
  exact wq_wid (k := cc + 0) (n := ss + 0) (by omega) (by omega) <| wq_lsub [some (.ref b0), some (.ref (b + 0)), some (.ref (b + 284)), some (.int (wq_I j3)), some (.ref (b + 568)), some (.ref (b + 569)), some (.int (wq_I z0)), some (.int (wq_I j7)), some (.int (wq_I j8)), none, none, none, none, none, none, none, none] (by simp [wq_sub]) (tj_L_law_928 (cc := cc + 0) (ss := ss + 0) (c9 := c9) (s9 := s9) F K Kn hlt hX hbl hbA (by omega) (by omega) hE hF hkx hrec S h)
set_option maxHeartbeats 40000000 in
set_option maxRecDepth 100000 in
theorem tj_L_law_783 {p : Program} {l : Launch} {e : Env} {s : State} {m : MethodId} {args : Array Value} {below : List Frame} {meth : Method} {c : Code} {D : va_G} {Ar : Nat → ClassId} {b : Nat} {Q : State → Prop} (F : wq_Fr p s m args meth c cL_law 17 (some .boolean) "WharfQueryLaw" D Ar) (K : wq_Kx b 570 s) (Kn : wq_Nx s) (hlt : l.stackTraces = false) {X : Nat → Int} {b0 LL : Nat} (hX : va_X b0 LL (fun j => wq_I (X j)) s s.heap) (hbl : b0 < s.heap.size) (hbA : ¬ wq_AX b 570 s.heap.size b0) {cc ss c9 s9 : Nat} (hC : cc + 60 ≤ c9) (hD : ss + 360 ≤ s9) (hE : c9 ≤ room_1.cells) (hF : s9 ≤ room_1.slots) {r0 : Int} {S0 : wq_St} {kx : Int → wq_St → Option (Int × wq_St)} {rec : Int → Int → wq_St → Option (Int × wq_St)} {j3 : Int} {j7 : Int} {j8 : Int} (hkx : ∀ (u6 : Int) (S : wq_St), kx u6 S = some (r0, S0) → wq_Z p l e room_1 s m args below meth c D (wq_EL Ar b) b 570 17 (wq_AX b 570 s.heap.size) Q c9 s9 971 [none, none, none, none, none, none, some (.int (wq_I u6)), none, none, none, none, none, none, none, none, none, none] [] S) (hrec : ∀ (y6 : Int) (y7 : Int) (S : wq_St), rec y6 y7 S = some (r0, S0) → wq_Z p l e room_1 s m args below meth c D (wq_EL Ar b) b 570 17 (wq_AX b 570 s.heap.size) Q c9 s9 119 [some (.ref b0), some (.ref (b + 0)), some (.ref (b + 284)), some (.int (wq_I j3)), some (.ref (b + 568)), some (.ref (b + 569)), some (.int (wq_I y6)), some (.int (wq_I y7)), none, none, none, none, none, none, none, none, none] [] S) (z0 : Int) (S : wq_St) (h : j_L_law_783 X LL kx rec j3 j7 j8 z0 S = some (r0, S0)) : wq_Z p l e room_1 s m args below meth c D (wq_EL Ar b) b 570 17 (wq_AX b 570 s.heap.size) Q cc ss 783 [some (.ref b0), some (.ref (b + 0)), some (.ref (b + 284)), some (.int (wq_I j3)), some (.ref (b + 568)), some (.ref (b + 569)), none, some (.int (wq_I j7)), some (.int (wq_I j8)), none, none, none, none, none, none, none, none] [.int (wq_I z0)] S := by
  unfold j_L_law_783 at h
  refine wq_istore (L' := [some (.ref b0), some (.ref (b + 0)), some (.ref (b + 284)), some (.int (wq_I j3)), some (.ref (b + 568)), some (.ref (b + 569)), some (.int (wq_I z0)), some (.int (wq_I j7)), some (.int (wq_I j8)), none, none, none, none, none, none, none, none]) F dL_law_783 (by decide) rfl rfl rfl ?_
  refine wq_goto (tgt := 928) F dL_law_785 (by decide) ?_
  exact wq_wid (k := cc + 0) (n := ss + 0) (by omega) (by omega) <| wq_lsub [some (.ref b0), some (.ref (b + 0)), some (.ref (b + 284)), some (.int (wq_I j3)), some (.ref (b + 568)), some (.ref (b + 569)), some (.int (wq_I z0)), some (.int (wq_I j7)), some (.int (wq_I j8)), none, none, none, none, none, none, none, none] (by simp [wq_sub]) (tj_L_law_928 (cc := cc + 0) (ss := ss + 0) (c9 := c9) (s9 := s9) F K Kn hlt hX hbl hbA (by omega) (by omega) hE hF hkx hrec S h)
set_option maxHeartbeats 40000000 in
set_option maxRecDepth 100000 in
theorem tj_L_law_764 {p : Program} {l : Launch} {e : Env} {s : State} {m : MethodId} {args : Array Value} {below : List Frame} {meth : Method} {c : Code} {D : va_G} {Ar : Nat → ClassId} {b : Nat} {Q : State → Prop} (F : wq_Fr p s m args meth c cL_law 17 (some .boolean) "WharfQueryLaw" D Ar) (K : wq_Kx b 570 s) (Kn : wq_Nx s) (hlt : l.stackTraces = false) {X : Nat → Int} {b0 LL : Nat} (hX : va_X b0 LL (fun j => wq_I (X j)) s s.heap) (hbl : b0 < s.heap.size) (hbA : ¬ wq_AX b 570 s.heap.size b0) {cc ss c9 s9 : Nat} (hC : cc + 67 ≤ c9) (hD : ss + 402 ≤ s9) (hE : c9 ≤ room_1.cells) (hF : s9 ≤ room_1.slots) {r0 : Int} {S0 : wq_St} {kx : Int → wq_St → Option (Int × wq_St)} {rec : Int → Int → wq_St → Option (Int × wq_St)} {j3 : Int} {j7 : Int} {j8 : Int} {j10 : Int} (hkx : ∀ (u6 : Int) (S : wq_St), kx u6 S = some (r0, S0) → wq_Z p l e room_1 s m args below meth c D (wq_EL Ar b) b 570 17 (wq_AX b 570 s.heap.size) Q c9 s9 971 [none, none, none, none, none, none, some (.int (wq_I u6)), none, none, none, none, none, none, none, none, none, none] [] S) (hrec : ∀ (y6 : Int) (y7 : Int) (S : wq_St), rec y6 y7 S = some (r0, S0) → wq_Z p l e room_1 s m args below meth c D (wq_EL Ar b) b 570 17 (wq_AX b 570 s.heap.size) Q c9 s9 119 [some (.ref b0), some (.ref (b + 0)), some (.ref (b + 284)), some (.int (wq_I j3)), some (.ref (b + 568)), some (.ref (b + 569)), some (.int (wq_I y6)), some (.int (wq_I y7)), none, none, none, none, none, none, none, none, none] [] S) (z0 : Int) (z1 : Int) (z2 : Int) (z3 : Int) (z4 : Int) (z6 : Int) (S : wq_St) (h : j_L_law_764 X LL kx rec j3 j7 j8 j10 z0 z1 z2 z3 z4 z6 S = some (r0, S0)) : wq_Z p l e room_1 s m args below meth c D (wq_EL Ar b) b 570 17 (wq_AX b 570 s.heap.size) Q cc ss 764 [some (.ref b0), some (.ref (b + 0)), some (.ref (b + 284)), some (.int (wq_I j3)), some (.ref (b + 568)), some (.ref (b + 569)), none, some (.int (wq_I j7)), some (.int (wq_I j8)), none, some (.int (wq_I j10)), none, none, none, none, none, none] [.int (wq_I z0), .int (wq_I z1), .int (wq_I z2), .int (wq_I z3), .int (wq_I z4), .ref (b + 284), .int (wq_I z6)] S := by
  unfold j_L_law_764 at h
  refine wq_iload F dL_law_764 rfl rfl ?_
  refine wq_sipush (n := 972) F dL_law_766 (by decide) rfl ?_
  obtain ⟨hg, h⟩ := wq_gd_some h
  refine wq_idiv (hy := hg) F dL_law_769 rfl ?_
  refine wq_iconst (n := 3) F dL_law_770 rfl ?_
  obtain ⟨hg, h⟩ := wq_gd_some h
  refine wq_irem (hy := hg) F dL_law_771 rfl ?_
  obtain ⟨r50, S51, h1r50, h⟩ := wq_bd_some h
  obtain ⟨S52, eS52, h⟩ := wq_lt_some h
  refine wq_callW (As := [.ref (b + 284), .int (wq_I z4), .int (wq_I z3), .int (wq_I z2), .int (wq_I z1), .int (wq_I z0), .int (wq_I (wq_rem (wq_div j10 972) 3))]) (mc := 7) (ms := 42) (n := 10) F K Kn lk_L_163 (wq_Cw_emb (o := 284) (ct_L_ask hlt h1r50) (Nat.le_of_ble_eq_true rfl) wq_EL_b (wq_clt_at _)) ⟨(Nat.le_of_ble_eq_true rfl), (Nat.le_of_ble_eq_true rfl)⟩ ⟨by show cc + 0 + 7 ≤ room_1.cells; omega, by show ss + 0 + 42 ≤ room_1.slots; omega⟩ rfl rfl (Nat.le_of_ble_eq_true rfl) dL_law_772 rfl ?_
  refine wq_namS eS52 ?_
  refine wq_icmp_ne (tgt := 782) F dL_law_775 (by decide) rfl (fun hc => ?_) (fun hc => ?_)
  · replace h := wq_iff hc h
    refine wq_iconst (n := 0) F dL_law_782 rfl ?_
    exact wq_wid (k := cc + 7) (n := ss + 42) (by omega) (by omega) <| wq_lsub [some (.ref b0), some (.ref (b + 0)), some (.ref (b + 284)), some (.int (wq_I j3)), some (.ref (b + 568)), some (.ref (b + 569)), none, some (.int (wq_I j7)), some (.int (wq_I j8)), none, none, none, none, none, none, none, none] (by simp [wq_sub]) (tj_L_law_783 (cc := cc + 7) (ss := ss + 42) (c9 := c9) (s9 := s9) F K Kn hlt hX hbl hbA (by omega) (by omega) hE hF hkx hrec 0 S52 h)
  · replace h := wq_ift hc h
    refine wq_iconst (n := 1) F dL_law_778 rfl ?_
    refine wq_goto (tgt := 783) F dL_law_779 (by decide) ?_
    exact wq_wid (k := cc + 7) (n := ss + 42) (by omega) (by omega) <| wq_lsub [some (.ref b0), some (.ref (b + 0)), some (.ref (b + 284)), some (.int (wq_I j3)), some (.ref (b + 568)), some (.ref (b + 569)), none, some (.int (wq_I j7)), some (.int (wq_I j8)), none, none, none, none, none, none, none, none] (by simp [wq_sub]) (tj_L_law_783 (cc := cc + 7) (ss := ss + 42) (c9 := c9) (s9 := s9) F K Kn hlt hX hbl hbA (by omega) (by omega) hE hF hkx hrec 1 S52 h)
set_option maxHeartbeats 40000000 in
set_option maxRecDepth 100000 in
theorem tj_L_law_716 {p : Program} {l : Launch} {e : Env} {s : State} {m : MethodId} {args : Array Value} {below : List Frame} {meth : Method} {c : Code} {D : va_G} {Ar : Nat → ClassId} {b : Nat} {Q : State → Prop} (F : wq_Fr p s m args meth c cL_law 17 (some .boolean) "WharfQueryLaw" D Ar) (K : wq_Kx b 570 s) (Kn : wq_Nx s) (hlt : l.stackTraces = false) {X : Nat → Int} {b0 LL : Nat} (hX : va_X b0 LL (fun j => wq_I (X j)) s s.heap) (hbl : b0 < s.heap.size) (hbA : ¬ wq_AX b 570 s.heap.size b0) {cc ss c9 s9 : Nat} (hC : cc + 74 ≤ c9) (hD : ss + 444 ≤ s9) (hE : c9 ≤ room_1.cells) (hF : s9 ≤ room_1.slots) {r0 : Int} {S0 : wq_St} {kx : Int → wq_St → Option (Int × wq_St)} {rec : Int → Int → wq_St → Option (Int × wq_St)} {j3 : Int} {j7 : Int} {j8 : Int} {j10 : Int} {j11 : Int} {j12 : Int} {j13 : Int} {j14 : Int} (hkx : ∀ (u6 : Int) (S : wq_St), kx u6 S = some (r0, S0) → wq_Z p l e room_1 s m args below meth c D (wq_EL Ar b) b 570 17 (wq_AX b 570 s.heap.size) Q c9 s9 971 [none, none, none, none, none, none, some (.int (wq_I u6)), none, none, none, none, none, none, none, none, none, none] [] S) (hrec : ∀ (y6 : Int) (y7 : Int) (S : wq_St), rec y6 y7 S = some (r0, S0) → wq_Z p l e room_1 s m args below meth c D (wq_EL Ar b) b 570 17 (wq_AX b 570 s.heap.size) Q c9 s9 119 [some (.ref b0), some (.ref (b + 0)), some (.ref (b + 284)), some (.int (wq_I j3)), some (.ref (b + 568)), some (.ref (b + 569)), some (.int (wq_I y6)), some (.int (wq_I y7)), none, none, none, none, none, none, none, none, none] [] S) (z0 : Int) (S : wq_St) (h : j_L_law_716 X LL kx rec j3 j7 j8 j10 j11 j12 j13 j14 z0 S = some (r0, S0)) : wq_Z p l e room_1 s m args below meth c D (wq_EL Ar b) b 570 17 (wq_AX b 570 s.heap.size) Q cc ss 716 [some (.ref b0), some (.ref (b + 0)), some (.ref (b + 284)), some (.int (wq_I j3)), some (.ref (b + 568)), some (.ref (b + 569)), none, some (.int (wq_I j7)), some (.int (wq_I j8)), none, some (.int (wq_I j10)), some (.int (wq_I j11)), some (.int (wq_I j12)), some (.int (wq_I j13)), some (.int (wq_I j14)), none, none] [.int (wq_I z0)] S := by
  unfold j_L_law_716 at h
  refine wq_istore (L' := [some (.ref b0), some (.ref (b + 0)), some (.ref (b + 284)), some (.int (wq_I j3)), some (.ref (b + 568)), some (.ref (b + 569)), none, some (.int (wq_I j7)), some (.int (wq_I j8)), none, some (.int (wq_I j10)), some (.int (wq_I j11)), some (.int (wq_I j12)), some (.int (wq_I j13)), some (.int (wq_I j14)), some (.int (wq_I z0)), none]) F dL_law_716 (by decide) rfl rfl rfl ?_
  refine wq_aload_n F dL_law_718 rfl rfl rfl ?_
  refine wq_iload F dL_law_719 rfl rfl ?_
  refine wq_iload F dL_law_721 rfl rfl ?_
  refine wq_iload F dL_law_723 rfl rfl ?_
  refine wq_iload F dL_law_725 rfl rfl ?_
  refine wq_iload F dL_law_727 rfl rfl ?_
  refine wq_iload F dL_law_729 rfl rfl ?_
  refine wq_sipush (n := 972) F dL_law_731 (by decide) rfl ?_
  obtain ⟨hg, h⟩ := wq_gd_some h
  refine wq_idiv (hy := hg) F dL_law_734 rfl ?_
  refine wq_iconst (n := 3) F dL_law_735 rfl ?_
  obtain ⟨hg, h⟩ := wq_gd_some h
  refine wq_irem (hy := hg) F dL_law_736 rfl ?_
  obtain ⟨r47, S48, h1r47, h⟩ := wq_bd_some h
  obtain ⟨S49, eS49, h⟩ := wq_lt_some h
  refine wq_callW (As := [.ref (b + 0), .int (wq_I j13), .int (wq_I j11), .int (wq_I j12), .int (wq_I j14), .int (wq_I z0), .int (wq_I (wq_rem (wq_div j10 972) 3))]) (mc := 7) (ms := 42) (n := 10) F K Kn lk_L_163 (wq_Cw_emb (o := 0) (ct_L_ask hlt h1r47) (Nat.le_of_ble_eq_true rfl) wq_EL_a (wq_cls_at _)) ⟨(Nat.le_of_ble_eq_true rfl), (Nat.le_of_ble_eq_true rfl)⟩ ⟨by show cc + 0 + 7 ≤ room_1.cells; omega, by show ss + 0 + 42 ≤ room_1.slots; omega⟩ rfl rfl (Nat.le_of_ble_eq_true rfl) dL_law_737 rfl ?_
  refine wq_namS eS49 ?_
  refine wq_aload_n F dL_law_740 rfl rfl rfl ?_
  refine wq_iload F dL_law_741 rfl rfl ?_
  refine wq_iload F dL_law_743 rfl rfl ?_
  refine wq_iload F dL_law_745 rfl rfl ?_
  refine wq_iload F dL_law_747 rfl rfl ?_
  refine wq_iload F dL_law_749 rfl rfl ?_
  refine wq_iconst (n := 3) F dL_law_751 rfl ?_
  refine wq_icmp_ne (tgt := 760) F dL_law_752 (by decide) rfl (fun hc => ?_) (fun hc => ?_)
  · replace h := wq_iff hc h
    refine wq_iload F dL_law_760 rfl rfl ?_
    refine wq_iload_n F dL_law_762 rfl rfl rfl ?_
    refine wq_iadd F dL_law_763 rfl ?_
    exact wq_wid (k := cc + 7) (n := ss + 42) (by omega) (by omega) <| wq_lsub [some (.ref b0), some (.ref (b + 0)), some (.ref (b + 284)), some (.int (wq_I j3)), some (.ref (b + 568)), some (.ref (b + 569)), none, some (.int (wq_I j7)), some (.int (wq_I j8)), none, some (.int (wq_I j10)), none, none, none, none, none, none] (by simp [wq_sub]) (tj_L_law_764 (cc := cc + 7) (ss := ss + 42) (c9 := c9) (s9 := s9) F K Kn hlt hX hbl hbA (by omega) (by omega) hE hF hkx hrec (z0 + j3) j14 j12 j11 j13 r47 S49 h)
  · replace h := wq_ift hc h
    refine wq_iload F dL_law_755 rfl rfl ?_
    refine wq_goto (tgt := 764) F dL_law_757 (by decide) ?_
    exact wq_wid (k := cc + 7) (n := ss + 42) (by omega) (by omega) <| wq_lsub [some (.ref b0), some (.ref (b + 0)), some (.ref (b + 284)), some (.int (wq_I j3)), some (.ref (b + 568)), some (.ref (b + 569)), none, some (.int (wq_I j7)), some (.int (wq_I j8)), none, some (.int (wq_I j10)), none, none, none, none, none, none] (by simp [wq_sub]) (tj_L_law_764 (cc := cc + 7) (ss := ss + 42) (c9 := c9) (s9 := s9) F K Kn hlt hX hbl hbA (by omega) (by omega) hE hF hkx hrec z0 j14 j12 j11 j13 r47 S49 h)
set_option maxHeartbeats 40000000 in
set_option maxRecDepth 100000 in
theorem tj_L_law_668 {p : Program} {l : Launch} {e : Env} {s : State} {m : MethodId} {args : Array Value} {below : List Frame} {meth : Method} {c : Code} {D : va_G} {Ar : Nat → ClassId} {b : Nat} {Q : State → Prop} (F : wq_Fr p s m args meth c cL_law 17 (some .boolean) "WharfQueryLaw" D Ar) (K : wq_Kx b 570 s) (Kn : wq_Nx s) (hlt : l.stackTraces = false) {X : Nat → Int} {b0 LL : Nat} (hX : va_X b0 LL (fun j => wq_I (X j)) s s.heap) (hbl : b0 < s.heap.size) (hbA : ¬ wq_AX b 570 s.heap.size b0) {cc ss c9 s9 : Nat} (hC : cc + 60 ≤ c9) (hD : ss + 360 ≤ s9) (hE : c9 ≤ room_1.cells) (hF : s9 ≤ room_1.slots) {r0 : Int} {S0 : wq_St} {kx : Int → wq_St → Option (Int × wq_St)} {rec : Int → Int → wq_St → Option (Int × wq_St)} {j3 : Int} {j7 : Int} {j8 : Int} (hkx : ∀ (u6 : Int) (S : wq_St), kx u6 S = some (r0, S0) → wq_Z p l e room_1 s m args below meth c D (wq_EL Ar b) b 570 17 (wq_AX b 570 s.heap.size) Q c9 s9 971 [none, none, none, none, none, none, some (.int (wq_I u6)), none, none, none, none, none, none, none, none, none, none] [] S) (hrec : ∀ (y6 : Int) (y7 : Int) (S : wq_St), rec y6 y7 S = some (r0, S0) → wq_Z p l e room_1 s m args below meth c D (wq_EL Ar b) b 570 17 (wq_AX b 570 s.heap.size) Q c9 s9 119 [some (.ref b0), some (.ref (b + 0)), some (.ref (b + 284)), some (.int (wq_I j3)), some (.ref (b + 568)), some (.ref (b + 569)), some (.int (wq_I y6)), some (.int (wq_I y7)), none, none, none, none, none, none, none, none, none] [] S) (z0 : Int) (S : wq_St) (h : j_L_law_668 X LL kx rec j3 j7 j8 z0 S = some (r0, S0)) : wq_Z p l e room_1 s m args below meth c D (wq_EL Ar b) b 570 17 (wq_AX b 570 s.heap.size) Q cc ss 668 [some (.ref b0), some (.ref (b + 0)), some (.ref (b + 284)), some (.int (wq_I j3)), some (.ref (b + 568)), some (.ref (b + 569)), none, some (.int (wq_I j7)), some (.int (wq_I j8)), none, none, none, none, none, none, none, none] [.int (wq_I z0)] S := by
  unfold j_L_law_668 at h
  refine wq_istore (L' := [some (.ref b0), some (.ref (b + 0)), some (.ref (b + 284)), some (.int (wq_I j3)), some (.ref (b + 568)), some (.ref (b + 569)), some (.int (wq_I z0)), some (.int (wq_I j7)), some (.int (wq_I j8)), none, none, none, none, none, none, none, none]) F dL_law_668 (by decide) rfl rfl rfl ?_
  refine wq_goto (tgt := 928) F dL_law_670 (by decide) ?_
  exact wq_wid (k := cc + 0) (n := ss + 0) (by omega) (by omega) <| wq_lsub [some (.ref b0), some (.ref (b + 0)), some (.ref (b + 284)), some (.int (wq_I j3)), some (.ref (b + 568)), some (.ref (b + 569)), some (.int (wq_I z0)), some (.int (wq_I j7)), some (.int (wq_I j8)), none, none, none, none, none, none, none, none] (by simp [wq_sub]) (tj_L_law_928 (cc := cc + 0) (ss := ss + 0) (c9 := c9) (s9 := s9) F K Kn hlt hX hbl hbA (by omega) (by omega) hE hF hkx hrec S h)
set_option maxHeartbeats 40000000 in
set_option maxRecDepth 100000 in
theorem tj_L_law_630 {p : Program} {l : Launch} {e : Env} {s : State} {m : MethodId} {args : Array Value} {below : List Frame} {meth : Method} {c : Code} {D : va_G} {Ar : Nat → ClassId} {b : Nat} {Q : State → Prop} (F : wq_Fr p s m args meth c cL_law 17 (some .boolean) "WharfQueryLaw" D Ar) (K : wq_Kx b 570 s) (Kn : wq_Nx s) (hlt : l.stackTraces = false) {X : Nat → Int} {b0 LL : Nat} (hX : va_X b0 LL (fun j => wq_I (X j)) s s.heap) (hbl : b0 < s.heap.size) (hbA : ¬ wq_AX b 570 s.heap.size b0) {cc ss c9 s9 : Nat} (hC : cc + 60 ≤ c9) (hD : ss + 360 ≤ s9) (hE : c9 ≤ room_1.cells) (hF : s9 ≤ room_1.slots) {r0 : Int} {S0 : wq_St} {kx : Int → wq_St → Option (Int × wq_St)} {rec : Int → Int → wq_St → Option (Int × wq_St)} {j3 : Int} {j7 : Int} {j8 : Int} (hkx : ∀ (u6 : Int) (S : wq_St), kx u6 S = some (r0, S0) → wq_Z p l e room_1 s m args below meth c D (wq_EL Ar b) b 570 17 (wq_AX b 570 s.heap.size) Q c9 s9 971 [none, none, none, none, none, none, some (.int (wq_I u6)), none, none, none, none, none, none, none, none, none, none] [] S) (hrec : ∀ (y6 : Int) (y7 : Int) (S : wq_St), rec y6 y7 S = some (r0, S0) → wq_Z p l e room_1 s m args below meth c D (wq_EL Ar b) b 570 17 (wq_AX b 570 s.heap.size) Q c9 s9 119 [some (.ref b0), some (.ref (b + 0)), some (.ref (b + 284)), some (.int (wq_I j3)), some (.ref (b + 568)), some (.ref (b + 569)), some (.int (wq_I y6)), some (.int (wq_I y7)), none, none, none, none, none, none, none, none, none] [] S) (z0 : Int) (S : wq_St) (h : j_L_law_630 X LL kx rec j3 j7 j8 z0 S = some (r0, S0)) : wq_Z p l e room_1 s m args below meth c D (wq_EL Ar b) b 570 17 (wq_AX b 570 s.heap.size) Q cc ss 630 [some (.ref b0), some (.ref (b + 0)), some (.ref (b + 284)), some (.int (wq_I j3)), some (.ref (b + 568)), some (.ref (b + 569)), none, some (.int (wq_I j7)), some (.int (wq_I j8)), none, none, none, none, none, none, none, none] [.int (wq_I z0)] S := by
  unfold j_L_law_630 at h
  refine wq_istore (L' := [some (.ref b0), some (.ref (b + 0)), some (.ref (b + 284)), some (.int (wq_I j3)), some (.ref (b + 568)), some (.ref (b + 569)), some (.int (wq_I z0)), some (.int (wq_I j7)), some (.int (wq_I j8)), none, none, none, none, none, none, none, none]) F dL_law_630 (by decide) rfl rfl rfl ?_
  refine wq_goto (tgt := 928) F dL_law_632 (by decide) ?_
  exact wq_wid (k := cc + 0) (n := ss + 0) (by omega) (by omega) <| wq_lsub [some (.ref b0), some (.ref (b + 0)), some (.ref (b + 284)), some (.int (wq_I j3)), some (.ref (b + 568)), some (.ref (b + 569)), some (.int (wq_I z0)), some (.int (wq_I j7)), some (.int (wq_I j8)), none, none, none, none, none, none, none, none] (by simp [wq_sub]) (tj_L_law_928 (cc := cc + 0) (ss := ss + 0) (c9 := c9) (s9 := s9) F K Kn hlt hX hbl hbA (by omega) (by omega) hE hF hkx hrec S h)
set_option maxHeartbeats 40000000 in
set_option maxRecDepth 100000 in
theorem tj_L_law_609 {p : Program} {l : Launch} {e : Env} {s : State} {m : MethodId} {args : Array Value} {below : List Frame} {meth : Method} {c : Code} {D : va_G} {Ar : Nat → ClassId} {b : Nat} {Q : State → Prop} (F : wq_Fr p s m args meth c cL_law 17 (some .boolean) "WharfQueryLaw" D Ar) (K : wq_Kx b 570 s) (Kn : wq_Nx s) (hlt : l.stackTraces = false) {X : Nat → Int} {b0 LL : Nat} (hX : va_X b0 LL (fun j => wq_I (X j)) s s.heap) (hbl : b0 < s.heap.size) (hbA : ¬ wq_AX b 570 s.heap.size b0) {cc ss c9 s9 : Nat} (hC : cc + 62 ≤ c9) (hD : ss + 372 ≤ s9) (hE : c9 ≤ room_1.cells) (hF : s9 ≤ room_1.slots) {r0 : Int} {S0 : wq_St} {kx : Int → wq_St → Option (Int × wq_St)} {rec : Int → Int → wq_St → Option (Int × wq_St)} {j3 : Int} {j7 : Int} {j8 : Int} {j10 : Int} {j14 : Int} (hkx : ∀ (u6 : Int) (S : wq_St), kx u6 S = some (r0, S0) → wq_Z p l e room_1 s m args below meth c D (wq_EL Ar b) b 570 17 (wq_AX b 570 s.heap.size) Q c9 s9 971 [none, none, none, none, none, none, some (.int (wq_I u6)), none, none, none, none, none, none, none, none, none, none] [] S) (hrec : ∀ (y6 : Int) (y7 : Int) (S : wq_St), rec y6 y7 S = some (r0, S0) → wq_Z p l e room_1 s m args below meth c D (wq_EL Ar b) b 570 17 (wq_AX b 570 s.heap.size) Q c9 s9 119 [some (.ref b0), some (.ref (b + 0)), some (.ref (b + 284)), some (.int (wq_I j3)), some (.ref (b + 568)), some (.ref (b + 569)), some (.int (wq_I y6)), some (.int (wq_I y7)), none, none, none, none, none, none, none, none, none] [] S) (z0 : Int) (z1 : Int) (z2 : Int) (S : wq_St) (h : j_L_law_609 X LL kx rec j3 j7 j8 j10 j14 z0 z1 z2 S = some (r0, S0)) : wq_Z p l e room_1 s m args below meth c D (wq_EL Ar b) b 570 17 (wq_AX b 570 s.heap.size) Q cc ss 609 [some (.ref b0), some (.ref (b + 0)), some (.ref (b + 284)), some (.int (wq_I j3)), some (.ref (b + 568)), some (.ref (b + 569)), none, some (.int (wq_I j7)), some (.int (wq_I j8)), none, some (.int (wq_I j10)), none, none, none, some (.int (wq_I j14)), none, none] [.int (wq_I z0), .int (wq_I z1), .int (wq_I z2), .ref (b + 569)] S := by
  unfold j_L_law_609 at h
  refine wq_iadd F dL_law_609 rfl ?_
  obtain ⟨t63, ht63, wt63, h⟩ := wq_ix_some h
  refine wq_iast F (Nat.le_of_ble_eq_true rfl) wq_EL_cnt wq_EL_cnt ht63 wt63 (Or.inl ⟨Nat.le_add_right _ _, Nat.add_lt_add_left (Nat.le_of_ble_eq_true rfl) b⟩) dL_law_610 rfl ?_
  obtain ⟨S64, eS64, h⟩ := wq_lt_some h
  refine wq_namS eS64 ?_
  refine wq_aload_n F dL_law_611 rfl rfl rfl ?_
  refine wq_iconst (n := 1) F dL_law_612 rfl ?_
  refine wq_iload F dL_law_613 rfl rfl ?_
  refine wq_iconst (n := 5) F dL_law_615 rfl ?_
  obtain ⟨hg, h⟩ := wq_gd_some h
  refine wq_irem (hy := hg) F dL_law_616 rfl ?_
  obtain ⟨r65, S66, h1r65, h⟩ := wq_bd_some h
  obtain ⟨S67, eS67, h⟩ := wq_lt_some h
  refine wq_callW (As := [.ref (b + 284), .int (wq_I 1), .int (wq_I (wq_rem j10 5))]) (mc := 2) (ms := 12) (n := 15) F K Kn lk_L_154 (wq_Cw_emb (o := 284) (ct_L_add hlt h1r65) (Nat.le_of_ble_eq_true rfl) wq_EL_b (wq_clt_at _)) ⟨(Nat.le_of_ble_eq_true rfl), (Nat.le_of_ble_eq_true rfl)⟩ ⟨by show cc + 0 + 2 ≤ room_1.cells; omega, by show ss + 0 + 12 ≤ room_1.slots; omega⟩ rfl rfl (Nat.le_of_ble_eq_true rfl) dL_law_617 rfl ?_
  refine wq_namS eS67 ?_
  refine wq_iload F dL_law_620 rfl rfl ?_
  refine wq_icmp_ne (tgt := 629) F dL_law_622 (by decide) rfl (fun hc => ?_) (fun hc => ?_)
  · replace h := wq_iff hc h
    refine wq_iconst (n := 0) F dL_law_629 rfl ?_
    exact wq_wid (k := cc + 2) (n := ss + 12) (by omega) (by omega) <| wq_lsub [some (.ref b0), some (.ref (b + 0)), some (.ref (b + 284)), some (.int (wq_I j3)), some (.ref (b + 568)), some (.ref (b + 569)), none, some (.int (wq_I j7)), some (.int (wq_I j8)), none, none, none, none, none, none, none, none] (by simp [wq_sub]) (tj_L_law_630 (cc := cc + 2) (ss := ss + 12) (c9 := c9) (s9 := s9) F K Kn hlt hX hbl hbA (by omega) (by omega) hE hF hkx hrec 0 S67 h)
  · replace h := wq_ift hc h
    refine wq_iconst (n := 1) F dL_law_625 rfl ?_
    refine wq_goto (tgt := 630) F dL_law_626 (by decide) ?_
    exact wq_wid (k := cc + 2) (n := ss + 12) (by omega) (by omega) <| wq_lsub [some (.ref b0), some (.ref (b + 0)), some (.ref (b + 284)), some (.int (wq_I j3)), some (.ref (b + 568)), some (.ref (b + 569)), none, some (.int (wq_I j7)), some (.int (wq_I j8)), none, none, none, none, none, none, none, none] (by simp [wq_sub]) (tj_L_law_630 (cc := cc + 2) (ss := ss + 12) (c9 := c9) (s9 := s9) F K Kn hlt hX hbl hbA (by omega) (by omega) hE hF hkx hrec 1 S67 h)
set_option maxHeartbeats 40000000 in
set_option maxRecDepth 100000 in
theorem tj_L_law_571 {p : Program} {l : Launch} {e : Env} {s : State} {m : MethodId} {args : Array Value} {below : List Frame} {meth : Method} {c : Code} {D : va_G} {Ar : Nat → ClassId} {b : Nat} {Q : State → Prop} (F : wq_Fr p s m args meth c cL_law 17 (some .boolean) "WharfQueryLaw" D Ar) (K : wq_Kx b 570 s) (Kn : wq_Nx s) (hlt : l.stackTraces = false) {X : Nat → Int} {b0 LL : Nat} (hX : va_X b0 LL (fun j => wq_I (X j)) s s.heap) (hbl : b0 < s.heap.size) (hbA : ¬ wq_AX b 570 s.heap.size b0) {cc ss c9 s9 : Nat} (hC : cc + 60 ≤ c9) (hD : ss + 360 ≤ s9) (hE : c9 ≤ room_1.cells) (hF : s9 ≤ room_1.slots) {r0 : Int} {S0 : wq_St} {kx : Int → wq_St → Option (Int × wq_St)} {rec : Int → Int → wq_St → Option (Int × wq_St)} {j3 : Int} {j7 : Int} {j8 : Int} (hkx : ∀ (u6 : Int) (S : wq_St), kx u6 S = some (r0, S0) → wq_Z p l e room_1 s m args below meth c D (wq_EL Ar b) b 570 17 (wq_AX b 570 s.heap.size) Q c9 s9 971 [none, none, none, none, none, none, some (.int (wq_I u6)), none, none, none, none, none, none, none, none, none, none] [] S) (hrec : ∀ (y6 : Int) (y7 : Int) (S : wq_St), rec y6 y7 S = some (r0, S0) → wq_Z p l e room_1 s m args below meth c D (wq_EL Ar b) b 570 17 (wq_AX b 570 s.heap.size) Q c9 s9 119 [some (.ref b0), some (.ref (b + 0)), some (.ref (b + 284)), some (.int (wq_I j3)), some (.ref (b + 568)), some (.ref (b + 569)), some (.int (wq_I y6)), some (.int (wq_I y7)), none, none, none, none, none, none, none, none, none] [] S) (z0 : Int) (S : wq_St) (h : j_L_law_571 X LL kx rec j3 j7 j8 z0 S = some (r0, S0)) : wq_Z p l e room_1 s m args below meth c D (wq_EL Ar b) b 570 17 (wq_AX b 570 s.heap.size) Q cc ss 571 [some (.ref b0), some (.ref (b + 0)), some (.ref (b + 284)), some (.int (wq_I j3)), some (.ref (b + 568)), some (.ref (b + 569)), none, some (.int (wq_I j7)), some (.int (wq_I j8)), none, none, none, none, none, none, none, none] [.int (wq_I z0)] S := by
  unfold j_L_law_571 at h
  refine wq_istore (L' := [some (.ref b0), some (.ref (b + 0)), some (.ref (b + 284)), some (.int (wq_I j3)), some (.ref (b + 568)), some (.ref (b + 569)), some (.int (wq_I z0)), some (.int (wq_I j7)), some (.int (wq_I j8)), none, none, none, none, none, none, none, none]) F dL_law_571 (by decide) rfl rfl rfl ?_
  refine wq_goto (tgt := 928) F dL_law_573 (by decide) ?_
  exact wq_wid (k := cc + 0) (n := ss + 0) (by omega) (by omega) <| wq_lsub [some (.ref b0), some (.ref (b + 0)), some (.ref (b + 284)), some (.int (wq_I j3)), some (.ref (b + 568)), some (.ref (b + 569)), some (.int (wq_I z0)), some (.int (wq_I j7)), some (.int (wq_I j8)), none, none, none, none, none, none, none, none] (by simp [wq_sub]) (tj_L_law_928 (cc := cc + 0) (ss := ss + 0) (c9 := c9) (s9 := s9) F K Kn hlt hX hbl hbA (by omega) (by omega) hE hF hkx hrec S h)
set_option maxHeartbeats 40000000 in
set_option maxRecDepth 100000 in
theorem tj_L_law_531 {p : Program} {l : Launch} {e : Env} {s : State} {m : MethodId} {args : Array Value} {below : List Frame} {meth : Method} {c : Code} {D : va_G} {Ar : Nat → ClassId} {b : Nat} {Q : State → Prop} (F : wq_Fr p s m args meth c cL_law 17 (some .boolean) "WharfQueryLaw" D Ar) (K : wq_Kx b 570 s) (Kn : wq_Nx s) (hlt : l.stackTraces = false) {X : Nat → Int} {b0 LL : Nat} (hX : va_X b0 LL (fun j => wq_I (X j)) s s.heap) (hbl : b0 < s.heap.size) (hbA : ¬ wq_AX b 570 s.heap.size b0) {cc ss c9 s9 : Nat} (hC : cc + 60 ≤ c9) (hD : ss + 360 ≤ s9) (hE : c9 ≤ room_1.cells) (hF : s9 ≤ room_1.slots) {r0 : Int} {S0 : wq_St} {kx : Int → wq_St → Option (Int × wq_St)} {rec : Int → Int → wq_St → Option (Int × wq_St)} {j3 : Int} {j7 : Int} {j8 : Int} (hkx : ∀ (u6 : Int) (S : wq_St), kx u6 S = some (r0, S0) → wq_Z p l e room_1 s m args below meth c D (wq_EL Ar b) b 570 17 (wq_AX b 570 s.heap.size) Q c9 s9 971 [none, none, none, none, none, none, some (.int (wq_I u6)), none, none, none, none, none, none, none, none, none, none] [] S) (hrec : ∀ (y6 : Int) (y7 : Int) (S : wq_St), rec y6 y7 S = some (r0, S0) → wq_Z p l e room_1 s m args below meth c D (wq_EL Ar b) b 570 17 (wq_AX b 570 s.heap.size) Q c9 s9 119 [some (.ref b0), some (.ref (b + 0)), some (.ref (b + 284)), some (.int (wq_I j3)), some (.ref (b + 568)), some (.ref (b + 569)), some (.int (wq_I y6)), some (.int (wq_I y7)), none, none, none, none, none, none, none, none, none] [] S) (z0 : Int) (S : wq_St) (h : j_L_law_531 X LL kx rec j3 j7 j8 z0 S = some (r0, S0)) : wq_Z p l e room_1 s m args below meth c D (wq_EL Ar b) b 570 17 (wq_AX b 570 s.heap.size) Q cc ss 531 [some (.ref b0), some (.ref (b + 0)), some (.ref (b + 284)), some (.int (wq_I j3)), some (.ref (b + 568)), some (.ref (b + 569)), none, some (.int (wq_I j7)), some (.int (wq_I j8)), none, none, none, none, none, none, none, none] [.int (wq_I z0)] S := by
  unfold j_L_law_531 at h
  refine wq_istore (L' := [some (.ref b0), some (.ref (b + 0)), some (.ref (b + 284)), some (.int (wq_I j3)), some (.ref (b + 568)), some (.ref (b + 569)), some (.int (wq_I z0)), some (.int (wq_I j7)), some (.int (wq_I j8)), none, none, none, none, none, none, none, none]) F dL_law_531 (by decide) rfl rfl rfl ?_
  refine wq_goto (tgt := 928) F dL_law_533 (by decide) ?_
  exact wq_wid (k := cc + 0) (n := ss + 0) (by omega) (by omega) <| wq_lsub [some (.ref b0), some (.ref (b + 0)), some (.ref (b + 284)), some (.int (wq_I j3)), some (.ref (b + 568)), some (.ref (b + 569)), some (.int (wq_I z0)), some (.int (wq_I j7)), some (.int (wq_I j8)), none, none, none, none, none, none, none, none] (by simp [wq_sub]) (tj_L_law_928 (cc := cc + 0) (ss := ss + 0) (c9 := c9) (s9 := s9) F K Kn hlt hX hbl hbA (by omega) (by omega) hE hF hkx hrec S h)
set_option maxHeartbeats 40000000 in
set_option maxRecDepth 100000 in
theorem tj_L_law_489 {p : Program} {l : Launch} {e : Env} {s : State} {m : MethodId} {args : Array Value} {below : List Frame} {meth : Method} {c : Code} {D : va_G} {Ar : Nat → ClassId} {b : Nat} {Q : State → Prop} (F : wq_Fr p s m args meth c cL_law 17 (some .boolean) "WharfQueryLaw" D Ar) (K : wq_Kx b 570 s) (Kn : wq_Nx s) (hlt : l.stackTraces = false) {X : Nat → Int} {b0 LL : Nat} (hX : va_X b0 LL (fun j => wq_I (X j)) s s.heap) (hbl : b0 < s.heap.size) (hbA : ¬ wq_AX b 570 s.heap.size b0) {cc ss c9 s9 : Nat} (hC : cc + 60 ≤ c9) (hD : ss + 360 ≤ s9) (hE : c9 ≤ room_1.cells) (hF : s9 ≤ room_1.slots) {r0 : Int} {S0 : wq_St} {kx : Int → wq_St → Option (Int × wq_St)} {rec : Int → Int → wq_St → Option (Int × wq_St)} {j3 : Int} {j7 : Int} {j8 : Int} (hkx : ∀ (u6 : Int) (S : wq_St), kx u6 S = some (r0, S0) → wq_Z p l e room_1 s m args below meth c D (wq_EL Ar b) b 570 17 (wq_AX b 570 s.heap.size) Q c9 s9 971 [none, none, none, none, none, none, some (.int (wq_I u6)), none, none, none, none, none, none, none, none, none, none] [] S) (hrec : ∀ (y6 : Int) (y7 : Int) (S : wq_St), rec y6 y7 S = some (r0, S0) → wq_Z p l e room_1 s m args below meth c D (wq_EL Ar b) b 570 17 (wq_AX b 570 s.heap.size) Q c9 s9 119 [some (.ref b0), some (.ref (b + 0)), some (.ref (b + 284)), some (.int (wq_I j3)), some (.ref (b + 568)), some (.ref (b + 569)), some (.int (wq_I y6)), some (.int (wq_I y7)), none, none, none, none, none, none, none, none, none] [] S) (z0 : Int) (S : wq_St) (h : j_L_law_489 X LL kx rec j3 j7 j8 z0 S = some (r0, S0)) : wq_Z p l e room_1 s m args below meth c D (wq_EL Ar b) b 570 17 (wq_AX b 570 s.heap.size) Q cc ss 489 [some (.ref b0), some (.ref (b + 0)), some (.ref (b + 284)), some (.int (wq_I j3)), some (.ref (b + 568)), some (.ref (b + 569)), none, some (.int (wq_I j7)), some (.int (wq_I j8)), none, none, none, none, none, none, none, none] [.int (wq_I z0)] S := by
  unfold j_L_law_489 at h
  refine wq_istore (L' := [some (.ref b0), some (.ref (b + 0)), some (.ref (b + 284)), some (.int (wq_I j3)), some (.ref (b + 568)), some (.ref (b + 569)), some (.int (wq_I z0)), some (.int (wq_I j7)), some (.int (wq_I j8)), none, none, none, none, none, none, none, none]) F dL_law_489 (by decide) rfl rfl rfl ?_
  refine wq_goto (tgt := 928) F dL_law_491 (by decide) ?_
  exact wq_wid (k := cc + 0) (n := ss + 0) (by omega) (by omega) <| wq_lsub [some (.ref b0), some (.ref (b + 0)), some (.ref (b + 284)), some (.int (wq_I j3)), some (.ref (b + 568)), some (.ref (b + 569)), some (.int (wq_I z0)), some (.int (wq_I j7)), some (.int (wq_I j8)), none, none, none, none, none, none, none, none] (by simp [wq_sub]) (tj_L_law_928 (cc := cc + 0) (ss := ss + 0) (c9 := c9) (s9 := s9) F K Kn hlt hX hbl hbA (by omega) (by omega) hE hF hkx hrec S h)
set_option maxHeartbeats 40000000 in
set_option maxRecDepth 100000 in
theorem tj_L_law_439 {p : Program} {l : Launch} {e : Env} {s : State} {m : MethodId} {args : Array Value} {below : List Frame} {meth : Method} {c : Code} {D : va_G} {Ar : Nat → ClassId} {b : Nat} {Q : State → Prop} (F : wq_Fr p s m args meth c cL_law 17 (some .boolean) "WharfQueryLaw" D Ar) (K : wq_Kx b 570 s) (Kn : wq_Nx s) (hlt : l.stackTraces = false) {X : Nat → Int} {b0 LL : Nat} (hX : va_X b0 LL (fun j => wq_I (X j)) s s.heap) (hbl : b0 < s.heap.size) (hbA : ¬ wq_AX b 570 s.heap.size b0) {cc ss c9 s9 : Nat} (hC : cc + 60 ≤ c9) (hD : ss + 360 ≤ s9) (hE : c9 ≤ room_1.cells) (hF : s9 ≤ room_1.slots) {r0 : Int} {S0 : wq_St} {kx : Int → wq_St → Option (Int × wq_St)} {rec : Int → Int → wq_St → Option (Int × wq_St)} {j3 : Int} {j7 : Int} {j8 : Int} (hkx : ∀ (u6 : Int) (S : wq_St), kx u6 S = some (r0, S0) → wq_Z p l e room_1 s m args below meth c D (wq_EL Ar b) b 570 17 (wq_AX b 570 s.heap.size) Q c9 s9 971 [none, none, none, none, none, none, some (.int (wq_I u6)), none, none, none, none, none, none, none, none, none, none] [] S) (hrec : ∀ (y6 : Int) (y7 : Int) (S : wq_St), rec y6 y7 S = some (r0, S0) → wq_Z p l e room_1 s m args below meth c D (wq_EL Ar b) b 570 17 (wq_AX b 570 s.heap.size) Q c9 s9 119 [some (.ref b0), some (.ref (b + 0)), some (.ref (b + 284)), some (.int (wq_I j3)), some (.ref (b + 568)), some (.ref (b + 569)), some (.int (wq_I y6)), some (.int (wq_I y7)), none, none, none, none, none, none, none, none, none] [] S) (z0 : Int) (S : wq_St) (h : j_L_law_439 X LL kx rec j3 j7 j8 z0 S = some (r0, S0)) : wq_Z p l e room_1 s m args below meth c D (wq_EL Ar b) b 570 17 (wq_AX b 570 s.heap.size) Q cc ss 439 [some (.ref b0), some (.ref (b + 0)), some (.ref (b + 284)), some (.int (wq_I j3)), some (.ref (b + 568)), some (.ref (b + 569)), none, some (.int (wq_I j7)), some (.int (wq_I j8)), none, none, none, none, none, none, none, none] [.int (wq_I z0)] S := by
  unfold j_L_law_439 at h
  refine wq_istore (L' := [some (.ref b0), some (.ref (b + 0)), some (.ref (b + 284)), some (.int (wq_I j3)), some (.ref (b + 568)), some (.ref (b + 569)), some (.int (wq_I z0)), some (.int (wq_I j7)), some (.int (wq_I j8)), none, none, none, none, none, none, none, none]) F dL_law_439 (by decide) rfl rfl rfl ?_
  refine wq_goto (tgt := 928) F dL_law_441 (by decide) ?_
  exact wq_wid (k := cc + 0) (n := ss + 0) (by omega) (by omega) <| wq_lsub [some (.ref b0), some (.ref (b + 0)), some (.ref (b + 284)), some (.int (wq_I j3)), some (.ref (b + 568)), some (.ref (b + 569)), some (.int (wq_I z0)), some (.int (wq_I j7)), some (.int (wq_I j8)), none, none, none, none, none, none, none, none] (by simp [wq_sub]) (tj_L_law_928 (cc := cc + 0) (ss := ss + 0) (c9 := c9) (s9 := s9) F K Kn hlt hX hbl hbA (by omega) (by omega) hE hF hkx hrec S h)
set_option maxHeartbeats 40000000 in
set_option maxRecDepth 100000 in
theorem tj_L_law_385 {p : Program} {l : Launch} {e : Env} {s : State} {m : MethodId} {args : Array Value} {below : List Frame} {meth : Method} {c : Code} {D : va_G} {Ar : Nat → ClassId} {b : Nat} {Q : State → Prop} (F : wq_Fr p s m args meth c cL_law 17 (some .boolean) "WharfQueryLaw" D Ar) (K : wq_Kx b 570 s) (Kn : wq_Nx s) (hlt : l.stackTraces = false) {X : Nat → Int} {b0 LL : Nat} (hX : va_X b0 LL (fun j => wq_I (X j)) s s.heap) (hbl : b0 < s.heap.size) (hbA : ¬ wq_AX b 570 s.heap.size b0) {cc ss c9 s9 : Nat} (hC : cc + 60 ≤ c9) (hD : ss + 360 ≤ s9) (hE : c9 ≤ room_1.cells) (hF : s9 ≤ room_1.slots) {r0 : Int} {S0 : wq_St} {kx : Int → wq_St → Option (Int × wq_St)} {rec : Int → Int → wq_St → Option (Int × wq_St)} {j3 : Int} {j7 : Int} {j8 : Int} (hkx : ∀ (u6 : Int) (S : wq_St), kx u6 S = some (r0, S0) → wq_Z p l e room_1 s m args below meth c D (wq_EL Ar b) b 570 17 (wq_AX b 570 s.heap.size) Q c9 s9 971 [none, none, none, none, none, none, some (.int (wq_I u6)), none, none, none, none, none, none, none, none, none, none] [] S) (hrec : ∀ (y6 : Int) (y7 : Int) (S : wq_St), rec y6 y7 S = some (r0, S0) → wq_Z p l e room_1 s m args below meth c D (wq_EL Ar b) b 570 17 (wq_AX b 570 s.heap.size) Q c9 s9 119 [some (.ref b0), some (.ref (b + 0)), some (.ref (b + 284)), some (.int (wq_I j3)), some (.ref (b + 568)), some (.ref (b + 569)), some (.int (wq_I y6)), some (.int (wq_I y7)), none, none, none, none, none, none, none, none, none] [] S) (z0 : Int) (S : wq_St) (h : j_L_law_385 X LL kx rec j3 j7 j8 z0 S = some (r0, S0)) : wq_Z p l e room_1 s m args below meth c D (wq_EL Ar b) b 570 17 (wq_AX b 570 s.heap.size) Q cc ss 385 [some (.ref b0), some (.ref (b + 0)), some (.ref (b + 284)), some (.int (wq_I j3)), some (.ref (b + 568)), some (.ref (b + 569)), none, some (.int (wq_I j7)), some (.int (wq_I j8)), none, none, none, none, none, none, none, none] [.int (wq_I z0)] S := by
  unfold j_L_law_385 at h
  refine wq_istore (L' := [some (.ref b0), some (.ref (b + 0)), some (.ref (b + 284)), some (.int (wq_I j3)), some (.ref (b + 568)), some (.ref (b + 569)), some (.int (wq_I z0)), some (.int (wq_I j7)), some (.int (wq_I j8)), none, none, none, none, none, none, none, none]) F dL_law_385 (by decide) rfl rfl rfl ?_
  refine wq_goto (tgt := 928) F dL_law_387 (by decide) ?_
  exact wq_wid (k := cc + 0) (n := ss + 0) (by omega) (by omega) <| wq_lsub [some (.ref b0), some (.ref (b + 0)), some (.ref (b + 284)), some (.int (wq_I j3)), some (.ref (b + 568)), some (.ref (b + 569)), some (.int (wq_I z0)), some (.int (wq_I j7)), some (.int (wq_I j8)), none, none, none, none, none, none, none, none] (by simp [wq_sub]) (tj_L_law_928 (cc := cc + 0) (ss := ss + 0) (c9 := c9) (s9 := s9) F K Kn hlt hX hbl hbA (by omega) (by omega) hE hF hkx hrec S h)
set_option maxHeartbeats 40000000 in
set_option maxRecDepth 100000 in
theorem tj_L_law_337 {p : Program} {l : Launch} {e : Env} {s : State} {m : MethodId} {args : Array Value} {below : List Frame} {meth : Method} {c : Code} {D : va_G} {Ar : Nat → ClassId} {b : Nat} {Q : State → Prop} (F : wq_Fr p s m args meth c cL_law 17 (some .boolean) "WharfQueryLaw" D Ar) (K : wq_Kx b 570 s) (Kn : wq_Nx s) (hlt : l.stackTraces = false) {X : Nat → Int} {b0 LL : Nat} (hX : va_X b0 LL (fun j => wq_I (X j)) s s.heap) (hbl : b0 < s.heap.size) (hbA : ¬ wq_AX b 570 s.heap.size b0) {cc ss c9 s9 : Nat} (hC : cc + 60 ≤ c9) (hD : ss + 360 ≤ s9) (hE : c9 ≤ room_1.cells) (hF : s9 ≤ room_1.slots) {r0 : Int} {S0 : wq_St} {kx : Int → wq_St → Option (Int × wq_St)} {rec : Int → Int → wq_St → Option (Int × wq_St)} {j3 : Int} {j7 : Int} {j8 : Int} (hkx : ∀ (u6 : Int) (S : wq_St), kx u6 S = some (r0, S0) → wq_Z p l e room_1 s m args below meth c D (wq_EL Ar b) b 570 17 (wq_AX b 570 s.heap.size) Q c9 s9 971 [none, none, none, none, none, none, some (.int (wq_I u6)), none, none, none, none, none, none, none, none, none, none] [] S) (hrec : ∀ (y6 : Int) (y7 : Int) (S : wq_St), rec y6 y7 S = some (r0, S0) → wq_Z p l e room_1 s m args below meth c D (wq_EL Ar b) b 570 17 (wq_AX b 570 s.heap.size) Q c9 s9 119 [some (.ref b0), some (.ref (b + 0)), some (.ref (b + 284)), some (.int (wq_I j3)), some (.ref (b + 568)), some (.ref (b + 569)), some (.int (wq_I y6)), some (.int (wq_I y7)), none, none, none, none, none, none, none, none, none] [] S) (z0 : Int) (S : wq_St) (h : j_L_law_337 X LL kx rec j3 j7 j8 z0 S = some (r0, S0)) : wq_Z p l e room_1 s m args below meth c D (wq_EL Ar b) b 570 17 (wq_AX b 570 s.heap.size) Q cc ss 337 [some (.ref b0), some (.ref (b + 0)), some (.ref (b + 284)), some (.int (wq_I j3)), some (.ref (b + 568)), some (.ref (b + 569)), none, some (.int (wq_I j7)), some (.int (wq_I j8)), none, none, none, none, none, none, none, none] [.int (wq_I z0)] S := by
  unfold j_L_law_337 at h
  refine wq_istore (L' := [some (.ref b0), some (.ref (b + 0)), some (.ref (b + 284)), some (.int (wq_I j3)), some (.ref (b + 568)), some (.ref (b + 569)), some (.int (wq_I z0)), some (.int (wq_I j7)), some (.int (wq_I j8)), none, none, none, none, none, none, none, none]) F dL_law_337 (by decide) rfl rfl rfl ?_
  refine wq_goto (tgt := 928) F dL_law_339 (by decide) ?_
  exact wq_wid (k := cc + 0) (n := ss + 0) (by omega) (by omega) <| wq_lsub [some (.ref b0), some (.ref (b + 0)), some (.ref (b + 284)), some (.int (wq_I j3)), some (.ref (b + 568)), some (.ref (b + 569)), some (.int (wq_I z0)), some (.int (wq_I j7)), some (.int (wq_I j8)), none, none, none, none, none, none, none, none] (by simp [wq_sub]) (tj_L_law_928 (cc := cc + 0) (ss := ss + 0) (c9 := c9) (s9 := s9) F K Kn hlt hX hbl hbA (by omega) (by omega) hE hF hkx hrec S h)
set_option maxHeartbeats 40000000 in
set_option maxRecDepth 100000 in
theorem tj_L_law_314 {p : Program} {l : Launch} {e : Env} {s : State} {m : MethodId} {args : Array Value} {below : List Frame} {meth : Method} {c : Code} {D : va_G} {Ar : Nat → ClassId} {b : Nat} {Q : State → Prop} (F : wq_Fr p s m args meth c cL_law 17 (some .boolean) "WharfQueryLaw" D Ar) (K : wq_Kx b 570 s) (Kn : wq_Nx s) (hlt : l.stackTraces = false) {X : Nat → Int} {b0 LL : Nat} (hX : va_X b0 LL (fun j => wq_I (X j)) s s.heap) (hbl : b0 < s.heap.size) (hbA : ¬ wq_AX b 570 s.heap.size b0) {cc ss c9 s9 : Nat} (hC : cc + 64 ≤ c9) (hD : ss + 384 ≤ s9) (hE : c9 ≤ room_1.cells) (hF : s9 ≤ room_1.slots) {r0 : Int} {S0 : wq_St} {kx : Int → wq_St → Option (Int × wq_St)} {rec : Int → Int → wq_St → Option (Int × wq_St)} {j3 : Int} {j7 : Int} {j8 : Int} {j11 : Int} {j14 : Int} {j15 : Int} {j16 : Int} (hkx : ∀ (u6 : Int) (S : wq_St), kx u6 S = some (r0, S0) → wq_Z p l e room_1 s m args below meth c D (wq_EL Ar b) b 570 17 (wq_AX b 570 s.heap.size) Q c9 s9 971 [none, none, none, none, none, none, some (.int (wq_I u6)), none, none, none, none, none, none, none, none, none, none] [] S) (hrec : ∀ (y6 : Int) (y7 : Int) (S : wq_St), rec y6 y7 S = some (r0, S0) → wq_Z p l e room_1 s m args below meth c D (wq_EL Ar b) b 570 17 (wq_AX b 570 s.heap.size) Q c9 s9 119 [some (.ref b0), some (.ref (b + 0)), some (.ref (b + 284)), some (.int (wq_I j3)), some (.ref (b + 568)), some (.ref (b + 569)), some (.int (wq_I y6)), some (.int (wq_I y7)), none, none, none, none, none, none, none, none, none] [] S) (z0 : Int) (z1 : Int) (z2 : Int) (z3 : Int) (S : wq_St) (h : j_L_law_314 X LL kx rec j3 j7 j8 j11 j14 j15 j16 z0 z1 z2 z3 S = some (r0, S0)) : wq_Z p l e room_1 s m args below meth c D (wq_EL Ar b) b 570 17 (wq_AX b 570 s.heap.size) Q cc ss 314 [some (.ref b0), some (.ref (b + 0)), some (.ref (b + 284)), some (.int (wq_I j3)), some (.ref (b + 568)), some (.ref (b + 569)), none, some (.int (wq_I j7)), some (.int (wq_I j8)), none, none, some (.int (wq_I j11)), none, none, some (.int (wq_I j14)), some (.int (wq_I j15)), some (.int (wq_I j16))] [.int (wq_I z0), .int (wq_I z1), .int (wq_I z2), .int (wq_I z3), .ref (b + 284)] S := by
  unfold j_L_law_314 at h
  obtain ⟨r103, S104, h1r103, h⟩ := wq_bd_some h
  obtain ⟨S105, eS105, h⟩ := wq_lt_some h
  refine wq_callW (As := [.ref (b + 284), .int (wq_I z3), .int (wq_I z2), .int (wq_I z1), .int (wq_I z0)]) (mc := 2) (ms := 12) (n := 9) F K Kn lk_L_157 (wq_Cw_emb (o := 284) (ct_L_insert hlt h1r103) (Nat.le_of_ble_eq_true rfl) wq_EL_b (wq_clt_at _)) ⟨(Nat.le_of_ble_eq_true rfl), (Nat.le_of_ble_eq_true rfl)⟩ ⟨by show cc + 0 + 2 ≤ room_1.cells; omega, by show ss + 0 + 12 ≤ room_1.slots; omega⟩ rfl rfl (Nat.le_of_ble_eq_true rfl) dL_law_314 rfl ?_
  refine wq_namS eS105 ?_
  refine wq_aload_n F dL_law_317 rfl rfl rfl ?_
  refine wq_iload F dL_law_318 rfl rfl ?_
  refine wq_iload F dL_law_320 rfl rfl ?_
  refine wq_iload F dL_law_322 rfl rfl ?_
  refine wq_iload F dL_law_324 rfl rfl ?_
  obtain ⟨r106, S107, h1r106, h⟩ := wq_bd_some h
  obtain ⟨S108, eS108, h⟩ := wq_lt_some h
  refine wq_callW (As := [.ref (b + 0), .int (wq_I j11), .int (wq_I j14), .int (wq_I j15), .int (wq_I j16)]) (mc := 2) (ms := 12) (n := 9) F K Kn lk_L_157 (wq_Cw_emb (o := 0) (ct_L_insert hlt h1r106) (Nat.le_of_ble_eq_true rfl) wq_EL_a (wq_cls_at _)) ⟨(Nat.le_of_ble_eq_true rfl), (Nat.le_of_ble_eq_true rfl)⟩ ⟨by show cc + 2 + 2 ≤ room_1.cells; omega, by show ss + 12 + 12 ≤ room_1.slots; omega⟩ rfl rfl (Nat.le_of_ble_eq_true rfl) dL_law_326 rfl ?_
  refine wq_namS eS108 ?_
  refine wq_icmp_ne (tgt := 336) F dL_law_329 (by decide) rfl (fun hc => ?_) (fun hc => ?_)
  · replace h := wq_iff hc h
    refine wq_iconst (n := 0) F dL_law_336 rfl ?_
    exact wq_wid (k := cc + 4) (n := ss + 24) (by omega) (by omega) <| wq_lsub [some (.ref b0), some (.ref (b + 0)), some (.ref (b + 284)), some (.int (wq_I j3)), some (.ref (b + 568)), some (.ref (b + 569)), none, some (.int (wq_I j7)), some (.int (wq_I j8)), none, none, none, none, none, none, none, none] (by simp [wq_sub]) (tj_L_law_337 (cc := cc + 4) (ss := ss + 24) (c9 := c9) (s9 := s9) F K Kn hlt hX hbl hbA (by omega) (by omega) hE hF hkx hrec 0 S108 h)
  · replace h := wq_ift hc h
    refine wq_iconst (n := 1) F dL_law_332 rfl ?_
    refine wq_goto (tgt := 337) F dL_law_333 (by decide) ?_
    exact wq_wid (k := cc + 4) (n := ss + 24) (by omega) (by omega) <| wq_lsub [some (.ref b0), some (.ref (b + 0)), some (.ref (b + 284)), some (.int (wq_I j3)), some (.ref (b + 568)), some (.ref (b + 569)), none, some (.int (wq_I j7)), some (.int (wq_I j8)), none, none, none, none, none, none, none, none] (by simp [wq_sub]) (tj_L_law_337 (cc := cc + 4) (ss := ss + 24) (c9 := c9) (s9 := s9) F K Kn hlt hX hbl hbA (by omega) (by omega) hE hF hkx hrec 1 S108 h)
set_option maxHeartbeats 40000000 in
set_option maxRecDepth 100000 in
theorem tj_L_law_297 {p : Program} {l : Launch} {e : Env} {s : State} {m : MethodId} {args : Array Value} {below : List Frame} {meth : Method} {c : Code} {D : va_G} {Ar : Nat → ClassId} {b : Nat} {Q : State → Prop} (F : wq_Fr p s m args meth c cL_law 17 (some .boolean) "WharfQueryLaw" D Ar) (K : wq_Kx b 570 s) (Kn : wq_Nx s) (hlt : l.stackTraces = false) {X : Nat → Int} {b0 LL : Nat} (hX : va_X b0 LL (fun j => wq_I (X j)) s s.heap) (hbl : b0 < s.heap.size) (hbA : ¬ wq_AX b 570 s.heap.size b0) {cc ss c9 s9 : Nat} (hC : cc + 64 ≤ c9) (hD : ss + 384 ≤ s9) (hE : c9 ≤ room_1.cells) (hF : s9 ≤ room_1.slots) {r0 : Int} {S0 : wq_St} {kx : Int → wq_St → Option (Int × wq_St)} {rec : Int → Int → wq_St → Option (Int × wq_St)} {j3 : Int} {j7 : Int} {j8 : Int} {j11 : Int} {j14 : Int} {j15 : Int} {j16 : Int} (hkx : ∀ (u6 : Int) (S : wq_St), kx u6 S = some (r0, S0) → wq_Z p l e room_1 s m args below meth c D (wq_EL Ar b) b 570 17 (wq_AX b 570 s.heap.size) Q c9 s9 971 [none, none, none, none, none, none, some (.int (wq_I u6)), none, none, none, none, none, none, none, none, none, none] [] S) (hrec : ∀ (y6 : Int) (y7 : Int) (S : wq_St), rec y6 y7 S = some (r0, S0) → wq_Z p l e room_1 s m args below meth c D (wq_EL Ar b) b 570 17 (wq_AX b 570 s.heap.size) Q c9 s9 119 [some (.ref b0), some (.ref (b + 0)), some (.ref (b + 284)), some (.int (wq_I j3)), some (.ref (b + 568)), some (.ref (b + 569)), some (.int (wq_I y6)), some (.int (wq_I y7)), none, none, none, none, none, none, none, none, none] [] S) (z0 : Int) (z1 : Int) (z2 : Int) (S : wq_St) (h : j_L_law_297 X LL kx rec j3 j7 j8 j11 j14 j15 j16 z0 z1 z2 S = some (r0, S0)) : wq_Z p l e room_1 s m args below meth c D (wq_EL Ar b) b 570 17 (wq_AX b 570 s.heap.size) Q cc ss 297 [some (.ref b0), some (.ref (b + 0)), some (.ref (b + 284)), some (.int (wq_I j3)), some (.ref (b + 568)), some (.ref (b + 569)), none, some (.int (wq_I j7)), some (.int (wq_I j8)), none, none, some (.int (wq_I j11)), none, none, some (.int (wq_I j14)), some (.int (wq_I j15)), some (.int (wq_I j16))] [.int (wq_I z0), .int (wq_I z1), .int (wq_I z2), .ref (b + 284)] S := by
  unfold j_L_law_297 at h
  refine wq_aload F dL_law_297 rfl rfl ?_
  refine wq_iload F dL_law_299 rfl rfl ?_
  obtain ⟨t102, ht102, wt102, h⟩ := wq_ix_some h
  refine wq_iald F (Nat.le_of_ble_eq_true rfl) wq_EL_col ht102 wt102 dL_law_301 rfl ?_
  refine wq_iconst (n := 2) F dL_law_302 rfl ?_
  refine wq_icmp_le (tgt := 313) F dL_law_303 (by decide) rfl (fun hc => ?_) (fun hc => ?_)
  · replace h := wq_ift hc h
    refine wq_iconst (n := 0) F dL_law_313 rfl ?_
    exact wq_wid (k := cc + 0) (n := ss + 0) (by omega) (by omega) <| wq_lsub [some (.ref b0), some (.ref (b + 0)), some (.ref (b + 284)), some (.int (wq_I j3)), some (.ref (b + 568)), some (.ref (b + 569)), none, some (.int (wq_I j7)), some (.int (wq_I j8)), none, none, some (.int (wq_I j11)), none, none, some (.int (wq_I j14)), some (.int (wq_I j15)), some (.int (wq_I j16))] (by simp [wq_sub]) (tj_L_law_314 (cc := cc + 0) (ss := ss + 0) (c9 := c9) (s9 := s9) F K Kn hlt hX hbl hbA (by omega) (by omega) hE hF hkx hrec 0 z0 z1 z2 S h)
  · replace h := wq_iff hc h
    refine wq_iload F dL_law_306 rfl rfl ?_
    refine wq_iload_n F dL_law_308 rfl rfl rfl ?_
    refine wq_iadd F dL_law_309 rfl ?_
    refine wq_goto (tgt := 314) F dL_law_310 (by decide) ?_
    exact wq_wid (k := cc + 0) (n := ss + 0) (by omega) (by omega) <| wq_lsub [some (.ref b0), some (.ref (b + 0)), some (.ref (b + 284)), some (.int (wq_I j3)), some (.ref (b + 568)), some (.ref (b + 569)), none, some (.int (wq_I j7)), some (.int (wq_I j8)), none, none, some (.int (wq_I j11)), none, none, some (.int (wq_I j14)), some (.int (wq_I j15)), some (.int (wq_I j16))] (by simp [wq_sub]) (tj_L_law_314 (cc := cc + 0) (ss := ss + 0) (c9 := c9) (s9 := s9) F K Kn hlt hX hbl hbA (by omega) (by omega) hE hF hkx hrec (j16 + j3) z0 z1 z2 S h)
set_option maxHeartbeats 40000000 in
set_option maxRecDepth 100000 in
theorem tj_L_law_271 {p : Program} {l : Launch} {e : Env} {s : State} {m : MethodId} {args : Array Value} {below : List Frame} {meth : Method} {c : Code} {D : va_G} {Ar : Nat → ClassId} {b : Nat} {Q : State → Prop} (F : wq_Fr p s m args meth c cL_law 17 (some .boolean) "WharfQueryLaw" D Ar) (K : wq_Kx b 570 s) (Kn : wq_Nx s) (hlt : l.stackTraces = false) {X : Nat → Int} {b0 LL : Nat} (hX : va_X b0 LL (fun j => wq_I (X j)) s s.heap) (hbl : b0 < s.heap.size) (hbA : ¬ wq_AX b 570 s.heap.size b0) {cc ss c9 s9 : Nat} (hC : cc + 64 ≤ c9) (hD : ss + 384 ≤ s9) (hE : c9 ≤ room_1.cells) (hF : s9 ≤ room_1.slots) {r0 : Int} {S0 : wq_St} {kx : Int → wq_St → Option (Int × wq_St)} {rec : Int → Int → wq_St → Option (Int × wq_St)} {j3 : Int} {j7 : Int} {j8 : Int} {j11 : Int} {j14 : Int} {j15 : Int} (hkx : ∀ (u6 : Int) (S : wq_St), kx u6 S = some (r0, S0) → wq_Z p l e room_1 s m args below meth c D (wq_EL Ar b) b 570 17 (wq_AX b 570 s.heap.size) Q c9 s9 971 [none, none, none, none, none, none, some (.int (wq_I u6)), none, none, none, none, none, none, none, none, none, none] [] S) (hrec : ∀ (y6 : Int) (y7 : Int) (S : wq_St), rec y6 y7 S = some (r0, S0) → wq_Z p l e room_1 s m args below meth c D (wq_EL Ar b) b 570 17 (wq_AX b 570 s.heap.size) Q c9 s9 119 [some (.ref b0), some (.ref (b + 0)), some (.ref (b + 284)), some (.int (wq_I j3)), some (.ref (b + 568)), some (.ref (b + 569)), some (.int (wq_I y6)), some (.int (wq_I y7)), none, none, none, none, none, none, none, none, none] [] S) (z0 : Int) (S : wq_St) (h : j_L_law_271 X LL kx rec j3 j7 j8 j11 j14 j15 z0 S = some (r0, S0)) : wq_Z p l e room_1 s m args below meth c D (wq_EL Ar b) b 570 17 (wq_AX b 570 s.heap.size) Q cc ss 271 [some (.ref b0), some (.ref (b + 0)), some (.ref (b + 284)), some (.int (wq_I j3)), some (.ref (b + 568)), some (.ref (b + 569)), none, some (.int (wq_I j7)), some (.int (wq_I j8)), none, none, some (.int (wq_I j11)), none, none, some (.int (wq_I j14)), some (.int (wq_I j15)), none] [.int (wq_I z0)] S := by
  unfold j_L_law_271 at h
  refine wq_istore (L' := [some (.ref b0), some (.ref (b + 0)), some (.ref (b + 284)), some (.int (wq_I j3)), some (.ref (b + 568)), some (.ref (b + 569)), none, some (.int (wq_I j7)), some (.int (wq_I j8)), none, none, some (.int (wq_I j11)), none, none, some (.int (wq_I j14)), some (.int (wq_I j15)), some (.int (wq_I z0))]) F dL_law_271 (by decide) rfl rfl rfl ?_
  refine wq_aload_n F dL_law_273 rfl rfl rfl ?_
  refine wq_iload F dL_law_274 rfl rfl ?_
  refine wq_iload F dL_law_276 rfl rfl ?_
  refine wq_iload_n F dL_law_278 rfl rfl rfl ?_
  refine wq_iadd F dL_law_279 rfl ?_
  refine wq_aload F dL_law_280 rfl rfl ?_
  refine wq_iload F dL_law_282 rfl rfl ?_
  obtain ⟨t101, ht101, wt101, h⟩ := wq_ix_some h
  refine wq_iald F (Nat.le_of_ble_eq_true rfl) wq_EL_col ht101 wt101 dL_law_284 rfl ?_
  refine wq_iconst (n := 1) F dL_law_285 rfl ?_
  refine wq_icmp_le (tgt := 296) F dL_law_286 (by decide) rfl (fun hc => ?_) (fun hc => ?_)
  · replace h := wq_ift hc h
    refine wq_iconst (n := 0) F dL_law_296 rfl ?_
    exact wq_wid (k := cc + 0) (n := ss + 0) (by omega) (by omega) <| wq_lsub [some (.ref b0), some (.ref (b + 0)), some (.ref (b + 284)), some (.int (wq_I j3)), some (.ref (b + 568)), some (.ref (b + 569)), none, some (.int (wq_I j7)), some (.int (wq_I j8)), none, none, some (.int (wq_I j11)), none, none, some (.int (wq_I j14)), some (.int (wq_I j15)), some (.int (wq_I z0))] (by simp [wq_sub]) (tj_L_law_297 (cc := cc + 0) (ss := ss + 0) (c9 := c9) (s9 := s9) F K Kn hlt hX hbl hbA (by omega) (by omega) hE hF hkx hrec 0 (j14 + j3) j11 S h)
  · replace h := wq_iff hc h
    refine wq_iload F dL_law_289 rfl rfl ?_
    refine wq_iload_n F dL_law_291 rfl rfl rfl ?_
    refine wq_iadd F dL_law_292 rfl ?_
    refine wq_goto (tgt := 297) F dL_law_293 (by decide) ?_
    exact wq_wid (k := cc + 0) (n := ss + 0) (by omega) (by omega) <| wq_lsub [some (.ref b0), some (.ref (b + 0)), some (.ref (b + 284)), some (.int (wq_I j3)), some (.ref (b + 568)), some (.ref (b + 569)), none, some (.int (wq_I j7)), some (.int (wq_I j8)), none, none, some (.int (wq_I j11)), none, none, some (.int (wq_I j14)), some (.int (wq_I j15)), some (.int (wq_I z0))] (by simp [wq_sub]) (tj_L_law_297 (cc := cc + 0) (ss := ss + 0) (c9 := c9) (s9 := s9) F K Kn hlt hX hbl hbA (by omega) (by omega) hE hF hkx hrec (j15 + j3) (j14 + j3) j11 S h)
set_option maxHeartbeats 40000000 in
set_option maxRecDepth 100000 in
theorem tj_L_law_248 {p : Program} {l : Launch} {e : Env} {s : State} {m : MethodId} {args : Array Value} {below : List Frame} {meth : Method} {c : Code} {D : va_G} {Ar : Nat → ClassId} {b : Nat} {Q : State → Prop} (F : wq_Fr p s m args meth c cL_law 17 (some .boolean) "WharfQueryLaw" D Ar) (K : wq_Kx b 570 s) (Kn : wq_Nx s) (hlt : l.stackTraces = false) {X : Nat → Int} {b0 LL : Nat} (hX : va_X b0 LL (fun j => wq_I (X j)) s s.heap) (hbl : b0 < s.heap.size) (hbA : ¬ wq_AX b 570 s.heap.size b0) {cc ss c9 s9 : Nat} (hC : cc + 64 ≤ c9) (hD : ss + 384 ≤ s9) (hE : c9 ≤ room_1.cells) (hF : s9 ≤ room_1.slots) {r0 : Int} {S0 : wq_St} {kx : Int → wq_St → Option (Int × wq_St)} {rec : Int → Int → wq_St → Option (Int × wq_St)} {j3 : Int} {j7 : Int} {j8 : Int} {j10 : Int} {j11 : Int} {j14 : Int} (hkx : ∀ (u6 : Int) (S : wq_St), kx u6 S = some (r0, S0) → wq_Z p l e room_1 s m args below meth c D (wq_EL Ar b) b 570 17 (wq_AX b 570 s.heap.size) Q c9 s9 971 [none, none, none, none, none, none, some (.int (wq_I u6)), none, none, none, none, none, none, none, none, none, none] [] S) (hrec : ∀ (y6 : Int) (y7 : Int) (S : wq_St), rec y6 y7 S = some (r0, S0) → wq_Z p l e room_1 s m args below meth c D (wq_EL Ar b) b 570 17 (wq_AX b 570 s.heap.size) Q c9 s9 119 [some (.ref b0), some (.ref (b + 0)), some (.ref (b + 284)), some (.int (wq_I j3)), some (.ref (b + 568)), some (.ref (b + 569)), some (.int (wq_I y6)), some (.int (wq_I y7)), none, none, none, none, none, none, none, none, none] [] S) (z0 : Int) (S : wq_St) (h : j_L_law_248 X LL kx rec j3 j7 j8 j10 j11 j14 z0 S = some (r0, S0)) : wq_Z p l e room_1 s m args below meth c D (wq_EL Ar b) b 570 17 (wq_AX b 570 s.heap.size) Q cc ss 248 [some (.ref b0), some (.ref (b + 0)), some (.ref (b + 284)), some (.int (wq_I j3)), some (.ref (b + 568)), some (.ref (b + 569)), none, some (.int (wq_I j7)), some (.int (wq_I j8)), none, some (.int (wq_I j10)), some (.int (wq_I j11)), none, none, some (.int (wq_I j14)), none, none] [.int (wq_I z0)] S := by
  unfold j_L_law_248 at h
  refine wq_istore (L' := [some (.ref b0), some (.ref (b + 0)), some (.ref (b + 284)), some (.int (wq_I j3)), some (.ref (b + 568)), some (.ref (b + 569)), none, some (.int (wq_I j7)), some (.int (wq_I j8)), none, some (.int (wq_I j10)), some (.int (wq_I j11)), none, none, some (.int (wq_I j14)), some (.int (wq_I z0)), none]) F dL_law_248 (by decide) rfl rfl rfl ?_
  refine wq_aload F dL_law_250 rfl rfl ?_
  refine wq_iload F dL_law_252 rfl rfl ?_
  obtain ⟨t100, ht100, wt100, h⟩ := wq_ix_some h
  refine wq_iald F (Nat.le_of_ble_eq_true rfl) wq_EL_col ht100 wt100 dL_law_254 rfl ?_
  refine wq_iconst (n := 2) F dL_law_255 rfl ?_
  refine wq_icmp_le (tgt := 270) F dL_law_256 (by decide) rfl (fun hc => ?_) (fun hc => ?_)
  · replace h := wq_ift hc h
    refine wq_iconst (n := 0) F dL_law_270 rfl ?_
    exact wq_wid (k := cc + 0) (n := ss + 0) (by omega) (by omega) <| wq_lsub [some (.ref b0), some (.ref (b + 0)), some (.ref (b + 284)), some (.int (wq_I j3)), some (.ref (b + 568)), some (.ref (b + 569)), none, some (.int (wq_I j7)), some (.int (wq_I j8)), none, none, some (.int (wq_I j11)), none, none, some (.int (wq_I j14)), some (.int (wq_I z0)), none] (by simp [wq_sub]) (tj_L_law_271 (cc := cc + 0) (ss := ss + 0) (c9 := c9) (s9 := s9) F K Kn hlt hX hbl hbA (by omega) (by omega) hE hF hkx hrec 0 S h)
  · replace h := wq_iff hc h
    refine wq_iload F dL_law_259 rfl rfl ?_
    refine wq_bipush (n := 11) F dL_law_261 (by decide) rfl ?_
    obtain ⟨hg, h⟩ := wq_gd_some h
    refine wq_idiv (hy := hg) F dL_law_263 rfl ?_
    refine wq_bipush (n := 6) F dL_law_264 (by decide) rfl ?_
    obtain ⟨hg, h⟩ := wq_gd_some h
    refine wq_irem (hy := hg) F dL_law_266 rfl ?_
    refine wq_goto (tgt := 271) F dL_law_267 (by decide) ?_
    exact wq_wid (k := cc + 0) (n := ss + 0) (by omega) (by omega) <| wq_lsub [some (.ref b0), some (.ref (b + 0)), some (.ref (b + 284)), some (.int (wq_I j3)), some (.ref (b + 568)), some (.ref (b + 569)), none, some (.int (wq_I j7)), some (.int (wq_I j8)), none, none, some (.int (wq_I j11)), none, none, some (.int (wq_I j14)), some (.int (wq_I z0)), none] (by simp [wq_sub]) (tj_L_law_271 (cc := cc + 0) (ss := ss + 0) (c9 := c9) (s9 := s9) F K Kn hlt hX hbl hbA (by omega) (by omega) hE hF hkx hrec (wq_rem (wq_div j10 11) 6) S h)
set_option maxHeartbeats 40000000 in
set_option maxRecDepth 100000 in
theorem tj_L_law_208 {p : Program} {l : Launch} {e : Env} {s : State} {m : MethodId} {args : Array Value} {below : List Frame} {meth : Method} {c : Code} {D : va_G} {Ar : Nat → ClassId} {b : Nat} {Q : State → Prop} (F : wq_Fr p s m args meth c cL_law 17 (some .boolean) "WharfQueryLaw" D Ar) (K : wq_Kx b 570 s) (Kn : wq_Nx s) (hlt : l.stackTraces = false) {X : Nat → Int} {b0 LL : Nat} (hX : va_X b0 LL (fun j => wq_I (X j)) s s.heap) (hbl : b0 < s.heap.size) (hbA : ¬ wq_AX b 570 s.heap.size b0) {cc ss c9 s9 : Nat} (hC : cc + 74 ≤ c9) (hD : ss + 444 ≤ s9) (hE : c9 ≤ room_1.cells) (hF : s9 ≤ room_1.slots) {r0 : Int} {S0 : wq_St} {kx : Int → wq_St → Option (Int × wq_St)} {rec : Int → Int → wq_St → Option (Int × wq_St)} {j3 : Int} {j7 : Int} {j8 : Int} {j9 : Int} {j10 : Int} {j11 : Int} {j12 : Int} (hkx : ∀ (u6 : Int) (S : wq_St), kx u6 S = some (r0, S0) → wq_Z p l e room_1 s m args below meth c D (wq_EL Ar b) b 570 17 (wq_AX b 570 s.heap.size) Q c9 s9 971 [none, none, none, none, none, none, some (.int (wq_I u6)), none, none, none, none, none, none, none, none, none, none] [] S) (hrec : ∀ (y6 : Int) (y7 : Int) (S : wq_St), rec y6 y7 S = some (r0, S0) → wq_Z p l e room_1 s m args below meth c D (wq_EL Ar b) b 570 17 (wq_AX b 570 s.heap.size) Q c9 s9 119 [some (.ref b0), some (.ref (b + 0)), some (.ref (b + 284)), some (.int (wq_I j3)), some (.ref (b + 568)), some (.ref (b + 569)), some (.int (wq_I y6)), some (.int (wq_I y7)), none, none, none, none, none, none, none, none, none] [] S) (z0 : Int) (S : wq_St) (h : j_L_law_208 X LL kx rec j3 j7 j8 j9 j10 j11 j12 z0 S = some (r0, S0)) : wq_Z p l e room_1 s m args below meth c D (wq_EL Ar b) b 570 17 (wq_AX b 570 s.heap.size) Q cc ss 208 [some (.ref b0), some (.ref (b + 0)), some (.ref (b + 284)), some (.int (wq_I j3)), some (.ref (b + 568)), some (.ref (b + 569)), none, some (.int (wq_I j7)), some (.int (wq_I j8)), some (.int (wq_I j9)), some (.int (wq_I j10)), some (.int (wq_I j11)), some (.int (wq_I j12)), none, none, none, none] [.int (wq_I z0)] S := by
  unfold j_L_law_208 at h
  refine wq_istore (L' := [some (.ref b0), some (.ref (b + 0)), some (.ref (b + 284)), some (.int (wq_I j3)), some (.ref (b + 568)), some (.ref (b + 569)), none, some (.int (wq_I j7)), some (.int (wq_I j8)), some (.int (wq_I j9)), some (.int (wq_I j10)), some (.int (wq_I j11)), some (.int (wq_I j12)), some (.int (wq_I z0)), none, none, none]) F dL_law_208 (by decide) rfl rfl rfl ?_
  refine wq_iload F dL_law_210 rfl rfl ?_
  refine wq_bipush (n := 10) F dL_law_212 (by decide) rfl ?_
  refine wq_icmp_ge (tgt := 342) F dL_law_214 (by decide) rfl (fun hc => ?_) (fun hc => ?_)
  · replace h := wq_ift hc h
    refine wq_iload F dL_law_342 rfl rfl ?_
    refine wq_bipush (n := 10) F dL_law_344 (by decide) rfl ?_
    refine wq_icmp_ne (tgt := 390) F dL_law_346 (by decide) rfl (fun hc => ?_) (fun hc => ?_)
    · replace h := wq_iff hc h
      refine wq_iload F dL_law_390 rfl rfl ?_
      refine wq_bipush (n := 13) F dL_law_392 (by decide) rfl ?_
      refine wq_icmp_ge (tgt := 444) F dL_law_394 (by decide) rfl (fun hc => ?_) (fun hc => ?_)
      · replace h := wq_ift hc h
        refine wq_iload F dL_law_444 rfl rfl ?_
        refine wq_bipush (n := 16) F dL_law_446 (by decide) rfl ?_
        refine wq_icmp_ge (tgt := 494) F dL_law_448 (by decide) rfl (fun hc => ?_) (fun hc => ?_)
        · replace h := wq_ift hc h
          refine wq_iload F dL_law_494 rfl rfl ?_
          refine wq_bipush (n := 16) F dL_law_496 (by decide) rfl ?_
          refine wq_icmp_ne (tgt := 536) F dL_law_498 (by decide) rfl (fun hc => ?_) (fun hc => ?_)
          · replace h := wq_iff hc h
            refine wq_iload F dL_law_536 rfl rfl ?_
            refine wq_bipush (n := 21) F dL_law_538 (by decide) rfl ?_
            refine wq_icmp_ge (tgt := 576) F dL_law_540 (by decide) rfl (fun hc => ?_) (fun hc => ?_)
            · replace h := wq_ift hc h
              refine wq_iload F dL_law_576 rfl rfl ?_
              refine wq_bipush (n := 23) F dL_law_578 (by decide) rfl ?_
              refine wq_icmp_ge (tgt := 635) F dL_law_580 (by decide) rfl (fun hc => ?_) (fun hc => ?_)
              · replace h := wq_ift hc h
                refine wq_iload F dL_law_635 rfl rfl ?_
                refine wq_bipush (n := 27) F dL_law_637 (by decide) rfl ?_
                refine wq_icmp_ge (tgt := 673) F dL_law_639 (by decide) rfl (fun hc => ?_) (fun hc => ?_)
                · replace h := wq_ift hc h
                  refine wq_iload F dL_law_673 rfl rfl ?_
                  refine wq_bipush (n := 34) F dL_law_675 (by decide) rfl ?_
                  refine wq_icmp_ge (tgt := 788) F dL_law_677 (by decide) rfl (fun hc => ?_) (fun hc => ?_)
                  · replace h := wq_ift hc h
                    refine wq_iload F dL_law_788 rfl rfl ?_
                    refine wq_bipush (n := 34) F dL_law_790 (by decide) rfl ?_
                    refine wq_icmp_ne (tgt := 822) F dL_law_792 (by decide) rfl (fun hc => ?_) (fun hc => ?_)
                    · replace h := wq_iff hc h
                      refine wq_iload F dL_law_822 rfl rfl ?_
                      refine wq_bipush (n := 37) F dL_law_824 (by decide) rfl ?_
                      refine wq_icmp_ge (tgt := 886) F dL_law_826 (by decide) rfl (fun hc => ?_) (fun hc => ?_)
                      · replace h := wq_ift hc h
                        refine wq_aload_n F dL_law_886 rfl rfl rfl ?_
                        refine wq_iconst (n := 3) F dL_law_887 rfl ?_
                        refine wq_iload F dL_law_888 rfl rfl ?_
                        refine wq_bipush (n := 81) F dL_law_890 (by decide) rfl ?_
                        obtain ⟨hg, h⟩ := wq_gd_some h
                        refine wq_idiv (hy := hg) F dL_law_892 rfl ?_
                        refine wq_iconst (n := 2) F dL_law_893 rfl ?_
                        obtain ⟨hg, h⟩ := wq_gd_some h
                        refine wq_irem (hy := hg) F dL_law_894 rfl ?_
                        refine wq_iadd F dL_law_895 rfl ?_
                        refine wq_iload F dL_law_896 rfl rfl ?_
                        refine wq_iconst (n := 0) F dL_law_898 rfl ?_
                        obtain ⟨r23, S24, h1r23, h⟩ := wq_bd_some h
                        obtain ⟨S25, eS25, h⟩ := wq_lt_some h
                        refine wq_callW (As := [.ref (b + 0), .int (wq_I (3 + (wq_rem (wq_div j10 81) 2))), .int (wq_I z0), .int (wq_I 0)]) (mc := 3) (ms := 18) (n := 10) F K Kn lk_L_160 (wq_Cw_emb (o := 0) (ct_L_does hlt h1r23) (Nat.le_of_ble_eq_true rfl) wq_EL_a (wq_cls_at _)) ⟨(Nat.le_of_ble_eq_true rfl), (Nat.le_of_ble_eq_true rfl)⟩ ⟨by show cc + 0 + 3 ≤ room_1.cells; omega, by show ss + 0 + 18 ≤ room_1.slots; omega⟩ rfl rfl (Nat.le_of_ble_eq_true rfl) dL_law_899 rfl ?_
                        refine wq_namS eS25 ?_
                        refine wq_aload_n F dL_law_902 rfl rfl rfl ?_
                        refine wq_iconst (n := 3) F dL_law_903 rfl ?_
                        refine wq_iload F dL_law_904 rfl rfl ?_
                        refine wq_bipush (n := 81) F dL_law_906 (by decide) rfl ?_
                        obtain ⟨hg, h⟩ := wq_gd_some h
                        refine wq_idiv (hy := hg) F dL_law_908 rfl ?_
                        refine wq_iconst (n := 2) F dL_law_909 rfl ?_
                        obtain ⟨hg, h⟩ := wq_gd_some h
                        refine wq_irem (hy := hg) F dL_law_910 rfl ?_
                        refine wq_iadd F dL_law_911 rfl ?_
                        refine wq_iload F dL_law_912 rfl rfl ?_
                        refine wq_iconst (n := 0) F dL_law_914 rfl ?_
                        obtain ⟨r26, S27, h1r26, h⟩ := wq_bd_some h
                        obtain ⟨S28, eS28, h⟩ := wq_lt_some h
                        refine wq_callW (As := [.ref (b + 284), .int (wq_I (3 + (wq_rem (wq_div j10 81) 2))), .int (wq_I z0), .int (wq_I 0)]) (mc := 3) (ms := 18) (n := 10) F K Kn lk_L_160 (wq_Cw_emb (o := 284) (ct_L_does hlt h1r26) (Nat.le_of_ble_eq_true rfl) wq_EL_b (wq_clt_at _)) ⟨(Nat.le_of_ble_eq_true rfl), (Nat.le_of_ble_eq_true rfl)⟩ ⟨by show cc + 3 + 3 ≤ room_1.cells; omega, by show ss + 18 + 18 ≤ room_1.slots; omega⟩ rfl rfl (Nat.le_of_ble_eq_true rfl) dL_law_915 rfl ?_
                        refine wq_namS eS28 ?_
                        refine wq_icmp_ne (tgt := 925) F dL_law_918 (by decide) rfl (fun hc => ?_) (fun hc => ?_)
                        · replace h := wq_iff hc h
                          refine wq_iconst (n := 0) F dL_law_925 rfl ?_
                          exact wq_wid (k := cc + 6) (n := ss + 36) (by omega) (by omega) <| wq_lsub [some (.ref b0), some (.ref (b + 0)), some (.ref (b + 284)), some (.int (wq_I j3)), some (.ref (b + 568)), some (.ref (b + 569)), none, some (.int (wq_I j7)), some (.int (wq_I j8)), none, none, none, none, none, none, none, none] (by simp [wq_sub]) (tj_L_law_926 (cc := cc + 6) (ss := ss + 36) (c9 := c9) (s9 := s9) F K Kn hlt hX hbl hbA (by omega) (by omega) hE hF hkx hrec 0 S28 h)
                        · replace h := wq_ift hc h
                          refine wq_iconst (n := 1) F dL_law_921 rfl ?_
                          refine wq_goto (tgt := 926) F dL_law_922 (by decide) ?_
                          exact wq_wid (k := cc + 6) (n := ss + 36) (by omega) (by omega) <| wq_lsub [some (.ref b0), some (.ref (b + 0)), some (.ref (b + 284)), some (.int (wq_I j3)), some (.ref (b + 568)), some (.ref (b + 569)), none, some (.int (wq_I j7)), some (.int (wq_I j8)), none, none, none, none, none, none, none, none] (by simp [wq_sub]) (tj_L_law_926 (cc := cc + 6) (ss := ss + 36) (c9 := c9) (s9 := s9) F K Kn hlt hX hbl hbA (by omega) (by omega) hE hF hkx hrec 1 S28 h)
                      · replace h := wq_iff hc h
                        refine wq_aload_n F dL_law_829 rfl rfl rfl ?_
                        refine wq_iload F dL_law_830 rfl rfl ?_
                        refine wq_iload F dL_law_832 rfl rfl ?_
                        refine wq_iload F dL_law_834 rfl rfl ?_
                        obtain ⟨r32, S33, h1r32, h⟩ := wq_bd_some h
                        obtain ⟨S34, eS34, h⟩ := wq_lt_some h
                        refine wq_callW (As := [.ref (b + 0), .int (wq_I z0), .int (wq_I j11), .int (wq_I j12)]) (mc := 3) (ms := 18) (n := 10) F K Kn lk_L_167 (wq_Cw_emb (o := 0) (ct_L_sums hlt h1r32) (Nat.le_of_ble_eq_true rfl) wq_EL_a (wq_cls_at _)) ⟨(Nat.le_of_ble_eq_true rfl), (Nat.le_of_ble_eq_true rfl)⟩ ⟨by show cc + 0 + 3 ≤ room_1.cells; omega, by show ss + 0 + 18 ≤ room_1.slots; omega⟩ rfl rfl (Nat.le_of_ble_eq_true rfl) dL_law_836 rfl ?_
                        refine wq_namS eS34 ?_
                        refine wq_istore (L' := [some (.ref b0), some (.ref (b + 0)), some (.ref (b + 284)), some (.int (wq_I j3)), some (.ref (b + 568)), some (.ref (b + 569)), none, some (.int (wq_I j7)), some (.int (wq_I j8)), some (.int (wq_I j9)), some (.int (wq_I j10)), some (.int (wq_I j11)), some (.int (wq_I j12)), some (.int (wq_I z0)), some (.int (wq_I r32)), none, none]) F dL_law_839 (by decide) rfl rfl rfl ?_
                        refine wq_aload F dL_law_841 rfl rfl ?_
                        refine wq_iconst (n := 1) F dL_law_843 rfl ?_
                        refine wq_dup211 F rfl rfl dL_law_844 rfl ?_
                        obtain ⟨t35, ht35, wt35, h⟩ := wq_ix_some h
                        refine wq_iald F (Nat.le_of_ble_eq_true rfl) wq_EL_cnt ht35 wt35 dL_law_845 rfl ?_
                        refine wq_iload F dL_law_846 rfl rfl ?_
                        refine wq_if_eq (tgt := 858) F dL_law_848 (by decide) rfl (fun hc => ?_) (fun hc => ?_)
                        · replace h := wq_ift hc h
                          refine wq_iconst (n := 0) F dL_law_858 rfl ?_
                          exact wq_wid (k := cc + 3) (n := ss + 18) (by omega) (by omega) <| wq_lsub [some (.ref b0), some (.ref (b + 0)), some (.ref (b + 284)), some (.int (wq_I j3)), some (.ref (b + 568)), some (.ref (b + 569)), none, some (.int (wq_I j7)), some (.int (wq_I j8)), none, none, some (.int (wq_I j11)), some (.int (wq_I j12)), some (.int (wq_I z0)), some (.int (wq_I r32)), none, none] (by simp [wq_sub]) (tj_L_law_859 (cc := cc + 3) (ss := ss + 18) (c9 := c9) (s9 := s9) F K Kn hlt hX hbl hbA (by omega) (by omega) hE hF hkx hrec 0 (S34 569 t35) 1 S34 h)
                        · replace h := wq_iff hc h
                          refine wq_iconst (n := 1) F dL_law_851 rfl ?_
                          refine wq_iload F dL_law_852 rfl rfl ?_
                          refine wq_ishl F dL_law_854 rfl ?_
                          refine wq_goto (tgt := 859) F dL_law_855 (by decide) ?_
                          exact wq_wid (k := cc + 3) (n := ss + 18) (by omega) (by omega) <| wq_lsub [some (.ref b0), some (.ref (b + 0)), some (.ref (b + 284)), some (.int (wq_I j3)), some (.ref (b + 568)), some (.ref (b + 569)), none, some (.int (wq_I j7)), some (.int (wq_I j8)), none, none, some (.int (wq_I j11)), some (.int (wq_I j12)), some (.int (wq_I z0)), some (.int (wq_I r32)), none, none] (by simp [wq_sub]) (tj_L_law_859 (cc := cc + 3) (ss := ss + 18) (c9 := c9) (s9 := s9) F K Kn hlt hX hbl hbA (by omega) (by omega) hE hF hkx hrec (wq_shl 1 z0) (S34 569 t35) 1 S34 h)
                    · replace h := wq_ift hc h
                      refine wq_aload_n F dL_law_795 rfl rfl rfl ?_
                      refine wq_iconst (n := 4) F dL_law_796 rfl ?_
                      refine wq_iload F dL_law_797 rfl rfl ?_
                      obtain ⟨r41, S42, h1r41, h⟩ := wq_bd_some h
                      obtain ⟨S43, eS43, h⟩ := wq_lt_some h
                      refine wq_callW (As := [.ref (b + 0), .int (wq_I 4), .int (wq_I z0)]) (mc := 2) (ms := 12) (n := 15) F K Kn lk_L_154 (wq_Cw_emb (o := 0) (ct_L_add hlt h1r41) (Nat.le_of_ble_eq_true rfl) wq_EL_a (wq_cls_at _)) ⟨(Nat.le_of_ble_eq_true rfl), (Nat.le_of_ble_eq_true rfl)⟩ ⟨by show cc + 0 + 2 ≤ room_1.cells; omega, by show ss + 0 + 12 ≤ room_1.slots; omega⟩ rfl rfl (Nat.le_of_ble_eq_true rfl) dL_law_799 rfl ?_
                      refine wq_namS eS43 ?_
                      refine wq_aload_n F dL_law_802 rfl rfl rfl ?_
                      refine wq_iconst (n := 4) F dL_law_803 rfl ?_
                      refine wq_iload F dL_law_804 rfl rfl ?_
                      obtain ⟨r44, S45, h1r44, h⟩ := wq_bd_some h
                      obtain ⟨S46, eS46, h⟩ := wq_lt_some h
                      refine wq_callW (As := [.ref (b + 284), .int (wq_I 4), .int (wq_I z0)]) (mc := 2) (ms := 12) (n := 15) F K Kn lk_L_154 (wq_Cw_emb (o := 284) (ct_L_add hlt h1r44) (Nat.le_of_ble_eq_true rfl) wq_EL_b (wq_clt_at _)) ⟨(Nat.le_of_ble_eq_true rfl), (Nat.le_of_ble_eq_true rfl)⟩ ⟨by show cc + 2 + 2 ≤ room_1.cells; omega, by show ss + 12 + 12 ≤ room_1.slots; omega⟩ rfl rfl (Nat.le_of_ble_eq_true rfl) dL_law_806 rfl ?_
                      refine wq_namS eS46 ?_
                      refine wq_icmp_ne (tgt := 816) F dL_law_809 (by decide) rfl (fun hc => ?_) (fun hc => ?_)
                      · replace h := wq_iff hc h
                        refine wq_iconst (n := 0) F dL_law_816 rfl ?_
                        exact wq_wid (k := cc + 4) (n := ss + 24) (by omega) (by omega) <| wq_lsub [some (.ref b0), some (.ref (b + 0)), some (.ref (b + 284)), some (.int (wq_I j3)), some (.ref (b + 568)), some (.ref (b + 569)), none, some (.int (wq_I j7)), some (.int (wq_I j8)), none, none, none, none, none, none, none, none] (by simp [wq_sub]) (tj_L_law_817 (cc := cc + 4) (ss := ss + 24) (c9 := c9) (s9 := s9) F K Kn hlt hX hbl hbA (by omega) (by omega) hE hF hkx hrec 0 S46 h)
                      · replace h := wq_ift hc h
                        refine wq_iconst (n := 1) F dL_law_812 rfl ?_
                        refine wq_goto (tgt := 817) F dL_law_813 (by decide) ?_
                        exact wq_wid (k := cc + 4) (n := ss + 24) (by omega) (by omega) <| wq_lsub [some (.ref b0), some (.ref (b + 0)), some (.ref (b + 284)), some (.int (wq_I j3)), some (.ref (b + 568)), some (.ref (b + 569)), none, some (.int (wq_I j7)), some (.int (wq_I j8)), none, none, none, none, none, none, none, none] (by simp [wq_sub]) (tj_L_law_817 (cc := cc + 4) (ss := ss + 24) (c9 := c9) (s9 := s9) F K Kn hlt hX hbl hbA (by omega) (by omega) hE hF hkx hrec 1 S46 h)
                  · replace h := wq_iff hc h
                    refine wq_iload F dL_law_680 rfl rfl ?_
                    refine wq_bipush (n := 81) F dL_law_682 (by decide) rfl ?_
                    obtain ⟨hg, h⟩ := wq_gd_some h
                    refine wq_idiv (hy := hg) F dL_law_684 rfl ?_
                    refine wq_iconst (n := 4) F dL_law_685 rfl ?_
                    obtain ⟨hg, h⟩ := wq_gd_some h
                    refine wq_irem (hy := hg) F dL_law_686 rfl ?_
                    refine wq_istore (L' := [some (.ref b0), some (.ref (b + 0)), some (.ref (b + 284)), some (.int (wq_I j3)), some (.ref (b + 568)), some (.ref (b + 569)), none, some (.int (wq_I j7)), some (.int (wq_I j8)), some (.int (wq_I j9)), some (.int (wq_I j10)), some (.int (wq_I j11)), some (.int (wq_I j12)), some (.int (wq_I z0)), some (.int (wq_I (wq_rem (wq_div j10 81) 4))), none, none]) F dL_law_687 (by decide) rfl rfl rfl ?_
                    refine wq_iload F dL_law_689 rfl rfl ?_
                    refine wq_iconst (n := 3) F dL_law_691 rfl ?_
                    refine wq_icmp_ne (tgt := 706) F dL_law_692 (by decide) rfl (fun hc => ?_) (fun hc => ?_)
                    · replace h := wq_iff hc h
                      refine wq_iload F dL_law_706 rfl rfl ?_
                      refine wq_sipush (n := 324) F dL_law_708 (by decide) rfl ?_
                      obtain ⟨hg, h⟩ := wq_gd_some h
                      refine wq_idiv (hy := hg) F dL_law_711 rfl ?_
                      refine wq_sipush (n := 500) F dL_law_712 (by decide) rfl ?_
                      obtain ⟨hg, h⟩ := wq_gd_some h
                      refine wq_irem (hy := hg) F dL_law_715 rfl ?_
                      exact wq_wid (k := cc + 0) (n := ss + 0) (by omega) (by omega) <| wq_lsub [some (.ref b0), some (.ref (b + 0)), some (.ref (b + 284)), some (.int (wq_I j3)), some (.ref (b + 568)), some (.ref (b + 569)), none, some (.int (wq_I j7)), some (.int (wq_I j8)), none, some (.int (wq_I j10)), some (.int (wq_I j11)), some (.int (wq_I j12)), some (.int (wq_I z0)), some (.int (wq_I (wq_rem (wq_div j10 81) 4))), none, none] (by simp [wq_sub]) (tj_L_law_716 (cc := cc + 0) (ss := ss + 0) (c9 := c9) (s9 := s9) F K Kn hlt hX hbl hbA (by omega) (by omega) hE hF hkx hrec (wq_rem (wq_div j10 324) 500) S h)
                    · replace h := wq_ift hc h
                      refine wq_iload F dL_law_695 rfl rfl ?_
                      refine wq_sipush (n := 324) F dL_law_697 (by decide) rfl ?_
                      obtain ⟨hg, h⟩ := wq_gd_some h
                      refine wq_idiv (hy := hg) F dL_law_700 rfl ?_
                      refine wq_iconst (n := 3) F dL_law_701 rfl ?_
                      obtain ⟨hg, h⟩ := wq_gd_some h
                      refine wq_irem (hy := hg) F dL_law_702 rfl ?_
                      refine wq_goto (tgt := 716) F dL_law_703 (by decide) ?_
                      exact wq_wid (k := cc + 0) (n := ss + 0) (by omega) (by omega) <| wq_lsub [some (.ref b0), some (.ref (b + 0)), some (.ref (b + 284)), some (.int (wq_I j3)), some (.ref (b + 568)), some (.ref (b + 569)), none, some (.int (wq_I j7)), some (.int (wq_I j8)), none, some (.int (wq_I j10)), some (.int (wq_I j11)), some (.int (wq_I j12)), some (.int (wq_I z0)), some (.int (wq_I (wq_rem (wq_div j10 81) 4))), none, none] (by simp [wq_sub]) (tj_L_law_716 (cc := cc + 0) (ss := ss + 0) (c9 := c9) (s9 := s9) F K Kn hlt hX hbl hbA (by omega) (by omega) hE hF hkx hrec (wq_rem (wq_div j10 324) 3) S h)
                · replace h := wq_iff hc h
                  refine wq_aload_n F dL_law_642 rfl rfl rfl ?_
                  refine wq_iconst (n := 2) F dL_law_643 rfl ?_
                  refine wq_iload F dL_law_644 rfl rfl ?_
                  refine wq_iload F dL_law_646 rfl rfl ?_
                  obtain ⟨r53, S54, h1r53, h⟩ := wq_bd_some h
                  obtain ⟨S55, eS55, h⟩ := wq_lt_some h
                  refine wq_callW (As := [.ref (b + 0), .int (wq_I 2), .int (wq_I z0), .int (wq_I j11)]) (mc := 3) (ms := 18) (n := 10) F K Kn lk_L_160 (wq_Cw_emb (o := 0) (ct_L_does hlt h1r53) (Nat.le_of_ble_eq_true rfl) wq_EL_a (wq_cls_at _)) ⟨(Nat.le_of_ble_eq_true rfl), (Nat.le_of_ble_eq_true rfl)⟩ ⟨by show cc + 0 + 3 ≤ room_1.cells; omega, by show ss + 0 + 18 ≤ room_1.slots; omega⟩ rfl rfl (Nat.le_of_ble_eq_true rfl) dL_law_648 rfl ?_
                  refine wq_namS eS55 ?_
                  refine wq_aload_n F dL_law_651 rfl rfl rfl ?_
                  refine wq_iconst (n := 2) F dL_law_652 rfl ?_
                  refine wq_iload F dL_law_653 rfl rfl ?_
                  refine wq_iload F dL_law_655 rfl rfl ?_
                  obtain ⟨r56, S57, h1r56, h⟩ := wq_bd_some h
                  obtain ⟨S58, eS58, h⟩ := wq_lt_some h
                  refine wq_callW (As := [.ref (b + 284), .int (wq_I 2), .int (wq_I z0), .int (wq_I j11)]) (mc := 3) (ms := 18) (n := 10) F K Kn lk_L_160 (wq_Cw_emb (o := 284) (ct_L_does hlt h1r56) (Nat.le_of_ble_eq_true rfl) wq_EL_b (wq_clt_at _)) ⟨(Nat.le_of_ble_eq_true rfl), (Nat.le_of_ble_eq_true rfl)⟩ ⟨by show cc + 3 + 3 ≤ room_1.cells; omega, by show ss + 18 + 18 ≤ room_1.slots; omega⟩ rfl rfl (Nat.le_of_ble_eq_true rfl) dL_law_657 rfl ?_
                  refine wq_namS eS58 ?_
                  refine wq_icmp_ne (tgt := 667) F dL_law_660 (by decide) rfl (fun hc => ?_) (fun hc => ?_)
                  · replace h := wq_iff hc h
                    refine wq_iconst (n := 0) F dL_law_667 rfl ?_
                    exact wq_wid (k := cc + 6) (n := ss + 36) (by omega) (by omega) <| wq_lsub [some (.ref b0), some (.ref (b + 0)), some (.ref (b + 284)), some (.int (wq_I j3)), some (.ref (b + 568)), some (.ref (b + 569)), none, some (.int (wq_I j7)), some (.int (wq_I j8)), none, none, none, none, none, none, none, none] (by simp [wq_sub]) (tj_L_law_668 (cc := cc + 6) (ss := ss + 36) (c9 := c9) (s9 := s9) F K Kn hlt hX hbl hbA (by omega) (by omega) hE hF hkx hrec 0 S58 h)
                  · replace h := wq_ift hc h
                    refine wq_iconst (n := 1) F dL_law_663 rfl ?_
                    refine wq_goto (tgt := 668) F dL_law_664 (by decide) ?_
                    exact wq_wid (k := cc + 6) (n := ss + 36) (by omega) (by omega) <| wq_lsub [some (.ref b0), some (.ref (b + 0)), some (.ref (b + 284)), some (.int (wq_I j3)), some (.ref (b + 568)), some (.ref (b + 569)), none, some (.int (wq_I j7)), some (.int (wq_I j8)), none, none, none, none, none, none, none, none] (by simp [wq_sub]) (tj_L_law_668 (cc := cc + 6) (ss := ss + 36) (c9 := c9) (s9 := s9) F K Kn hlt hX hbl hbA (by omega) (by omega) hE hF hkx hrec 1 S58 h)
              · replace h := wq_iff hc h
                refine wq_aload_n F dL_law_583 rfl rfl rfl ?_
                refine wq_iconst (n := 1) F dL_law_584 rfl ?_
                refine wq_iload F dL_law_585 rfl rfl ?_
                refine wq_iconst (n := 5) F dL_law_587 rfl ?_
                obtain ⟨hg, h⟩ := wq_gd_some h
                refine wq_irem (hy := hg) F dL_law_588 rfl ?_
                obtain ⟨r59, S60, h1r59, h⟩ := wq_bd_some h
                obtain ⟨S61, eS61, h⟩ := wq_lt_some h
                refine wq_callW (As := [.ref (b + 0), .int (wq_I 1), .int (wq_I (wq_rem j10 5))]) (mc := 2) (ms := 12) (n := 15) F K Kn lk_L_154 (wq_Cw_emb (o := 0) (ct_L_add hlt h1r59) (Nat.le_of_ble_eq_true rfl) wq_EL_a (wq_cls_at _)) ⟨(Nat.le_of_ble_eq_true rfl), (Nat.le_of_ble_eq_true rfl)⟩ ⟨by show cc + 0 + 2 ≤ room_1.cells; omega, by show ss + 0 + 12 ≤ room_1.slots; omega⟩ rfl rfl (Nat.le_of_ble_eq_true rfl) dL_law_589 rfl ?_
                refine wq_namS eS61 ?_
                refine wq_istore (L' := [some (.ref b0), some (.ref (b + 0)), some (.ref (b + 284)), some (.int (wq_I j3)), some (.ref (b + 568)), some (.ref (b + 569)), none, some (.int (wq_I j7)), some (.int (wq_I j8)), some (.int (wq_I j9)), some (.int (wq_I j10)), some (.int (wq_I j11)), some (.int (wq_I j12)), some (.int (wq_I z0)), some (.int (wq_I r59)), none, none]) F dL_law_592 (by decide) rfl rfl rfl ?_
                refine wq_aload F dL_law_594 rfl rfl ?_
                refine wq_iconst (n := 0) F dL_law_596 rfl ?_
                refine wq_dup211 F rfl rfl dL_law_597 rfl ?_
                obtain ⟨t62, ht62, wt62, h⟩ := wq_ix_some h
                refine wq_iald F (Nat.le_of_ble_eq_true rfl) wq_EL_cnt ht62 wt62 dL_law_598 rfl ?_
                refine wq_iload F dL_law_599 rfl rfl ?_
                refine wq_if_lt (tgt := 608) F dL_law_601 (by decide) rfl (fun hc => ?_) (fun hc => ?_)
                · replace h := wq_ift hc h
                  refine wq_iconst (n := 0) F dL_law_608 rfl ?_
                  exact wq_wid (k := cc + 2) (n := ss + 12) (by omega) (by omega) <| wq_lsub [some (.ref b0), some (.ref (b + 0)), some (.ref (b + 284)), some (.int (wq_I j3)), some (.ref (b + 568)), some (.ref (b + 569)), none, some (.int (wq_I j7)), some (.int (wq_I j8)), none, some (.int (wq_I j10)), none, none, none, some (.int (wq_I r59)), none, none] (by simp [wq_sub]) (tj_L_law_609 (cc := cc + 2) (ss := ss + 12) (c9 := c9) (s9 := s9) F K Kn hlt hX hbl hbA (by omega) (by omega) hE hF hkx hrec 0 (S61 569 t62) 0 S61 h)
                · replace h := wq_iff hc h
                  refine wq_iconst (n := 1) F dL_law_604 rfl ?_
                  refine wq_goto (tgt := 609) F dL_law_605 (by decide) ?_
                  exact wq_wid (k := cc + 2) (n := ss + 12) (by omega) (by omega) <| wq_lsub [some (.ref b0), some (.ref (b + 0)), some (.ref (b + 284)), some (.int (wq_I j3)), some (.ref (b + 568)), some (.ref (b + 569)), none, some (.int (wq_I j7)), some (.int (wq_I j8)), none, some (.int (wq_I j10)), none, none, none, some (.int (wq_I r59)), none, none] (by simp [wq_sub]) (tj_L_law_609 (cc := cc + 2) (ss := ss + 12) (c9 := c9) (s9 := s9) F K Kn hlt hX hbl hbA (by omega) (by omega) hE hF hkx hrec 1 (S61 569 t62) 0 S61 h)
            · replace h := wq_iff hc h
              refine wq_aload_n F dL_law_543 rfl rfl rfl ?_
              refine wq_iconst (n := 3) F dL_law_544 rfl ?_
              refine wq_iload F dL_law_545 rfl rfl ?_
              refine wq_bipush (n := 40) F dL_law_547 (by decide) rfl ?_
              obtain ⟨hg, h⟩ := wq_gd_some h
              refine wq_irem (hy := hg) F dL_law_549 rfl ?_
              obtain ⟨r68, S69, h1r68, h⟩ := wq_bd_some h
              obtain ⟨S70, eS70, h⟩ := wq_lt_some h
              refine wq_callW (As := [.ref (b + 0), .int (wq_I 3), .int (wq_I (wq_rem j10 40))]) (mc := 2) (ms := 12) (n := 15) F K Kn lk_L_154 (wq_Cw_emb (o := 0) (ct_L_add hlt h1r68) (Nat.le_of_ble_eq_true rfl) wq_EL_a (wq_cls_at _)) ⟨(Nat.le_of_ble_eq_true rfl), (Nat.le_of_ble_eq_true rfl)⟩ ⟨by show cc + 0 + 2 ≤ room_1.cells; omega, by show ss + 0 + 12 ≤ room_1.slots; omega⟩ rfl rfl (Nat.le_of_ble_eq_true rfl) dL_law_550 rfl ?_
              refine wq_namS eS70 ?_
              refine wq_aload_n F dL_law_553 rfl rfl rfl ?_
              refine wq_iconst (n := 3) F dL_law_554 rfl ?_
              refine wq_iload F dL_law_555 rfl rfl ?_
              refine wq_bipush (n := 40) F dL_law_557 (by decide) rfl ?_
              obtain ⟨hg, h⟩ := wq_gd_some h
              refine wq_irem (hy := hg) F dL_law_559 rfl ?_
              obtain ⟨r71, S72, h1r71, h⟩ := wq_bd_some h
              obtain ⟨S73, eS73, h⟩ := wq_lt_some h
              refine wq_callW (As := [.ref (b + 284), .int (wq_I 3), .int (wq_I (wq_rem j10 40))]) (mc := 2) (ms := 12) (n := 15) F K Kn lk_L_154 (wq_Cw_emb (o := 284) (ct_L_add hlt h1r71) (Nat.le_of_ble_eq_true rfl) wq_EL_b (wq_clt_at _)) ⟨(Nat.le_of_ble_eq_true rfl), (Nat.le_of_ble_eq_true rfl)⟩ ⟨by show cc + 2 + 2 ≤ room_1.cells; omega, by show ss + 12 + 12 ≤ room_1.slots; omega⟩ rfl rfl (Nat.le_of_ble_eq_true rfl) dL_law_560 rfl ?_
              refine wq_namS eS73 ?_
              refine wq_icmp_ne (tgt := 570) F dL_law_563 (by decide) rfl (fun hc => ?_) (fun hc => ?_)
              · replace h := wq_iff hc h
                refine wq_iconst (n := 0) F dL_law_570 rfl ?_
                exact wq_wid (k := cc + 4) (n := ss + 24) (by omega) (by omega) <| wq_lsub [some (.ref b0), some (.ref (b + 0)), some (.ref (b + 284)), some (.int (wq_I j3)), some (.ref (b + 568)), some (.ref (b + 569)), none, some (.int (wq_I j7)), some (.int (wq_I j8)), none, none, none, none, none, none, none, none] (by simp [wq_sub]) (tj_L_law_571 (cc := cc + 4) (ss := ss + 24) (c9 := c9) (s9 := s9) F K Kn hlt hX hbl hbA (by omega) (by omega) hE hF hkx hrec 0 S73 h)
              · replace h := wq_ift hc h
                refine wq_iconst (n := 1) F dL_law_566 rfl ?_
                refine wq_goto (tgt := 571) F dL_law_567 (by decide) ?_
                exact wq_wid (k := cc + 4) (n := ss + 24) (by omega) (by omega) <| wq_lsub [some (.ref b0), some (.ref (b + 0)), some (.ref (b + 284)), some (.int (wq_I j3)), some (.ref (b + 568)), some (.ref (b + 569)), none, some (.int (wq_I j7)), some (.int (wq_I j8)), none, none, none, none, none, none, none, none] (by simp [wq_sub]) (tj_L_law_571 (cc := cc + 4) (ss := ss + 24) (c9 := c9) (s9 := s9) F K Kn hlt hX hbl hbA (by omega) (by omega) hE hF hkx hrec 1 S73 h)
          · replace h := wq_ift hc h
            refine wq_aload_n F dL_law_501 rfl rfl rfl ?_
            refine wq_iconst (n := 2) F dL_law_502 rfl ?_
            refine wq_iconst (n := 1) F dL_law_503 rfl ?_
            refine wq_iload F dL_law_504 rfl rfl ?_
            refine wq_iconst (n := 4) F dL_law_506 rfl ?_
            obtain ⟨hg, h⟩ := wq_gd_some h
            refine wq_irem (hy := hg) F dL_law_507 rfl ?_
            refine wq_iadd F dL_law_508 rfl ?_
            obtain ⟨r74, S75, h1r74, h⟩ := wq_bd_some h
            obtain ⟨S76, eS76, h⟩ := wq_lt_some h
            refine wq_callW (As := [.ref (b + 0), .int (wq_I 2), .int (wq_I (1 + (wq_rem j10 4)))]) (mc := 2) (ms := 12) (n := 15) F K Kn lk_L_154 (wq_Cw_emb (o := 0) (ct_L_add hlt h1r74) (Nat.le_of_ble_eq_true rfl) wq_EL_a (wq_cls_at _)) ⟨(Nat.le_of_ble_eq_true rfl), (Nat.le_of_ble_eq_true rfl)⟩ ⟨by show cc + 0 + 2 ≤ room_1.cells; omega, by show ss + 0 + 12 ≤ room_1.slots; omega⟩ rfl rfl (Nat.le_of_ble_eq_true rfl) dL_law_509 rfl ?_
            refine wq_namS eS76 ?_
            refine wq_aload_n F dL_law_512 rfl rfl rfl ?_
            refine wq_iconst (n := 2) F dL_law_513 rfl ?_
            refine wq_iconst (n := 1) F dL_law_514 rfl ?_
            refine wq_iload F dL_law_515 rfl rfl ?_
            refine wq_iconst (n := 4) F dL_law_517 rfl ?_
            obtain ⟨hg, h⟩ := wq_gd_some h
            refine wq_irem (hy := hg) F dL_law_518 rfl ?_
            refine wq_iadd F dL_law_519 rfl ?_
            obtain ⟨r77, S78, h1r77, h⟩ := wq_bd_some h
            obtain ⟨S79, eS79, h⟩ := wq_lt_some h
            refine wq_callW (As := [.ref (b + 284), .int (wq_I 2), .int (wq_I (1 + (wq_rem j10 4)))]) (mc := 2) (ms := 12) (n := 15) F K Kn lk_L_154 (wq_Cw_emb (o := 284) (ct_L_add hlt h1r77) (Nat.le_of_ble_eq_true rfl) wq_EL_b (wq_clt_at _)) ⟨(Nat.le_of_ble_eq_true rfl), (Nat.le_of_ble_eq_true rfl)⟩ ⟨by show cc + 2 + 2 ≤ room_1.cells; omega, by show ss + 12 + 12 ≤ room_1.slots; omega⟩ rfl rfl (Nat.le_of_ble_eq_true rfl) dL_law_520 rfl ?_
            refine wq_namS eS79 ?_
            refine wq_icmp_ne (tgt := 530) F dL_law_523 (by decide) rfl (fun hc => ?_) (fun hc => ?_)
            · replace h := wq_iff hc h
              refine wq_iconst (n := 0) F dL_law_530 rfl ?_
              exact wq_wid (k := cc + 4) (n := ss + 24) (by omega) (by omega) <| wq_lsub [some (.ref b0), some (.ref (b + 0)), some (.ref (b + 284)), some (.int (wq_I j3)), some (.ref (b + 568)), some (.ref (b + 569)), none, some (.int (wq_I j7)), some (.int (wq_I j8)), none, none, none, none, none, none, none, none] (by simp [wq_sub]) (tj_L_law_531 (cc := cc + 4) (ss := ss + 24) (c9 := c9) (s9 := s9) F K Kn hlt hX hbl hbA (by omega) (by omega) hE hF hkx hrec 0 S79 h)
            · replace h := wq_ift hc h
              refine wq_iconst (n := 1) F dL_law_526 rfl ?_
              refine wq_goto (tgt := 531) F dL_law_527 (by decide) ?_
              exact wq_wid (k := cc + 4) (n := ss + 24) (by omega) (by omega) <| wq_lsub [some (.ref b0), some (.ref (b + 0)), some (.ref (b + 284)), some (.int (wq_I j3)), some (.ref (b + 568)), some (.ref (b + 569)), none, some (.int (wq_I j7)), some (.int (wq_I j8)), none, none, none, none, none, none, none, none] (by simp [wq_sub]) (tj_L_law_531 (cc := cc + 4) (ss := ss + 24) (c9 := c9) (s9 := s9) F K Kn hlt hX hbl hbA (by omega) (by omega) hE hF hkx hrec 1 S79 h)
        · replace h := wq_iff hc h
          refine wq_aload_n F dL_law_451 rfl rfl rfl ?_
          refine wq_iconst (n := 1) F dL_law_452 rfl ?_
          refine wq_iload F dL_law_453 rfl rfl ?_
          refine wq_iconst (n := 1) F dL_law_455 rfl ?_
          refine wq_iload F dL_law_456 rfl rfl ?_
          refine wq_iconst (n := 3) F dL_law_458 rfl ?_
          obtain ⟨hg, h⟩ := wq_gd_some h
          refine wq_idiv (hy := hg) F dL_law_459 rfl ?_
          refine wq_iconst (n := 4) F dL_law_460 rfl ?_
          obtain ⟨hg, h⟩ := wq_gd_some h
          refine wq_irem (hy := hg) F dL_law_461 rfl ?_
          refine wq_iadd F dL_law_462 rfl ?_
          obtain ⟨r80, S81, h1r80, h⟩ := wq_bd_some h
          obtain ⟨S82, eS82, h⟩ := wq_lt_some h
          refine wq_callW (As := [.ref (b + 0), .int (wq_I 1), .int (wq_I j11), .int (wq_I (1 + (wq_rem (wq_div j10 3) 4)))]) (mc := 3) (ms := 18) (n := 10) F K Kn lk_L_160 (wq_Cw_emb (o := 0) (ct_L_does hlt h1r80) (Nat.le_of_ble_eq_true rfl) wq_EL_a (wq_cls_at _)) ⟨(Nat.le_of_ble_eq_true rfl), (Nat.le_of_ble_eq_true rfl)⟩ ⟨by show cc + 0 + 3 ≤ room_1.cells; omega, by show ss + 0 + 18 ≤ room_1.slots; omega⟩ rfl rfl (Nat.le_of_ble_eq_true rfl) dL_law_463 rfl ?_
          refine wq_namS eS82 ?_
          refine wq_aload_n F dL_law_466 rfl rfl rfl ?_
          refine wq_iconst (n := 1) F dL_law_467 rfl ?_
          refine wq_iload F dL_law_468 rfl rfl ?_
          refine wq_iconst (n := 1) F dL_law_470 rfl ?_
          refine wq_iload F dL_law_471 rfl rfl ?_
          refine wq_iconst (n := 3) F dL_law_473 rfl ?_
          obtain ⟨hg, h⟩ := wq_gd_some h
          refine wq_idiv (hy := hg) F dL_law_474 rfl ?_
          refine wq_iconst (n := 4) F dL_law_475 rfl ?_
          obtain ⟨hg, h⟩ := wq_gd_some h
          refine wq_irem (hy := hg) F dL_law_476 rfl ?_
          refine wq_iadd F dL_law_477 rfl ?_
          obtain ⟨r83, S84, h1r83, h⟩ := wq_bd_some h
          obtain ⟨S85, eS85, h⟩ := wq_lt_some h
          refine wq_callW (As := [.ref (b + 284), .int (wq_I 1), .int (wq_I j11), .int (wq_I (1 + (wq_rem (wq_div j10 3) 4)))]) (mc := 3) (ms := 18) (n := 10) F K Kn lk_L_160 (wq_Cw_emb (o := 284) (ct_L_does hlt h1r83) (Nat.le_of_ble_eq_true rfl) wq_EL_b (wq_clt_at _)) ⟨(Nat.le_of_ble_eq_true rfl), (Nat.le_of_ble_eq_true rfl)⟩ ⟨by show cc + 3 + 3 ≤ room_1.cells; omega, by show ss + 18 + 18 ≤ room_1.slots; omega⟩ rfl rfl (Nat.le_of_ble_eq_true rfl) dL_law_478 rfl ?_
          refine wq_namS eS85 ?_
          refine wq_icmp_ne (tgt := 488) F dL_law_481 (by decide) rfl (fun hc => ?_) (fun hc => ?_)
          · replace h := wq_iff hc h
            refine wq_iconst (n := 0) F dL_law_488 rfl ?_
            exact wq_wid (k := cc + 6) (n := ss + 36) (by omega) (by omega) <| wq_lsub [some (.ref b0), some (.ref (b + 0)), some (.ref (b + 284)), some (.int (wq_I j3)), some (.ref (b + 568)), some (.ref (b + 569)), none, some (.int (wq_I j7)), some (.int (wq_I j8)), none, none, none, none, none, none, none, none] (by simp [wq_sub]) (tj_L_law_489 (cc := cc + 6) (ss := ss + 36) (c9 := c9) (s9 := s9) F K Kn hlt hX hbl hbA (by omega) (by omega) hE hF hkx hrec 0 S85 h)
          · replace h := wq_ift hc h
            refine wq_iconst (n := 1) F dL_law_484 rfl ?_
            refine wq_goto (tgt := 489) F dL_law_485 (by decide) ?_
            exact wq_wid (k := cc + 6) (n := ss + 36) (by omega) (by omega) <| wq_lsub [some (.ref b0), some (.ref (b + 0)), some (.ref (b + 284)), some (.int (wq_I j3)), some (.ref (b + 568)), some (.ref (b + 569)), none, some (.int (wq_I j7)), some (.int (wq_I j8)), none, none, none, none, none, none, none, none] (by simp [wq_sub]) (tj_L_law_489 (cc := cc + 6) (ss := ss + 36) (c9 := c9) (s9 := s9) F K Kn hlt hX hbl hbA (by omega) (by omega) hE hF hkx hrec 1 S85 h)
      · replace h := wq_iff hc h
        refine wq_aload_n F dL_law_397 rfl rfl rfl ?_
        refine wq_iconst (n := 5) F dL_law_398 rfl ?_
        refine wq_iload F dL_law_399 rfl rfl ?_
        refine wq_bipush (n := 9) F dL_law_401 (by decide) rfl ?_
        obtain ⟨hg, h⟩ := wq_gd_some h
        refine wq_idiv (hy := hg) F dL_law_403 rfl ?_
        refine wq_iconst (n := 2) F dL_law_404 rfl ?_
        obtain ⟨hg, h⟩ := wq_gd_some h
        refine wq_irem (hy := hg) F dL_law_405 rfl ?_
        refine wq_iadd F dL_law_406 rfl ?_
        refine wq_iload F dL_law_407 rfl rfl ?_
        refine wq_iload F dL_law_409 rfl rfl ?_
        obtain ⟨r86, S87, h1r86, h⟩ := wq_bd_some h
        obtain ⟨S88, eS88, h⟩ := wq_lt_some h
        refine wq_callW (As := [.ref (b + 0), .int (wq_I (5 + (wq_rem (wq_div j10 9) 2))), .int (wq_I j11), .int (wq_I j12)]) (mc := 3) (ms := 18) (n := 10) F K Kn lk_L_160 (wq_Cw_emb (o := 0) (ct_L_does hlt h1r86) (Nat.le_of_ble_eq_true rfl) wq_EL_a (wq_cls_at _)) ⟨(Nat.le_of_ble_eq_true rfl), (Nat.le_of_ble_eq_true rfl)⟩ ⟨by show cc + 0 + 3 ≤ room_1.cells; omega, by show ss + 0 + 18 ≤ room_1.slots; omega⟩ rfl rfl (Nat.le_of_ble_eq_true rfl) dL_law_411 rfl ?_
        refine wq_namS eS88 ?_
        refine wq_aload_n F dL_law_414 rfl rfl rfl ?_
        refine wq_iconst (n := 5) F dL_law_415 rfl ?_
        refine wq_iload F dL_law_416 rfl rfl ?_
        refine wq_bipush (n := 9) F dL_law_418 (by decide) rfl ?_
        obtain ⟨hg, h⟩ := wq_gd_some h
        refine wq_idiv (hy := hg) F dL_law_420 rfl ?_
        refine wq_iconst (n := 2) F dL_law_421 rfl ?_
        obtain ⟨hg, h⟩ := wq_gd_some h
        refine wq_irem (hy := hg) F dL_law_422 rfl ?_
        refine wq_iadd F dL_law_423 rfl ?_
        refine wq_iload F dL_law_424 rfl rfl ?_
        refine wq_iload F dL_law_426 rfl rfl ?_
        obtain ⟨r89, S90, h1r89, h⟩ := wq_bd_some h
        obtain ⟨S91, eS91, h⟩ := wq_lt_some h
        refine wq_callW (As := [.ref (b + 284), .int (wq_I (5 + (wq_rem (wq_div j10 9) 2))), .int (wq_I j11), .int (wq_I j12)]) (mc := 3) (ms := 18) (n := 10) F K Kn lk_L_160 (wq_Cw_emb (o := 284) (ct_L_does hlt h1r89) (Nat.le_of_ble_eq_true rfl) wq_EL_b (wq_clt_at _)) ⟨(Nat.le_of_ble_eq_true rfl), (Nat.le_of_ble_eq_true rfl)⟩ ⟨by show cc + 3 + 3 ≤ room_1.cells; omega, by show ss + 18 + 18 ≤ room_1.slots; omega⟩ rfl rfl (Nat.le_of_ble_eq_true rfl) dL_law_428 rfl ?_
        refine wq_namS eS91 ?_
        refine wq_icmp_ne (tgt := 438) F dL_law_431 (by decide) rfl (fun hc => ?_) (fun hc => ?_)
        · replace h := wq_iff hc h
          refine wq_iconst (n := 0) F dL_law_438 rfl ?_
          exact wq_wid (k := cc + 6) (n := ss + 36) (by omega) (by omega) <| wq_lsub [some (.ref b0), some (.ref (b + 0)), some (.ref (b + 284)), some (.int (wq_I j3)), some (.ref (b + 568)), some (.ref (b + 569)), none, some (.int (wq_I j7)), some (.int (wq_I j8)), none, none, none, none, none, none, none, none] (by simp [wq_sub]) (tj_L_law_439 (cc := cc + 6) (ss := ss + 36) (c9 := c9) (s9 := s9) F K Kn hlt hX hbl hbA (by omega) (by omega) hE hF hkx hrec 0 S91 h)
        · replace h := wq_ift hc h
          refine wq_iconst (n := 1) F dL_law_434 rfl ?_
          refine wq_goto (tgt := 439) F dL_law_435 (by decide) ?_
          exact wq_wid (k := cc + 6) (n := ss + 36) (by omega) (by omega) <| wq_lsub [some (.ref b0), some (.ref (b + 0)), some (.ref (b + 284)), some (.int (wq_I j3)), some (.ref (b + 568)), some (.ref (b + 569)), none, some (.int (wq_I j7)), some (.int (wq_I j8)), none, none, none, none, none, none, none, none] (by simp [wq_sub]) (tj_L_law_439 (cc := cc + 6) (ss := ss + 36) (c9 := c9) (s9 := s9) F K Kn hlt hX hbl hbA (by omega) (by omega) hE hF hkx hrec 1 S91 h)
    · replace h := wq_ift hc h
      refine wq_aload_n F dL_law_349 rfl rfl rfl ?_
      refine wq_iconst (n := 0) F dL_law_350 rfl ?_
      refine wq_iload F dL_law_351 rfl rfl ?_
      refine wq_iload F dL_law_353 rfl rfl ?_
      refine wq_iconst (n := 3) F dL_law_355 rfl ?_
      obtain ⟨hg, h⟩ := wq_gd_some h
      refine wq_idiv (hy := hg) F dL_law_356 rfl ?_
      refine wq_bipush (n := 12) F dL_law_357 (by decide) rfl ?_
      obtain ⟨hg, h⟩ := wq_gd_some h
      refine wq_irem (hy := hg) F dL_law_359 rfl ?_
      obtain ⟨r92, S93, h1r92, h⟩ := wq_bd_some h
      obtain ⟨S94, eS94, h⟩ := wq_lt_some h
      refine wq_callW (As := [.ref (b + 0), .int (wq_I 0), .int (wq_I j11), .int (wq_I (wq_rem (wq_div j10 3) 12))]) (mc := 3) (ms := 18) (n := 10) F K Kn lk_L_160 (wq_Cw_emb (o := 0) (ct_L_does hlt h1r92) (Nat.le_of_ble_eq_true rfl) wq_EL_a (wq_cls_at _)) ⟨(Nat.le_of_ble_eq_true rfl), (Nat.le_of_ble_eq_true rfl)⟩ ⟨by show cc + 0 + 3 ≤ room_1.cells; omega, by show ss + 0 + 18 ≤ room_1.slots; omega⟩ rfl rfl (Nat.le_of_ble_eq_true rfl) dL_law_360 rfl ?_
      refine wq_namS eS94 ?_
      refine wq_aload_n F dL_law_363 rfl rfl rfl ?_
      refine wq_iconst (n := 0) F dL_law_364 rfl ?_
      refine wq_iload F dL_law_365 rfl rfl ?_
      refine wq_iload F dL_law_367 rfl rfl ?_
      refine wq_iconst (n := 3) F dL_law_369 rfl ?_
      obtain ⟨hg, h⟩ := wq_gd_some h
      refine wq_idiv (hy := hg) F dL_law_370 rfl ?_
      refine wq_bipush (n := 12) F dL_law_371 (by decide) rfl ?_
      obtain ⟨hg, h⟩ := wq_gd_some h
      refine wq_irem (hy := hg) F dL_law_373 rfl ?_
      obtain ⟨r95, S96, h1r95, h⟩ := wq_bd_some h
      obtain ⟨S97, eS97, h⟩ := wq_lt_some h
      refine wq_callW (As := [.ref (b + 284), .int (wq_I 0), .int (wq_I j11), .int (wq_I (wq_rem (wq_div j10 3) 12))]) (mc := 3) (ms := 18) (n := 10) F K Kn lk_L_160 (wq_Cw_emb (o := 284) (ct_L_does hlt h1r95) (Nat.le_of_ble_eq_true rfl) wq_EL_b (wq_clt_at _)) ⟨(Nat.le_of_ble_eq_true rfl), (Nat.le_of_ble_eq_true rfl)⟩ ⟨by show cc + 3 + 3 ≤ room_1.cells; omega, by show ss + 18 + 18 ≤ room_1.slots; omega⟩ rfl rfl (Nat.le_of_ble_eq_true rfl) dL_law_374 rfl ?_
      refine wq_namS eS97 ?_
      refine wq_icmp_ne (tgt := 384) F dL_law_377 (by decide) rfl (fun hc => ?_) (fun hc => ?_)
      · replace h := wq_iff hc h
        refine wq_iconst (n := 0) F dL_law_384 rfl ?_
        exact wq_wid (k := cc + 6) (n := ss + 36) (by omega) (by omega) <| wq_lsub [some (.ref b0), some (.ref (b + 0)), some (.ref (b + 284)), some (.int (wq_I j3)), some (.ref (b + 568)), some (.ref (b + 569)), none, some (.int (wq_I j7)), some (.int (wq_I j8)), none, none, none, none, none, none, none, none] (by simp [wq_sub]) (tj_L_law_385 (cc := cc + 6) (ss := ss + 36) (c9 := c9) (s9 := s9) F K Kn hlt hX hbl hbA (by omega) (by omega) hE hF hkx hrec 0 S97 h)
      · replace h := wq_ift hc h
        refine wq_iconst (n := 1) F dL_law_380 rfl ?_
        refine wq_goto (tgt := 385) F dL_law_381 (by decide) ?_
        exact wq_wid (k := cc + 6) (n := ss + 36) (by omega) (by omega) <| wq_lsub [some (.ref b0), some (.ref (b + 0)), some (.ref (b + 284)), some (.int (wq_I j3)), some (.ref (b + 568)), some (.ref (b + 569)), none, some (.int (wq_I j7)), some (.int (wq_I j8)), none, none, none, none, none, none, none, none] (by simp [wq_sub]) (tj_L_law_385 (cc := cc + 6) (ss := ss + 36) (c9 := c9) (s9 := s9) F K Kn hlt hX hbl hbA (by omega) (by omega) hE hF hkx hrec 1 S97 h)
  · replace h := wq_iff hc h
    refine wq_iload F dL_law_217 rfl rfl ?_
    refine wq_iconst (n := 3) F dL_law_219 rfl ?_
    obtain ⟨hg, h⟩ := wq_gd_some h
    refine wq_idiv (hy := hg) F dL_law_220 rfl ?_
    refine wq_sipush (n := 500) F dL_law_221 (by decide) rfl ?_
    obtain ⟨hg, h⟩ := wq_gd_some h
    refine wq_irem (hy := hg) F dL_law_224 rfl ?_
    obtain ⟨a98, ea98, h⟩ := wq_lt_some h
    refine wq_namI ea98 ?_
    refine wq_istore (L' := [some (.ref b0), some (.ref (b + 0)), some (.ref (b + 284)), some (.int (wq_I j3)), some (.ref (b + 568)), some (.ref (b + 569)), none, some (.int (wq_I j7)), some (.int (wq_I j8)), some (.int (wq_I j9)), some (.int (wq_I j10)), some (.int (wq_I j11)), some (.int (wq_I j12)), some (.int (wq_I z0)), some (.int (wq_I a98)), none, none]) F dL_law_225 (by decide) rfl rfl rfl ?_
    refine wq_aload F dL_law_227 rfl rfl ?_
    refine wq_iload F dL_law_229 rfl rfl ?_
    obtain ⟨t99, ht99, wt99, h⟩ := wq_ix_some h
    refine wq_iald F (Nat.le_of_ble_eq_true rfl) wq_EL_col ht99 wt99 dL_law_231 rfl ?_
    refine wq_iconst (n := 1) F dL_law_232 rfl ?_
    refine wq_icmp_le (tgt := 247) F dL_law_233 (by decide) rfl (fun hc => ?_) (fun hc => ?_)
    · replace h := wq_ift hc h
      refine wq_iconst (n := 0) F dL_law_247 rfl ?_
      exact wq_wid (k := cc + 0) (n := ss + 0) (by omega) (by omega) <| wq_lsub [some (.ref b0), some (.ref (b + 0)), some (.ref (b + 284)), some (.int (wq_I j3)), some (.ref (b + 568)), some (.ref (b + 569)), none, some (.int (wq_I j7)), some (.int (wq_I j8)), none, some (.int (wq_I j10)), some (.int (wq_I j11)), none, none, some (.int (wq_I a98)), none, none] (by simp [wq_sub]) (tj_L_law_248 (cc := cc + 0) (ss := ss + 0) (c9 := c9) (s9 := s9) F K Kn hlt hX hbl hbA (by omega) (by omega) hE hF hkx hrec 0 S h)
    · replace h := wq_iff hc h
      refine wq_iload F dL_law_236 rfl rfl ?_
      refine wq_bipush (n := 7) F dL_law_238 (by decide) rfl ?_
      obtain ⟨hg, h⟩ := wq_gd_some h
      refine wq_idiv (hy := hg) F dL_law_240 rfl ?_
      refine wq_bipush (n := 6) F dL_law_241 (by decide) rfl ?_
      obtain ⟨hg, h⟩ := wq_gd_some h
      refine wq_irem (hy := hg) F dL_law_243 rfl ?_
      refine wq_goto (tgt := 248) F dL_law_244 (by decide) ?_
      exact wq_wid (k := cc + 0) (n := ss + 0) (by omega) (by omega) <| wq_lsub [some (.ref b0), some (.ref (b + 0)), some (.ref (b + 284)), some (.int (wq_I j3)), some (.ref (b + 568)), some (.ref (b + 569)), none, some (.int (wq_I j7)), some (.int (wq_I j8)), none, some (.int (wq_I j10)), some (.int (wq_I j11)), none, none, some (.int (wq_I a98)), none, none] (by simp [wq_sub]) (tj_L_law_248 (cc := cc + 0) (ss := ss + 0) (c9 := c9) (s9 := s9) F K Kn hlt hX hbl hbA (by omega) (by omega) hE hF hkx hrec (wq_rem (wq_div j10 7) 6) S h)
set_option maxHeartbeats 40000000 in
set_option maxRecDepth 100000 in
theorem tb_L_law_119 {p : Program} {l : Launch} {e : Env} {s : State} {m : MethodId} {args : Array Value} {below : List Frame} {meth : Method} {c : Code} {D : va_G} {Ar : Nat → ClassId} {b : Nat} {Q : State → Prop} (F : wq_Fr p s m args meth c cL_law 17 (some .boolean) "WharfQueryLaw" D Ar) (K : wq_Kx b 570 s) (Kn : wq_Nx s) (hlt : l.stackTraces = false) {X : Nat → Int} {b0 LL : Nat} (hX : va_X b0 LL (fun j => wq_I (X j)) s s.heap) (hbl : b0 < s.heap.size) (hbA : ¬ wq_AX b 570 s.heap.size b0) {cc ss c9 s9 : Nat} (hC : cc + 74 ≤ c9) (hD : ss + 444 ≤ s9) (hE : c9 ≤ room_1.cells) (hF : s9 ≤ room_1.slots) {r0 : Int} {S0 : wq_St} {c3 : Int} {kx : Int → wq_St → Option (Int × wq_St)} (hkx : ∀ (u6 : Int) (S : wq_St), kx u6 S = some (r0, S0) → wq_Z p l e room_1 s m args below meth c D (wq_EL Ar b) b 570 17 (wq_AX b 570 s.heap.size) Q c9 s9 971 [none, none, none, none, none, none, some (.int (wq_I u6)), none, none, none, none, none, none, none, none, none, none] [] S) {rec : Int → Int → wq_St → Option (Int × wq_St)} (hrec : ∀ (y6 : Int) (y7 : Int) (S : wq_St), rec y6 y7 S = some (r0, S0) → wq_Z p l e room_1 s m args below meth c D (wq_EL Ar b) b 570 17 (wq_AX b 570 s.heap.size) Q c9 s9 119 [some (.ref b0), some (.ref (b + 0)), some (.ref (b + 284)), some (.int (wq_I c3)), some (.ref (b + 568)), some (.ref (b + 569)), some (.int (wq_I y6)), some (.int (wq_I y7)), none, none, none, none, none, none, none, none, none] [] S) (y6 : Int) (y7 : Int) (S : wq_St) (h : b_L_law_119 X LL c3 kx rec y6 y7 S = some (r0, S0)) : wq_Z p l e room_1 s m args below meth c D (wq_EL Ar b) b 570 17 (wq_AX b 570 s.heap.size) Q cc ss 119 [some (.ref b0), some (.ref (b + 0)), some (.ref (b + 284)), some (.int (wq_I c3)), some (.ref (b + 568)), some (.ref (b + 569)), some (.int (wq_I y6)), some (.int (wq_I y7)), none, none, none, none, none, none, none, none, none] [] S := by
  unfold b_L_law_119 at h
  refine wq_iload F dL_law_119 rfl rfl ?_
  refine wq_bipush (n := 120) F dL_law_121 (by decide) rfl ?_
  refine wq_icmp_ge (tgt := 971) F dL_law_123 (by decide) rfl (fun hc => ?_) (fun hc => ?_)
  · replace h := wq_ift hc h
    exact wq_wid (k := c9) (n := s9) (by omega) (by omega) <| wq_lsub [none, none, none, none, none, none, some (.int (wq_I y6)), none, none, none, none, none, none, none, none, none, none] (by simp [wq_sub]) (hkx y6 S h)
  · replace h := wq_iff hc h
    refine wq_iload F dL_law_126 rfl rfl ?_
    refine wq_if_eq (tgt := 971) F dL_law_128 (by decide) rfl (fun hc => ?_) (fun hc => ?_)
    · replace h := wq_ift hc h
      exact wq_wid (k := c9) (n := s9) (by omega) (by omega) <| wq_lsub [none, none, none, none, none, none, some (.int (wq_I y6)), none, none, none, none, none, none, none, none, none, none] (by simp [wq_sub]) (hkx y6 S h)
    · replace h := wq_iff hc h
      refine wq_aload_n F dL_law_131 rfl rfl rfl ?_
      refine wq_iload F dL_law_132 rfl rfl ?_
      refine wq_bipush (n := 60) F dL_law_134 (by decide) rfl ?_
      obtain ⟨hg, h⟩ := wq_gd_some h
      refine wq_irem (hy := hg) F dL_law_136 rfl ?_
      obtain ⟨r16, S17, h1r16, h⟩ := wq_bd_some h
      refine wq_callD F hX hbl hbA lk_L_150 (ct_L_drawn h1r16) ⟨(Nat.le_of_ble_eq_true rfl), (Nat.le_of_ble_eq_true rfl)⟩ ⟨by show cc + 0 ≤ room_1.cells; omega, by show ss + 0 ≤ room_1.slots; omega⟩ rfl (Nat.le_of_ble_eq_true rfl) dL_law_137 rfl ?_
      refine wq_iconst (n := 1) F dL_law_140 rfl ?_
      refine wq_iload F dL_law_141 rfl rfl ?_
      refine wq_bipush (n := 60) F dL_law_143 (by decide) rfl ?_
      obtain ⟨hg, h⟩ := wq_gd_some h
      refine wq_idiv (hy := hg) F dL_law_145 rfl ?_
      refine wq_iadd F dL_law_146 rfl ?_
      obtain ⟨hg, h⟩ := wq_gd_some h
      refine wq_idiv (hy := hg) F dL_law_147 rfl ?_
      refine wq_bipush (n := 7) F dL_law_148 (by decide) rfl ?_
      refine wq_iload F dL_law_150 rfl rfl ?_
      refine wq_bipush (n := 60) F dL_law_152 (by decide) rfl ?_
      obtain ⟨hg, h⟩ := wq_gd_some h
      refine wq_idiv (hy := hg) F dL_law_154 rfl ?_
      refine wq_imul F dL_law_155 rfl ?_
      refine wq_iadd F dL_law_156 rfl ?_
      obtain ⟨a19, ea19, h⟩ := wq_lt_some h
      refine wq_namI ea19 ?_
      refine wq_istore (L' := [some (.ref b0), some (.ref (b + 0)), some (.ref (b + 284)), some (.int (wq_I c3)), some (.ref (b + 568)), some (.ref (b + 569)), some (.int (wq_I y6)), some (.int (wq_I y7)), some (.int (wq_I a19)), none, none, none, none, none, none, none, none]) F dL_law_157 (by decide) rfl rfl rfl ?_
      refine wq_iload F dL_law_159 rfl rfl ?_
      refine wq_bipush (n := 40) F dL_law_161 (by decide) rfl ?_
      obtain ⟨hg, h⟩ := wq_gd_some h
      refine wq_irem (hy := hg) F dL_law_163 rfl ?_
      refine wq_istore (L' := [some (.ref b0), some (.ref (b + 0)), some (.ref (b + 284)), some (.int (wq_I c3)), some (.ref (b + 568)), some (.ref (b + 569)), some (.int (wq_I y6)), some (.int (wq_I y7)), some (.int (wq_I a19)), some (.int (wq_I (wq_rem a19 40))), none, none, none, none, none, none, none]) F dL_law_164 (by decide) rfl rfl rfl ?_
      refine wq_iload F dL_law_166 rfl rfl ?_
      refine wq_bipush (n := 40) F dL_law_168 (by decide) rfl ?_
      obtain ⟨hg, h⟩ := wq_gd_some h
      refine wq_idiv (hy := hg) F dL_law_170 rfl ?_
      refine wq_istore (L' := [some (.ref b0), some (.ref (b + 0)), some (.ref (b + 284)), some (.int (wq_I c3)), some (.ref (b + 568)), some (.ref (b + 569)), some (.int (wq_I y6)), some (.int (wq_I y7)), some (.int (wq_I a19)), some (.int (wq_I (wq_rem a19 40))), some (.int (wq_I (wq_div a19 40))), none, none, none, none, none, none]) F dL_law_171 (by decide) rfl rfl rfl ?_
      refine wq_iload F dL_law_173 rfl rfl ?_
      refine wq_iconst (n := 3) F dL_law_175 rfl ?_
      obtain ⟨hg, h⟩ := wq_gd_some h
      refine wq_irem (hy := hg) F dL_law_176 rfl ?_
      refine wq_istore (L' := [some (.ref b0), some (.ref (b + 0)), some (.ref (b + 284)), some (.int (wq_I c3)), some (.ref (b + 568)), some (.ref (b + 569)), some (.int (wq_I y6)), some (.int (wq_I y7)), some (.int (wq_I a19)), some (.int (wq_I (wq_rem a19 40))), some (.int (wq_I (wq_div a19 40))), some (.int (wq_I (wq_rem (wq_div a19 40) 3))), none, none, none, none, none]) F dL_law_177 (by decide) rfl rfl rfl ?_
      refine wq_iload F dL_law_179 rfl rfl ?_
      refine wq_iconst (n := 3) F dL_law_181 rfl ?_
      obtain ⟨hg, h⟩ := wq_gd_some h
      refine wq_idiv (hy := hg) F dL_law_182 rfl ?_
      refine wq_iconst (n := 3) F dL_law_183 rfl ?_
      obtain ⟨hg, h⟩ := wq_gd_some h
      refine wq_irem (hy := hg) F dL_law_184 rfl ?_
      obtain ⟨a20, ea20, h⟩ := wq_lt_some h
      refine wq_namI ea20 ?_
      refine wq_istore (L' := [some (.ref b0), some (.ref (b + 0)), some (.ref (b + 284)), some (.int (wq_I c3)), some (.ref (b + 568)), some (.ref (b + 569)), some (.int (wq_I y6)), some (.int (wq_I y7)), some (.int (wq_I a19)), some (.int (wq_I (wq_rem a19 40))), some (.int (wq_I (wq_div a19 40))), some (.int (wq_I (wq_rem (wq_div a19 40) 3))), some (.int (wq_I a20)), none, none, none, none]) F dL_law_185 (by decide) rfl rfl rfl ?_
      refine wq_aload F dL_law_187 rfl rfl ?_
      refine wq_iconst (n := 0) F dL_law_189 rfl ?_
      obtain ⟨t21, ht21, wt21, h⟩ := wq_ix_some h
      refine wq_iald F (Nat.le_of_ble_eq_true rfl) wq_EL_cnt ht21 wt21 dL_law_190 rfl ?_
      refine wq_if_ne (tgt := 198) F dL_law_191 (by decide) rfl (fun hc => ?_) (fun hc => ?_)
      · replace h := wq_iff hc h
        refine wq_iload F dL_law_198 rfl rfl ?_
        refine wq_bipush (n := 9) F dL_law_200 (by decide) rfl ?_
        obtain ⟨hg, h⟩ := wq_gd_some h
        refine wq_idiv (hy := hg) F dL_law_202 rfl ?_
        refine wq_aload F dL_law_203 rfl rfl ?_
        refine wq_iconst (n := 0) F dL_law_205 rfl ?_
        obtain ⟨t22, ht22, wt22, h⟩ := wq_ix_some h
        refine wq_iald F (Nat.le_of_ble_eq_true rfl) wq_EL_cnt ht22 wt22 dL_law_206 rfl ?_
        obtain ⟨hg, h⟩ := wq_gd_some h
        refine wq_irem (hy := hg) F dL_law_207 rfl ?_
        exact wq_wid (k := cc + 0) (n := ss + 0) (by omega) (by omega) <| wq_lsub [some (.ref b0), some (.ref (b + 0)), some (.ref (b + 284)), some (.int (wq_I c3)), some (.ref (b + 568)), some (.ref (b + 569)), none, some (.int (wq_I y7)), some (.int (wq_I a19)), some (.int (wq_I (wq_rem a19 40))), some (.int (wq_I (wq_div a19 40))), some (.int (wq_I (wq_rem (wq_div a19 40) 3))), some (.int (wq_I a20)), none, none, none, none] (by simp [wq_sub]) (tj_L_law_208 (cc := cc + 0) (ss := ss + 0) (c9 := c9) (s9 := s9) F K Kn hlt hX hbl hbA (by omega) (by omega) hE hF hkx hrec (wq_rem (wq_div (wq_div a19 40) 9) (S 569 t22)) S h)
      · replace h := wq_ift hc h
        refine wq_iconst (n := 0) F dL_law_194 rfl ?_
        refine wq_goto (tgt := 208) F dL_law_195 (by decide) ?_
        exact wq_wid (k := cc + 0) (n := ss + 0) (by omega) (by omega) <| wq_lsub [some (.ref b0), some (.ref (b + 0)), some (.ref (b + 284)), some (.int (wq_I c3)), some (.ref (b + 568)), some (.ref (b + 569)), none, some (.int (wq_I y7)), some (.int (wq_I a19)), some (.int (wq_I (wq_rem a19 40))), some (.int (wq_I (wq_div a19 40))), some (.int (wq_I (wq_rem (wq_div a19 40) 3))), some (.int (wq_I a20)), none, none, none, none] (by simp [wq_sub]) (tj_L_law_208 (cc := cc + 0) (ss := ss + 0) (c9 := c9) (s9 := s9) F K Kn hlt hX hbl hbA (by omega) (by omega) hE hF hkx hrec 0 S h)
set_option maxHeartbeats 40000000 in
set_option maxRecDepth 100000 in
theorem tl_L_law_119 {p : Program} {l : Launch} {e : Env} {s : State} {m : MethodId} {args : Array Value} {below : List Frame} {meth : Method} {c : Code} {D : va_G} {Ar : Nat → ClassId} {b : Nat} {Q : State → Prop} (F : wq_Fr p s m args meth c cL_law 17 (some .boolean) "WharfQueryLaw" D Ar) (K : wq_Kx b 570 s) (Kn : wq_Nx s) (hlt : l.stackTraces = false) {X : Nat → Int} {b0 LL : Nat} (hX : va_X b0 LL (fun j => wq_I (X j)) s s.heap) (hbl : b0 < s.heap.size) (hbA : ¬ wq_AX b 570 s.heap.size b0) {cE sE : Nat} (hE : cE ≤ room_1.cells) (hF : sE ≤ room_1.slots) (hM : 8954 ≤ cE) (hN : 53724 ≤ sE) {r0 : Int} {S0 : wq_St} {c3 : Int} {kx : Int → wq_St → Option (Int × wq_St)} (hkx : ∀ (u6 : Int) (S : wq_St), kx u6 S = some (r0, S0) → wq_Z p l e room_1 s m args below meth c D (wq_EL Ar b) b 570 17 (wq_AX b 570 s.heap.size) Q cE sE 971 [none, none, none, none, none, none, some (.int (wq_I u6)), none, none, none, none, none, none, none, none, none, none] [] S) : ∀ (n : Nat), n ≤ 121 → ∀ (y6 : Int) (y7 : Int) (S : wq_St), l_L_law_119 X LL c3 kx n y6 y7 S = some (r0, S0) → wq_Z p l e room_1 s m args below meth c D (wq_EL Ar b) b 570 17 (wq_AX b 570 s.heap.size) Q (cE - 74 * n) (sE - 444 * n) 119 [some (.ref b0), some (.ref (b + 0)), some (.ref (b + 284)), some (.int (wq_I c3)), some (.ref (b + 568)), some (.ref (b + 569)), some (.int (wq_I y6)), some (.int (wq_I y7)), none, none, none, none, none, none, none, none, none] [] S
  | 0, _, y6, y7, S, h => absurd ((l_L_law_119_0 X LL c3 kx y6 y7 S).symm.trans h) (by simp)
  | n + 1, hn, y6, y7, S, h => tb_L_law_119 (cc := cE - 74 * (n + 1)) (ss := sE - 444 * (n + 1)) (c9 := cE - 74 * n) (s9 := sE - 444 * n) F K Kn hlt hX hbl hbA (by omega) (by omega) (by omega) (by omega) (fun u6 S9 h9 => wq_wid (by omega) (by omega) (hkx u6 S9 h9)) (fun y6 y7 S9 h9 => tl_L_law_119 F K Kn hlt hX hbl hbA hE hF hM hN hkx n (by omega) y6 y7 S9 h9) y6 y7 S ((l_L_law_119_s X LL c3 kx n y6 y7 S).symm.trans h)
set_option maxHeartbeats 40000000 in
set_option maxRecDepth 100000 in
theorem tg_L_law {p : Program} {l : Launch} {e : Env} {s : State} {m : MethodId} {args : Array Value} {below : List Frame} {meth : Method} {c : Code} {D : va_G} {Ar : Nat → ClassId} {b : Nat} {Q : State → Prop} (F : wq_Fr p s m args meth c cL_law 17 (some .boolean) "WharfQueryLaw" D Ar) (K : wq_Kx b 570 s) (Kn : wq_Nx s) (hlt : l.stackTraces = false) {X : Nat → Int} {b0 LL : Nat} (hX : va_X b0 LL (fun j => wq_I (X j)) s s.heap) (hbl : b0 < s.heap.size) (hbA : ¬ wq_AX b 570 s.heap.size b0) {cc ss c9 s9 : Nat} (hC : cc + 8970 ≤ c9) (hD : ss + 53820 ≤ s9) (hE : c9 ≤ room_1.cells) (hF : s9 ≤ room_1.slots) {r0 : Int} {S0 : wq_St} {kx : Int → wq_St → Option (Int × wq_St)} (hkx : ∀ (u6 : Int) (S : wq_St), kx u6 S = some (r0, S0) → wq_Z p l e room_1 s m args below meth c D (wq_EL Ar b) b 570 17 (wq_AX b 570 s.heap.size) Q c9 s9 971 [none, none, none, none, none, none, some (.int (wq_I u6)), none, none, none, none, none, none, none, none, none, none] [] S) (c3 y6 y7 : Int) (S : wq_St) (h : f_L_law X LL kx c3 y6 y7 S = some (r0, S0)) : wq_Z p l e room_1 s m args below meth c D (wq_EL Ar b) b 570 17 (wq_AX b 570 s.heap.size) Q cc ss 44 [some (.ref b0), some (.ref (b + 0)), some (.ref (b + 284)), some (.int (wq_I c3)), some (.ref (b + 568)), some (.ref (b + 569)), some (.int (wq_I y6)), some (.int (wq_I y7)), none, none, none, none, none, none, none, none, none] [] S := by
  unfold f_L_law at h
  refine wq_wid (k := cc + 0 + 16 - 4 * 4) (n := ss + 0 + 96 - 24 * 4) (by omega) (by omega) <| wq_lsub [some (.ref b0), some (.ref (b + 0)), some (.ref (b + 284)), some (.int (wq_I c3)), some (.ref (b + 568)), some (.ref (b + 569)), some (.int (wq_I y6)), some (.int (wq_I y7)), none, none, none, none, none, none, none, none, none] (by simp [wq_sub]) (tl_L_law_44 (cE := cc + 0 + 16) (sE := ss + 0 + 96) F K Kn hlt hX hbl hbA (by omega) (by omega) (by omega) (by omega) (fun u14 S15 h => ?_) 4 (Nat.le_refl _) y6 y7 S h)
  refine wq_iconst (n := 1) F dL_law_116 rfl ?_
  refine wq_istore (L' := [some (.ref b0), some (.ref (b + 0)), some (.ref (b + 284)), some (.int (wq_I c3)), some (.ref (b + 568)), some (.ref (b + 569)), some (.int (wq_I u14)), some (.int (wq_I 1)), none, none, none, none, none, none, none, none, none]) F dL_law_117 (by decide) rfl rfl rfl ?_
  refine wq_wid (k := cc + 16 + 8954 - 74 * 121) (n := ss + 96 + 53724 - 444 * 121) (by omega) (by omega) <| wq_lsub [some (.ref b0), some (.ref (b + 0)), some (.ref (b + 284)), some (.int (wq_I c3)), some (.ref (b + 568)), some (.ref (b + 569)), some (.int (wq_I u14)), some (.int (wq_I 1)), none, none, none, none, none, none, none, none, none] (by simp [wq_sub]) (tl_L_law_119 (cE := cc + 16 + 8954) (sE := ss + 96 + 53724) F K Kn hlt hX hbl hbA (by omega) (by omega) (by omega) (by omega) (fun u109 S110 h => ?_) 121 (Nat.le_refl _) u14 1 S15 h)
  exact wq_wid (k := c9) (n := s9) (by omega) (by omega) <| wq_lsub [none, none, none, none, none, none, some (.int (wq_I u109)), none, none, none, none, none, none, none, none, none, none] (by simp [wq_sub]) (hkx u109 S110 h)
