/-! CONTRACTS of methods that return or throw -/
def wq_nw : List Cond := [.castable "java/lang/IllegalArgumentException" "java/lang/IllegalArgumentException", .castable "java/lang/IllegalStateException" "java/lang/IllegalStateException", .castable "java/lang/IndexOutOfBoundsException" "java/lang/IndexOutOfBoundsException", .declares ⟨"java/lang/RuntimeException", "<init>", "(Ljava/lang/String;)V"⟩, .declares ⟨"java/lang/Exception", "<init>", "(Ljava/lang/String;)V"⟩, .declares ⟨"java/lang/Throwable", "<init>", "(Ljava/lang/String;)V"⟩]
def wq_msgs : List (Nat × String) := [(288, "no such table"), (90, "value not as told"), (95, "no more rows"), (65, "columns out of range"), (76, "no more tables"), (155, "penalty out of range"), (160, "no more reports"), (307, "step out of range"), (252, "reserve out of range"), (257, "no more nights"), (295, "no such report"), (208, "no condition"), (299, "no such row"), (172, "no more sources"), (297, "no such column"), (301, "no such source"), (203, "a join needs two sources"), (305, "no more conditions"), (182, "kind out of range"), (184, "value out of range"), (303, "no such step")]
def wq_ex (k : Nat) : String := match k with
  | 1 => "java/lang/IndexOutOfBoundsException"
  | 2 => "java/lang/IllegalArgumentException"
  | _ => "java/lang/IllegalStateException"
theorem wq_nw_warm {s U : State} (hW : s.WarmedH U.vm) (h : ∀ w ∈ wq_nw, va_Nw w s) : ∀ w ∈ wq_nw, va_Nw w U := by
  intro w hw
  have h1 := h w hw
  unfold wq_nw at hw
  simp only [List.mem_cons, List.not_mem_nil, or_false] at hw
  rcases hw with rfl | rfl | rfl | rfl | rfl | rfl
  · exact va_Nw.warmC hW h1
  · exact va_Nw.warmC hW h1
  · exact va_Nw.warmC hW h1
  · exact va_Nw.warmD hW h1
  · exact va_Nw.warmD hW h1
  · exact va_Nw.warmD hW h1
theorem wq_nw_same {s U : State} (hv : s.vm = U.vm) (h : ∀ w ∈ wq_nw, va_Nw w s) : ∀ w ∈ wq_nw, va_Nw w U := by
  intro w hw
  refine va_Nw.same ?_ hv (h w hw)
  unfold wq_nw at hw
  simp only [List.mem_cons, List.not_mem_nil, or_false] at hw
  rcases hw with rfl | rfl | rfl | rfl | rfl | rfl <;> rfl
def wq_AX (b N sz : Nat) : Nat → Prop := fun q => (b ≤ q ∧ q < b + N) ∨ sz ≤ q
/-- what a throw takes from the start: words, texts, two statics -/
def wq_Kx (b N : Nat) (U : State) : Prop := (∀ w ∈ wq_nw, va_Nw w U) ∧ (∀ q ∈ wq_msgs, ∃ a, vk_R "WharfQuery" q.1 q.2 a U) ∧ vx_Zq Bundle.tN "UNASSIGNED_STACK" Bundle.steD (wq_Ab b N) U U.heap ∧ vx_Zq Bundle.tN "SUPPRESSED_SENTINEL" Bundle.listD (wq_Ab b N) U U.heap
theorem wq_Kx_same {b N : Nat} {s U : State} (hv : U.vm = s.vm) (hh : U.heap = s.heap) (h : wq_Kx b N s) : wq_Kx b N U := by
  obtain ⟨h1, h2, h3, h4⟩ := h
  have ha : s.vm.Alike U.vm := by rw [hv]; exact Vm.Alike.refl _
  refine ⟨wq_nw_same hv.symm h1, fun q hq => ?_, ?_, ?_⟩
  · obtain ⟨a, h⟩ := h2 q hq
    exact ⟨a, vk_R.same hv h⟩
  · rw [hh]; exact vx_Zq.moved ha h3
  · rw [hh]; exact vx_Zq.moved ha h4
theorem wq_Kx_at {b N : Nat} {s U : State} {locs : List Loc} (hW : s.WarmedH U.vm) (hS : va_S (wq_AX b N s.heap.size) s.heap U.heap locs) (h : wq_Kx b N s) : wq_Kx b N U := by
  obtain ⟨h1, h2, h3, h4⟩ := h
  have hk : ∀ a : Nat, a < s.heap.size → ¬ wq_Ab b N a → U.heap[a]? = s.heap[a]? := fun a ha hn => hS.2.1 a ha (fun hx => hx.elim hn (fun h => by omega))
  refine ⟨wq_nw_warm hW h1, fun q hq => ?_, ?_, ?_⟩
  · obtain ⟨a, h⟩ := h2 q hq
    exact ⟨a, vk_R.warm hW h⟩
  · exact vx_Zq.kept (vx_Zq.moved hW.alike h3) hk
  · exact vx_Zq.kept (vx_Zq.moved hW.alike h4) hk
theorem wq_Zgrow {C n d : String} {v : Value} {b N : Nat} {U : State} {H : Heap} (h : va_Z C n d v (wq_Ab b N) U H) : va_Z C n d v (wq_AX b N H.size) U H := by
  obtain ⟨cf, kf, fi, f, a, cell, h1, h2, h3, h4, h5, h6, h7, h8⟩ := h
  refine ⟨cf, kf, fi, f, a, cell, h1, h2, h3, h4, h5, h6, h7, fun hx => ?_⟩
  have := (Array.getElem?_eq_some_iff.mp h5).1
  rcases hx with hx | hx
  · exact h8 hx
  · omega
theorem wq_Zqgrow {C n d : String} {b N : Nat} {U : State} {H : Heap} (h : vx_Zq C n d (wq_Ab b N) U H) : vx_Zq C n d (wq_AX b N H.size) U H := by
  obtain ⟨h1, h2⟩ := h
  refine ⟨?_, ?_⟩
  · rcases h1 with h1 | ⟨t, h1⟩
    · exact Or.inl (wq_Zgrow h1)
    · exact Or.inr ⟨t, wq_Zgrow h1⟩
  · obtain ⟨c, k, i, f, a, cell, g1, g2, g3, g4, g5, g6, g7, g8, g9, g10⟩ := h2
    refine ⟨c, k, i, f, a, cell, g1, g2, g3, g4, g5, g6, g7, g8, g9, fun hx => ?_⟩
    have := (Array.getElem?_eq_some_iff.mp g5).1
    rcases hx with hx | hx
    · exact g10 hx
    · omega
def wq_Qx (D : va_G) (E : (Nat → Int) → Nat → va_E) (b N k : Nat) (rv : Option Value) (S' : wq_St) (sz : Nat) : Array Value → State → Outcome → State → Prop := fun _ st oc t => k = 0 ∧ oc = .returned rv ∧ wq_Wd D E b N S' t.heap ∧ va_F (wq_AX b N sz) st t
def wq_Xx (D : va_G) (E : (Nat → Int) → Nat → va_E) (b N k : Nat) (S' : wq_St) (sz : Nat) : String → State → State → Prop := fun En st t => k ≠ 0 ∧ En = wq_ex k ∧ wq_Wd D E b N S' t.heap ∧ va_F (wq_AX b N sz) st t
def wq_Px (D : va_G) (Ar : Nat → ClassId) (E : (Nat → Int) → Nat → va_E) (b N : Nat) (av : List Value) (S : wq_St) (sz : Nat) : Array Value → State → Prop := va_Pc av (fun U => U.heap.size = sz ∧ wq_Wd D E b N S U.heap ∧ va_K D vwCl (wq_tys Ar) U ∧ wq_Kx b N U)
def wq_Cx (l : Launch) (y : MethodName) (cd : Cond) (n mc ms : Nat) (D : va_G) (Ar : Nat → ClassId) (E : (Nat → Int) → Nat → va_E) (b N : Nat) (av : List Value) (S : wq_St) (k : Nat) (rv : Option Value) (S' : wq_St) : Prop :=
  ∀ sz : Nat, vx_Met l y (wq_ws cd) (wq_rm n mc ms) (wq_Px D Ar E b N av S sz) (wq_Qx D E b N k rv S' sz) (wq_Xx D E b N k S' sz) mc ms (wq_AX b N sz)
def wq_MX (below : List Frame) (D : va_G) (E : (Nat → Int) → Nat → va_E) (b N k : Nat) (rv : Option Value) (S' : wq_St) (args : Array Value) (s : State) (mc ms : Nat) : State → Prop := vx_MQ below (wq_Qx D E b N k rv S' s.heap.size) (wq_Xx D E b N k S' s.heap.size) args s mc ms (wq_AX b N s.heap.size)
theorem wq_blindx (D : va_G) (Ar : Nat → ClassId) (E : (Nat → Int) → Nat → va_E) (b N : Nat) (av : List Value) (S : wq_St) (sz : Nat) : FrameBlind (wq_Px D Ar E b N av S sz) := fun a U g mk h => ⟨h.1, h.2.1, h.2.2.1, va_K.moved (u := U) (U := U.calling g mk a) (Vm.Alike.refl U.vm) h.2.2.2.1, wq_Kx_same (s := U) (U := U.calling g mk a) rfl rfl h.2.2.2.2⟩
theorem wq_startx {l : Launch} {y : MethodName} {cc : ByteArray} {maxL n mc ms b N k : Nat} {ret : Option FieldType} {D : va_G} {Ar : Nat → ClassId} {E : (Nat → Int) → Nat → va_E} {av : List Value} {S S' : wq_St} {rv : Option Value} (own : String) (L0 : List (Option Value)) (hy : plainName y.cls = true) (hcls : y.cls = own) (hlen : (lg_sl av).length ≤ maxL) (hL0 : wq_args maxL av = L0)
    (body : ∀ p e s m args below meth c, wq_Fr p s m args meth c cc maxL ret own D Ar → wq_Kx b N s → (∀ x ∈ c.exceptionTable.toList, False) → wq_Z p l e (wq_rm n mc ms) s m args below meth c D E b N maxL (wq_AX b N s.heap.size) (wq_MX below D E b N k rv S' args s mc ms) 0 0 0 L0 [] S) : wq_Cx l y (.code y cc maxL ret) n mc ms D Ar E b N av S k rv S' := by
  intro sz
  refine vx_ofW (cc := cc) (maxL := maxL) (ret := ret) hy rfl ?_
  intro p e s m args below meth c s₁ B hml htab hv
  obtain ⟨rfl, rfl, hW, hK, hKx⟩ := hv
  have hts := atoms_spec (ws := wq_ws (.code y cc maxL ret)) B.pre
  have F : wq_Fr p s m av.toArray meth c cc maxL ret own D Ar := ⟨B.exec, B.bytes, hml, hcls ▸ findClass_of_methodNamed B.named, fun w h => hts w (List.mem_cons_of_mem _ h), hK, B.returns, B.notSynchronized⟩
  rw [lg_entry_eq]
  exact body p e s m _ below meth c F hKx htab s.heap [] _ hW va_S.rf (hL0 ▸ wq_entry av hlen)
section WQX
variable {p : Program} {l : Launch} {e : Env} {R : Room} {s : State} {m : MethodId} {args : Array Value} {below : List Frame} {meth : Method} {c : Code} {D : va_G} {Ar : Nat → ClassId} {E : (Nat → Int) → Nat → va_E} {b N nL : Nat} {cells slots pc q : Nat} {L : List (Option Value)} {st : List Value} {S S' S9 : wq_St}
variable {cc bytes : ByteArray} {own : String} {ret rt : Option FieldType} {H : Heap} {locs : List Loc} {y : MethodName} {idx maxL np n k k9 : Nat} {As rest st0 : List Value} {rv rv9 : Option Value} {mc ms mc9 ms9 : Nat}
theorem wq_iretx {x : Int32} (F : wq_Fr p s m args meth c cc nL (some .int) own D Ar) (hk : k9 = 0) (h : rv9 = some (.int x)) (hS9 : S = S9) (hc : cells ≤ mc9) (hs : slots ≤ ms9) (d : decode cc pc = .ok (.ireturn, 1)) : wq_Z p l e R s m args below meth c D E b N nL (wq_AX b N s.heap.size) (wq_MX below D E b N k9 rv9 S9 args s mc9 ms9) cells slots pc L [.int x] S := by
  subst h
  subst hS9
  intro H locs ls hW hS hl
  exact W.widen hc hs (vx_ret (W.iret (v := x) F.1 F.2.1 F.2.2.2.2.2.2.1 (fun t ht hW9 => ⟨hk, rfl, by rw [ht]; exact hW, hS.F ht⟩) hS.2.2 d F.2.2.2.2.2.2.2))
theorem wq_zretx {x : Int} (F : wq_Fr p s m args meth c cc nL (some .boolean) own D Ar) (hx : x = 0 ∨ x = 1) (hk : k9 = 0) (h : rv9 = some (.int (wq_I x))) (hS9 : S = S9) (hc : cells ≤ mc9) (hs : slots ≤ ms9) (d : decode cc pc = .ok (.ireturn, 1)) : wq_Z p l e R s m args below meth c D E b N nL (wq_AX b N s.heap.size) (wq_MX below D E b N k9 rv9 S9 args s mc9 ms9) cells slots pc L [.int (wq_I x)] S := by
  subst h
  subst hS9
  intro H locs ls hW hS hl
  exact W.widen hc hs (vx_ret (W.zret (v := wq_I x) (ty := .boolean) F.1 F.2.1 F.2.2.2.2.2.2.1 (by rcases hx with h | h <;> rw [h] <;> decide) (fun t ht hW9 => ⟨hk, rfl, by rw [ht]; exact hW, hS.F ht⟩) hS.2.2 d F.2.2.2.2.2.2.2))
theorem wq_aretx {rt9 : FieldType} {x : Nat} (F : wq_Fr p s m args meth c cc nL (some rt9) own D Ar) (hrt : (∃ n, rt9 = .object n) ∨ ∃ t, rt9 = .array t) (hk : k9 = 0) (h : rv9 = some (.ref x)) (hS9 : S = S9) (hc : cells ≤ mc9) (hs : slots ≤ ms9) (d : decode cc pc = .ok (.areturn, 1)) : wq_Z p l e R s m args below meth c D E b N nL (wq_AX b N s.heap.size) (wq_MX below D E b N k9 rv9 S9 args s mc9 ms9) cells slots pc L [.ref x] S := by
  subst h
  subst hS9
  intro H locs ls hW hS hl
  exact W.widen hc hs (vx_ret (W.aret (v := .ref x) F.1 F.2.1 F.2.2.2.2.2.2.1 hrt (Or.inr ⟨x, rfl⟩) (fun t ht hW9 => ⟨hk, rfl, by rw [ht]; exact hW, hS.F ht⟩) hS.2.2 d F.2.2.2.2.2.2.2))
theorem wq_vretx (F : wq_Fr p s m args meth c cc nL none own D Ar) (hk : k9 = 0) (h : rv9 = none) (hS9 : S = S9) (hc : cells ≤ mc9) (hs : slots ≤ ms9) (d : decode cc pc = .ok (.return_, 1)) : wq_Z p l e R s m args below meth c D E b N nL (wq_AX b N s.heap.size) (wq_MX below D E b N k9 rv9 S9 args s mc9 ms9) cells slots pc L [] S := by
  subst h
  subst hS9
  intro H locs ls hW hS hl
  exact W.widen hc hs (vx_ret (W.vret F.1 F.2.1 F.2.2.2.2.2.2.1 (fun t ht hW9 => ⟨hk, rfl, by rw [ht]; exact hW, hS.F ht⟩) hS.2.2 d F.2.2.2.2.2.2.2))
theorem wq_Wd_keep {S : wq_St} {H H1 : Heap} (hW : wq_Wd D E b N S H) (hk : ∀ q : Nat, q < H.size → H1[q]? = H[q]?) : wq_Wd D E b N S H1 := fun k h => (hW k h).kept (hk _ (hW k h).lt)
theorem wq_throw (F : wq_Fr p s m args meth c cc nL ret own D Ar) (K : wq_Kx b N s) (htab : ∀ x ∈ c.exceptionTable.toList, False) (hl : l.stackTraces = false) {ik is ic : Nat} {cls text : String} {names : List String} (hown : own = "WharfQuery") (hcls : Bundle.fit cls = true) (hnames : ∀ n ∈ names, Bundle.fit n = true) (hlink : Cond.classLink own ik cls ∈ wq_aw) (hini : Cond.initialized cls ∈ wq_aw) (hmsg : (is, text) ∈ wq_msgs) (hat1 : ∀ w ∈ (vx_atS own ic cls names).filter goodWord, w ∈ wq_aw) (hat2 : ∀ w ∈ (vx_atS own ic cls names).filter (fun w => !goodWord w), w ∈ wq_nw) (hgood : (Cond.classLink own ik cls :: Cond.initialized cls :: vx_atS own ic cls names).all vx_ot = true)
    (hRf : names.length + 3 < R.frames) (hRl : (st.map fun v => v.category).sum + (13 * (names.length + 1) + 43) ≤ R.locals) (hRc : cells + 1 ≤ R.cells) (hRs : slots + 6 ≤ R.slots) (hc : cells + 1 ≤ mc9) (hs : slots + 6 ≤ ms9) (hk : k9 ≠ 0) (hex : wq_ex k9 = cls) (hS9 : S = S9)
    (d0 : decode cc pc = .ok (.new ik, 3)) (d3 : decode cc (pc + 3) = .ok (.dup, 1)) (d4 : decode cc (pc + 4) = .ok (.ldc is, 2)) (d6 : decode cc (pc + 6) = .ok (.invokespecial ic, 3)) (d9 : decode cc (pc + 9) = .ok (.athrow, 1)) : wq_Z p l e R s m args below meth c D E b N nL (wq_AX b N s.heap.size) (wq_MX below D E b N k9 rv9 S9 args s mc9 ms9) cells slots pc L st S := by
  subst hS9
  intro H locs ls hW hS hl9
  have hts := F.2.2.2.2.1
  obtain ⟨h1, h2, h3, h4⟩ := K
  obtain ⟨sa, hsa⟩ := h2 _ hmsg
  refine vx_throwS (sa := sa) (text := text) (names := names) (cls := cls) (A := wq_AX b N s.heap.size) F.1 F.2.1 hl F.2.2.2.1 hcls hnames (hts _ hlink) (hts _ hini) (by rw [hown]; exact hsa) (vx_hat (fun w h => hts _ (hat1 w h)) hat2 (fun w h => va_Nw.use (by
    unfold wq_nw at h
    simp only [List.mem_cons, List.not_mem_nil, or_false] at h
    rcases h with rfl | rfl | rfl | rfl | rfl | rfl <;> rfl) (h1 w h))) (fun w h => List.all_eq_true.mp hgood w h) (wq_Zqgrow h3) (wq_Zqgrow h4) hS (hl9.1.trans F.2.2.1.symm) d0 d3 d4 d6 d9 (fun x hx => (htab x hx).elim) hRf hRl hRc hRs F.2.2.2.2.2.2.2 (fun t ha hz hq => ?_) hS.2.2 hc hs
  refine ⟨hk, hex.symm, wq_Wd_keep hW hq, Nat.le_trans hS.1 hz, fun q h5 h6 => ?_⟩
  rw [hq q (Nat.lt_of_lt_of_le h5 hS.1)]
  exact hS.2.1 q h5 h6
theorem wq_throww (F : wq_Fr p s m args meth c cc nL ret own D Ar) (K : wq_Kx b N s) (htab : ∀ x ∈ c.exceptionTable.toList, False) (hl : l.stackTraces = false) {ik is ic : Nat} {cls text : String} {names : List String} (hown : own = "WharfQuery") (hcls : Bundle.fit cls = true) (hnames : ∀ n ∈ names, Bundle.fit n = true) (hlink : Cond.classLink own ik cls ∈ wq_aw) (hini : Cond.initialized cls ∈ wq_aw) (hmsg : (is, text) ∈ wq_msgs) (hat1 : ∀ w ∈ (vx_atS own ic cls names).filter goodWord, w ∈ wq_aw) (hat2 : ∀ w ∈ (vx_atS own ic cls names).filter (fun w => !goodWord w), w ∈ wq_nw) (hgood : (Cond.classLink own ik cls :: Cond.initialized cls :: vx_atS own ic cls names).all vx_ot = true)
    (hRf : names.length + 3 < R.frames) (hRl : (st.map fun v => v.category).sum + (13 * (names.length + 1) + 43) ≤ R.locals) (hRc : cells + 1 ≤ R.cells) (hRs : slots + 6 ≤ R.slots) (hc : cells + 1 ≤ mc9) (hs : slots + 6 ≤ ms9) (hk : k9 ≠ 0) (hex : wq_ex k9 = cls) (hS9 : S = S9)
    (d0 : decode cc pc = .ok (.new ik, 3)) (d3 : decode cc (pc + 3) = .ok (.dup, 1)) (d4 : decode cc (pc + 4) = .ok (.ldc_w is, 3)) (d6 : decode cc (pc + 7) = .ok (.invokespecial ic, 3)) (d9 : decode cc (pc + 10) = .ok (.athrow, 1)) : wq_Z p l e R s m args below meth c D E b N nL (wq_AX b N s.heap.size) (wq_MX below D E b N k9 rv9 S9 args s mc9 ms9) cells slots pc L st S := by
  subst hS9
  intro H locs ls hW hS hl9
  have hts := F.2.2.2.2.1
  obtain ⟨h1, h2, h3, h4⟩ := K
  obtain ⟨sa, hsa⟩ := h2 _ hmsg
  refine vx_throwSW (sa := sa) (text := text) (names := names) (cls := cls) (A := wq_AX b N s.heap.size) F.1 F.2.1 hl F.2.2.2.1 hcls hnames (hts _ hlink) (hts _ hini) (by rw [hown]; exact hsa) (vx_hat (fun w h => hts _ (hat1 w h)) hat2 (fun w h => va_Nw.use (by
    unfold wq_nw at h
    simp only [List.mem_cons, List.not_mem_nil, or_false] at h
    rcases h with rfl | rfl | rfl | rfl | rfl | rfl <;> rfl) (h1 w h))) (fun w h => List.all_eq_true.mp hgood w h) (wq_Zqgrow h3) (wq_Zqgrow h4) hS (hl9.1.trans F.2.2.1.symm) d0 d3 d4 d6 d9 (fun x hx => (htab x hx).elim) hRf hRl hRc hRs F.2.2.2.2.2.2.2 (fun t ha hz hq => ?_) hS.2.2 hc hs
  refine ⟨hk, hex.symm, wq_Wd_keep hW hq, Nat.le_trans hS.1 hz, fun q h5 h6 => ?_⟩
  rw [hq q (Nat.lt_of_lt_of_le h5 hS.1)]
  exact hS.2.1 q h5 h6
theorem wq_AXle {sz sz' : Nat} (h : sz ≤ sz') : ∀ q, wq_AX b N sz' q → wq_AX b N sz q := fun q hq => hq.elim Or.inl (fun h2 => Or.inr (Nat.le_trans h h2))
theorem wq_AbX {sz : Nat} : ∀ q, wq_Ab b N q → wq_AX b N sz q := fun _ h => Or.inl h
theorem wq_gox {ls : Array Slot} {Q : State → Prop} (hr : vx_Run p l e R s m args below meth c H locs cells slots mc ms (F0 m pc ls st0) rest (wq_Qx D E b N k rv S' H.size As.toArray) (wq_Xx D E b N k S' H.size) (wq_AX b N H.size)) (hS : va_S (wq_AX b N s.heap.size) s.heap H locs)
    (kn : k = 0 → ∀ (H1 : Heap) (locs1 : List Loc), wq_Wd D E b N S' H1 → va_S (wq_AX b N s.heap.size) s.heap H1 locs1 → W p l e R s m args below meth c H1 locs1 (cells + mc) (slots + ms) Q (F0 m (pc + 3) ls (rv.toList ++ rest)))
    (kt : k ≠ 0 → ∀ (H1 : Heap) (locs1 : List Loc) (q9 : Addr) (ce : Cell), wq_Wd D E b N S' H1 → va_S (wq_AX b N s.heap.size) s.heap H1 locs1 → H1[q9]? = some ce → ce.vm = .none → s.vm.findClass (wq_ex k) = some ce.cls → vx_W p l e R s m args below meth c H1 locs1 (cells + mc) (slots + ms) Q (F0 m pc ls rest) q9) : W p l e R s m args below meth c H locs cells slots Q (F0 m pc ls st0) := by
  intro T hT X
  have hA : ∀ q, wq_AX b N H.size q → wq_AX b N s.heap.size q := wq_AXle hS.1
  rcases hr T hT X with ⟨v, st₀, t, T', Lx, h0, X', hL, e1, e2, ⟨hk, hv, hW, hF⟩, st⟩ | ⟨q, st₀, t, T', Lx, En, ce, h0, X', hL, e1, e2, ⟨hk, rfl, hW, hF⟩, hce, hcv, hcl, st⟩
  · cases hv
    obtain ⟨k1, k2, k3⟩ := vx_keep h0 e1 hS (fun q _ h => hA q h) hA hL hF
    obtain ⟨t2, a1, b1⟩ := kn hk T'.heap (locs ++ Lx) (by rw [e1]; exact hW) k3 T' rfl X'
    exact ⟨t2, st t2 a1, b1⟩
  · obtain ⟨k1, k2, k3⟩ := vx_keep h0 e1 hS (fun q _ h => hA q h) hA hL hF
    obtain ⟨t2, a1, b1⟩ := kt hk T'.heap (locs ++ Lx) q ce (by rw [e1]; exact hW) k3 (by rw [e1]; exact hce) hcv hcl T' rfl X'
    exact ⟨t2, st.trans a1, b1⟩
theorem wq_callVn {Q : State → Prop} (F : wq_Fr p s m args meth c cc nL ret own D Ar) (K : wq_Kx b N s) {b9 ci nf : Nat} {T : u_T} {fs : List Value} (lk : wq_LkV own idx y bytes maxL rt np) (hM : wq_Cx l y (.code y bytes maxL rt) n mc ms D Ar E b N (.ref (b + b9) :: As) S 0 rv S') (hR : n + 1 ≤ R.frames ∧ 8 + (maxL + 11) + 40 * n ≤ R.locals) (hc0 : cells + mc ≤ R.cells ∧ slots + ms ≤ R.slots) (hk0 : b9 < N) (hE : E (S b9) b9 = .inr (ci, fs)) (hcl : vwCl[ci]? = some (y.cls, T, nf)) (hn : As.length = np) (hst : st0 = As.reverse ++ .ref (b + b9) :: rest) (hcat : (rest.map fun v => v.category).sum ≤ 8) (d : decode cc pc = .ok (.invokevirtual idx, 3)) (hq : pc + 3 = q)
    (kk : wq_Z p l e R s m args below meth c D E b N nL (wq_AX b N s.heap.size) Q (cells + mc) (slots + ms) q L (rv.toList ++ rest) S') : wq_Z p l e R s m args below meth c D E b N nL (wq_AX b N s.heap.size) Q cells slots pc L st0 S := by
  subst hq
  subst hst
  intro H locs ls hW hS hl
  have hts := F.2.2.2.2.1
  have hP : va_P D vwCl [(b + b9, .inr (ci, fs))] H := by
    intro i x hx
    match i, hx with
    | 0, hx =>
      cases hx
      have h := hW b9 hk0
      rw [hE] at h
      exact h
  exact wq_gox (vx_runV (Ts := wq_aw) (C := y.cls) (n := np) (ws := wq_ws (.code y bytes maxL rt)) (As := As) (rest := rest) ⟨F.1, F.2.1, F.2.2.1, F.2.2.2.1, hts⟩ (hM H.size) ⟨wq_callB hts lk.1 rfl rfl hR, hts _ lk.2.1, hts _ lk.2.2⟩ ⟨wq_blindx _ _ _ _ _ _ _ _, va_recv F.2.2.2.2.2.1 hP hcl (q0 := 0) rfl, fun U hU hW9 => ⟨rfl, by rw [hU], by rw [hU]; exact hW, va_K.moved hW9.alike F.2.2.2.2.2.1, wq_Kx_at (locs := locs) hW9 (by rw [hU]; exact hS) K⟩⟩ rfl hn hl.1 rfl (by show 2 * 0 + _ ≤ 8; omega) d hc0) hS (fun _ H1 locs1 hW1 hS1 => kk H1 locs1 ls hW1 hS1 hl) (fun h => absurd rfl h)
theorem wq_callVt (F : wq_Fr p s m args meth c cc nL ret own D Ar) (K : wq_Kx b N s) {b9 ci nf : Nat} {T : u_T} {fs : List Value} (lk : wq_LkV own idx y bytes maxL rt np) (hM : wq_Cx l y (.code y bytes maxL rt) n mc ms D Ar E b N (.ref (b + b9) :: As) S (k + 1) rv S') (hR : n + 1 ≤ R.frames ∧ 8 + (maxL + 11) + 40 * n ≤ R.locals) (hc0 : cells + mc ≤ R.cells ∧ slots + ms ≤ R.slots) (hk0 : b9 < N) (hE : E (S b9) b9 = .inr (ci, fs)) (hcl : vwCl[ci]? = some (y.cls, T, nf)) (hn : As.length = np) (hst : st0 = As.reverse ++ .ref (b + b9) :: rest) (hcat : (rest.map fun v => v.category).sum ≤ 8) (d : decode cc pc = .ok (.invokevirtual idx, 3)) (htab : ∀ x ∈ c.exceptionTable.toList, False) (hk9 : k9 = k + 1) (hS9 : S' = S9) (hc : cells + mc ≤ mc9) (hs : slots + ms ≤ ms9) : wq_Z p l e R s m args below meth c D E b N nL (wq_AX b N s.heap.size) (wq_MX below D E b N k9 rv9 S9 args s mc9 ms9) cells slots pc L st0 S := by
  subst hst
  subst hS9
  subst hk9
  intro H locs ls hW hS hl
  have hts := F.2.2.2.2.1
  have hP : va_P D vwCl [(b + b9, .inr (ci, fs))] H := by
    intro i x hx
    match i, hx with
    | 0, hx =>
      cases hx
      have h := hW b9 hk0
      rw [hE] at h
      exact h
  refine wq_gox (vx_runV (Ts := wq_aw) (C := y.cls) (n := np) (ws := wq_ws (.code y bytes maxL rt)) (As := As) (rest := rest) ⟨F.1, F.2.1, F.2.2.1, F.2.2.2.1, hts⟩ (hM H.size) ⟨wq_callB hts lk.1 rfl rfl hR, hts _ lk.2.1, hts _ lk.2.2⟩ ⟨wq_blindx _ _ _ _ _ _ _ _, va_recv F.2.2.2.2.2.1 hP hcl (q0 := 0) rfl, fun U hU hW9 => ⟨rfl, by rw [hU], by rw [hU]; exact hW, va_K.moved hW9.alike F.2.2.2.2.2.1, wq_Kx_at (locs := locs) hW9 (by rw [hU]; exact hS) K⟩⟩ rfl hn hl.1 rfl (by show 2 * 0 + _ ≤ 8; omega) d hc0) hS (fun h => absurd h (Nat.succ_ne_zero k)) (fun hk1 H1 locs1 q9 ce hW1 hS1 hce hcv hcl9 => ?_)
  exact vx_out (fun x hx => (htab x hx).elim) F.2.2.2.2.2.2.2 hce hcv hcl9 (fun t ht ha => ⟨hk1, rfl, by rw [ht]; exact hW1, by rw [ht]; exact hS1.1, fun q h5 h6 => by rw [ht]; exact hS1.2.1 q h5 h6⟩) hS1.2.2 hc hs
theorem wq_callSn {Q : State → Prop} (F : wq_Fr p s m args meth c cc nL ret own D Ar) (K : wq_Kx b N s) (lk : wq_LkS own idx y bytes maxL rt np) (hM : wq_Cx l y (.code y bytes maxL rt) n mc ms D Ar E b N As S 0 rv S') (hR : n + 1 ≤ R.frames ∧ 8 + (maxL + 11) + 40 * n ≤ R.locals) (hc0 : cells + mc ≤ R.cells ∧ slots + ms ≤ R.slots) (hn : As.length = np) (hst : st0 = As.reverse ++ rest) (hcat : (rest.map fun v => v.category).sum ≤ 8) (d : decode cc pc = .ok (.invokestatic idx, 3)) (hq : pc + 3 = q)
    (kk : wq_Z p l e R s m args below meth c D E b N nL (wq_AX b N s.heap.size) Q (cells + mc) (slots + ms) q L (rv.toList ++ rest) S') : wq_Z p l e R s m args below meth c D E b N nL (wq_AX b N s.heap.size) Q cells slots pc L st0 S := by
  subst hq
  subst hst
  intro H locs ls hW hS hl
  have hts := F.2.2.2.2.1
  exact wq_gox (vx_runS (Ts := wq_aw) (n := np) (ws := wq_ws (.code y bytes maxL rt)) (As := As) (rest := rest) ⟨F.1, F.2.1, F.2.2.1, F.2.2.2.1, hts⟩ (hM H.size) ⟨wq_callB hts lk.1 rfl rfl hR, hts _ lk.2⟩ ⟨wq_blindx _ _ _ _ _ _ _ _, fun U hU hW9 => ⟨rfl, by rw [hU], by rw [hU]; exact hW, va_K.moved hW9.alike F.2.2.2.2.2.1, wq_Kx_at (locs := locs) hW9 (by rw [hU]; exact hS) K⟩⟩ rfl hn hl.1 rfl (by show 2 * 0 + _ ≤ 8; omega) d hc0) hS (fun _ H1 locs1 hW1 hS1 => kk H1 locs1 ls hW1 hS1 hl) (fun h => absurd rfl h)
theorem wq_callSt (F : wq_Fr p s m args meth c cc nL ret own D Ar) (K : wq_Kx b N s) (lk : wq_LkS own idx y bytes maxL rt np) (hM : wq_Cx l y (.code y bytes maxL rt) n mc ms D Ar E b N As S (k + 1) rv S') (hR : n + 1 ≤ R.frames ∧ 8 + (maxL + 11) + 40 * n ≤ R.locals) (hc0 : cells + mc ≤ R.cells ∧ slots + ms ≤ R.slots) (hn : As.length = np) (hst : st0 = As.reverse ++ rest) (hcat : (rest.map fun v => v.category).sum ≤ 8) (d : decode cc pc = .ok (.invokestatic idx, 3)) (htab : ∀ x ∈ c.exceptionTable.toList, False) (hk9 : k9 = k + 1) (hS9 : S' = S9) (hc : cells + mc ≤ mc9) (hs : slots + ms ≤ ms9) : wq_Z p l e R s m args below meth c D E b N nL (wq_AX b N s.heap.size) (wq_MX below D E b N k9 rv9 S9 args s mc9 ms9) cells slots pc L st0 S := by
  subst hst
  subst hS9
  subst hk9
  intro H locs ls hW hS hl
  have hts := F.2.2.2.2.1
  refine wq_gox (vx_runS (Ts := wq_aw) (n := np) (ws := wq_ws (.code y bytes maxL rt)) (As := As) (rest := rest) ⟨F.1, F.2.1, F.2.2.1, F.2.2.2.1, hts⟩ (hM H.size) ⟨wq_callB hts lk.1 rfl rfl hR, hts _ lk.2⟩ ⟨wq_blindx _ _ _ _ _ _ _ _, fun U hU hW9 => ⟨rfl, by rw [hU], by rw [hU]; exact hW, va_K.moved hW9.alike F.2.2.2.2.2.1, wq_Kx_at (locs := locs) hW9 (by rw [hU]; exact hS) K⟩⟩ rfl hn hl.1 rfl (by show 2 * 0 + _ ≤ 8; omega) d hc0) hS (fun h => absurd h (Nat.succ_ne_zero k)) (fun hk1 H1 locs1 q9 ce hW1 hS1 hce hcv hcl9 => ?_)
  exact vx_out (fun x hx => (htab x hx).elim) F.2.2.2.2.2.2.2 hce hcv hcl9 (fun t ht ha => ⟨hk1, rfl, by rw [ht]; exact hW1, by rw [ht]; exact hS1.1, fun q h5 h6 => by rw [ht]; exact hS1.2.1 q h5 h6⟩) hS1.2.2 hc hs
end WQX
theorem wq_hat0_67 : (vx_atS "WharfQuery" 67 "java/lang/IllegalArgumentException" ["java/lang/RuntimeException", "java/lang/Exception"]).all (fun w => decide (w ∈ lw_tbl)) = true := by decide +kernel
theorem wq_hat1_67 : ∀ w ∈ (vx_atS "WharfQuery" 67 "java/lang/IllegalArgumentException" ["java/lang/RuntimeException", "java/lang/Exception"]).filter goodWord, w ∈ wq_aw := fun w h => List.mem_filter.mpr ⟨by
  have := List.all_eq_true.mp wq_hat0_67 w (List.mem_filter.mp h).1
  simpa using this, (List.mem_filter.mp h).2⟩
theorem wq_hat2_67 : ∀ w ∈ (vx_atS "WharfQuery" 67 "java/lang/IllegalArgumentException" ["java/lang/RuntimeException", "java/lang/Exception"]).filter (fun w => !goodWord w), w ∈ wq_nw := by
  have h : ((vx_atS "WharfQuery" 67 "java/lang/IllegalArgumentException" ["java/lang/RuntimeException", "java/lang/Exception"]).filter (fun w => !goodWord w)).all (fun w => decide (w ∈ wq_nw)) = true := by decide +kernel
  intro w hw
  simpa using List.all_eq_true.mp h w hw
theorem wq_hat0_78 : (vx_atS "WharfQuery" 78 "java/lang/IllegalStateException" ["java/lang/RuntimeException", "java/lang/Exception"]).all (fun w => decide (w ∈ lw_tbl)) = true := by decide +kernel
theorem wq_hat1_78 : ∀ w ∈ (vx_atS "WharfQuery" 78 "java/lang/IllegalStateException" ["java/lang/RuntimeException", "java/lang/Exception"]).filter goodWord, w ∈ wq_aw := fun w h => List.mem_filter.mpr ⟨by
  have := List.all_eq_true.mp wq_hat0_78 w (List.mem_filter.mp h).1
  simpa using this, (List.mem_filter.mp h).2⟩
theorem wq_hat2_78 : ∀ w ∈ (vx_atS "WharfQuery" 78 "java/lang/IllegalStateException" ["java/lang/RuntimeException", "java/lang/Exception"]).filter (fun w => !goodWord w), w ∈ wq_nw := by
  have h : ((vx_atS "WharfQuery" 78 "java/lang/IllegalStateException" ["java/lang/RuntimeException", "java/lang/Exception"]).filter (fun w => !goodWord w)).all (fun w => decide (w ∈ wq_nw)) = true := by decide +kernel
  intro w hw
  simpa using List.all_eq_true.mp h w hw
theorem wq_hat0_290 : (vx_atS "WharfQuery" 290 "java/lang/IndexOutOfBoundsException" ["java/lang/RuntimeException", "java/lang/Exception"]).all (fun w => decide (w ∈ lw_tbl)) = true := by decide +kernel
theorem wq_hat1_290 : ∀ w ∈ (vx_atS "WharfQuery" 290 "java/lang/IndexOutOfBoundsException" ["java/lang/RuntimeException", "java/lang/Exception"]).filter goodWord, w ∈ wq_aw := fun w h => List.mem_filter.mpr ⟨by
  have := List.all_eq_true.mp wq_hat0_290 w (List.mem_filter.mp h).1
  simpa using this, (List.mem_filter.mp h).2⟩
theorem wq_hat2_290 : ∀ w ∈ (vx_atS "WharfQuery" 290 "java/lang/IndexOutOfBoundsException" ["java/lang/RuntimeException", "java/lang/Exception"]).filter (fun w => !goodWord w), w ∈ wq_nw := by
  have h : ((vx_atS "WharfQuery" 290 "java/lang/IndexOutOfBoundsException" ["java/lang/RuntimeException", "java/lang/Exception"]).filter (fun w => !goodWord w)).all (fun w => decide (w ∈ wq_nw)) = true := by decide +kernel
  intro w hw
  simpa using List.all_eq_true.mp h w hw
