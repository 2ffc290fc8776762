def R_law : String := "WharfQueryLaw"
def lw_P (b : Addr) (xs : List Int32) (args : Array Value) (s : State) : Prop := args = #[.ref b] ∧ s.IntsAt b xs ∧ xs.length ≤ 3072 ∧ (Jvm.Cond.and given_1 narrow_1).before args s = true
def lw_Q (_ : Array Value) (s : State) (o : Outcome) (t : State) : Prop := o = .returned (some (.int 1)) ∧ Framed s o t [] room_1.cells room_1.slots
def lw_Z (below : List Frame) (a : Array Value) (s : State) : State → Prop := fun t => ∃ o, t.status = .running ∧ Ended t below o ∧ lw_Q a s o t
/-- the law's own end, with 1 on the stack, nothing written that was there before, its room as the claim has it -/
theorem lw_ret {p : Program} {l : Launch} {e : Env} {s : State} {m : MethodId} {below : List Frame} {meth : Method} {c : Code} {b : Nat} (hx : p.tables.exec = Jvm.exec) (hb : c.code = code) (hr : meth.sig.returnType = ret) (hlocks : meth.locks = false) {pc : Nat} {H : Heap} {ls : Array Slot} (hdg : decode code pc = .ok (.ireturn, 1)) : W p l e room_1 s m #[Value.ref b] below meth c H [] room_1.cells room_1.slots (lw_Z below #[Value.ref b] s) (F0 m pc ls [.int 1]) := by
  intro T hT X
  obtain ⟨fs, hret, hrun, hended, hW, hframe⟩ := X.leave (v := some (.int 1)) (hlocks := hlocks) (fun h => by rw [hr] at h; cases h)
  have hmeth' : T.vm.method? m = some meth := X.method'
  refine ⟨T.setFrames fs, ?_, .returned (some (.int 1)), hrun, hended, rfl, ⟨_, rfl⟩, hW, hframe⟩
  jvm_step X.here [X.here.top, hx, hb, hdg, hmeth', hr, ret, narrow_b1]
  (try refine ⟨rfl, ?_⟩); (try refine ⟨rfl, ?_⟩)
  first | (intro acts; rw [hret _ acts rfl rfl rfl]) | rw [hret _ _ rfl rfl rfl]
  exact Steps.refl _
/-- what holds at the law's entry: the machine, the code, the tables' words (any of lw_tbl by 'hts w (by decide +kernel)'), the script of L ints xs at the cell b, what the Statement gives of the start (any of its parts by flat_of_before) -/
def lw_At (p : Program) (s : State) (m : MethodId) (meth : Method) (c : Code) (b L : Nat) (xs : Nat → Int32) : Prop :=
  p.tables.exec = Jvm.exec ∧ c.code = code ∧ meth.sig.returnType = ret ∧ c.maxLocals = 7 ∧ s.vm.findClass R_law = some m.cls ∧ (∀ w ∈ lw_tbl, w.before #[Value.ref b] s = true) ∧ va_X b L xs s s.heap ∧ b < s.heap.size ∧ meth.locks = false ∧ (Jvm.Cond.and given_1 narrow_1).before #[Value.ref b] s = true
/-! THE LAW FROM ITS ENTRY, over the picture of its loop -/
theorem wq_inT {P : Cond → Prop} {ws : List Cond} (is : List Nat) (h : ws.map some = is.map (fun i => lw_tbl[i]?)) (hP : ∀ w ∈ lw_tbl, P w) : ∀ w ∈ ws, P w := by
  intro w hw
  have h1 : some w ∈ ws.map some := List.mem_map.mpr ⟨w, hw, rfl⟩
  rw [h] at h1
  obtain ⟨i, -, hi⟩ := List.mem_map.mp h1
  exact hP w (List.mem_of_getElem? hi)
theorem wq_mapT {ws : List Cond} (is : List Nat) (h : ws.map some = is.map (fun i => lw_tbl[i]?)) : ∀ w ∈ ws, w ∈ lw_tbl := wq_inT is h (fun _ h => h)
theorem wq_nwT : ∀ w ∈ wq_nw, w ∈ lw_tbl := wq_mapT [439, 507, 535, 441, 443, 445] (by decide +kernel)
theorem wq_cwT : ∀ w ∈ wq_cw, w ∈ lw_tbl := wq_mapT [83, 126, 206, 306, 115, 122, 124, 197, 204] (by decide +kernel)
theorem wq_nw_st {args : Array Value} {s : State} (hts : ∀ w ∈ lw_tbl, w.before args s = true) : ∀ w ∈ wq_nw, va_Nw w s := by
  intro w hw
  refine va_Nw.of ?_ (hts w (wq_nwT w hw))
  unfold wq_nw at hw
  simp only [List.mem_cons, List.not_mem_nil, or_false] at hw
  rcases hw with rfl | rfl | rfl | rfl | rfl | rfl <;> rfl
theorem wq_cw_st {args : Array Value} {s : State} (hts : ∀ w ∈ lw_tbl, w.before args s = true) : ∀ w ∈ wq_cw, va_Nw w s := by
  intro w hw
  have h1 := hts w (wq_cwT w hw)
  have ao : ∀ ty : FieldType, (Cond.arrayOver ty).before args s = true → va_Nw (.arrayOver ty) s := fun ty h => h
  unfold wq_cw at hw
  simp only [List.mem_cons, List.not_mem_nil, or_false] at hw
  rcases hw with rfl | rfl | rfl | rfl | rfl | rfl | rfl | rfl | rfl
  · exact va_Nw.of rfl h1
  · exact va_Nw.of rfl h1
  · exact va_Nw.of rfl h1
  · exact va_Nw.of rfl h1
  · exact ao _ h1
  · exact ao _ h1
  · exact ao _ h1
  · exact ao _ h1
  · exact ao _ h1
theorem wq_msgT : ∀ w ∈ wq_msgs.map (fun q => Cond.stringRef "WharfQuery" q.1 q.2), w ∈ lw_tbl := wq_mapT [478, 514, 542, 553, 554, 569, 584, 609, 678, 679, 691, 692, 704, 705, 706, 710, 722, 734, 766, 923, 924] (by decide +kernel)
theorem wq_exaT : (wq_msgs.map (fun q => Cond.exactly (.string "WharfQuery" q.1) "java/lang/String")).all (fun w => decide (w ∈ flatC (Jvm.Cond.and given_1 narrow_1))) = true := by decide +kernel
theorem wq_msg_st {args : Array Value} {s : State} (hts : ∀ w ∈ lw_tbl, w.before args s = true) (hs : ∀ w ∈ flatC (Jvm.Cond.and given_1 narrow_1), w.before args s = true) : ∀ q ∈ wq_msgs, ∃ a, vk_R "WharfQuery" q.1 q.2 a s := by
  intro q hq
  have h1 := hts _ (wq_msgT _ (List.mem_map.mpr ⟨q, hq, rfl⟩))
  have h2 := List.all_eq_true.mp wq_exaT _ (List.mem_map.mpr ⟨q, hq, rfl⟩)
  have h3 := hs _ (by simpa using h2)
  obtain ⟨a, c, cell, k, h4, -⟩ := Cond.exactly_spec h3
  exact ⟨a, vk_R.of h1 h4⟩
theorem wq_arrs {args : Array Value} {s : State} (hts : ∀ w ∈ lw_tbl, w.before args s = true) : ∃ Ar : Nat → ClassId, ∀ (k : Nat) (q : ClassId × FieldType), (wq_tys Ar)[k]? = some q → ArrOfT s q.1 q.2 ∧ va_RA s q.1 q.2 := by
  have pr : ∀ ty : FieldType, (∀ C, ty ≠ .object C) → Cond.arrayClass ty ∈ lw_tbl → ∃ c : ClassId, ArrOfT s c ty ∧ va_RA s c ty := by
    intro ty ho hw
    obtain ⟨c, k, comp, h1, h2, h3⟩ := Cond.arrayClass_spec (hts _ hw)
    refine ⟨c, fun N z => ⟨(fun q hq => by cases hq), k, h2, comp, h3⟩, ?_⟩
    cases ty <;> first | exact h1 | exact absurd rfl (ho _)
  have ob : ∀ C : String, Cond.arrayOver (.object C) ∈ lw_tbl → ∃ c : ClassId, ArrOfT s c (.object C) ∧ va_RA s c (.object C) := by
    intro C hw
    obtain ⟨comp, c, k, h1, h2, h3, h4, h5⟩ := Cond.arrayOver_spec (hts _ hw)
    exact ⟨c, fun N z => ⟨(fun q hq => by cases hq), k, h3, comp, h4⟩, ⟨k, comp, h3, h4, h1, h5⟩⟩
  obtain ⟨c0, h0⟩ := pr .int (fun _ h => by cases h) (List.mem_of_getElem? (i := 110) (by decide +kernel))
  obtain ⟨c1, h1⟩ := pr .boolean (fun _ h => by cases h) (List.mem_of_getElem? (i := 150) (by decide +kernel))
  obtain ⟨c2, h2⟩ : ∃ c : ClassId, ArrOfT s c (.array .int) ∧ va_RA s c (.array .int) := by
    obtain ⟨comp, c, k, g1, g2, g3, g4⟩ := Cond.arrayOver_specA (hts _ (wq_cwT (.arrayOver (.array .int)) (List.mem_of_getElem? (i := 6) rfl)))
    exact ⟨c, fun N z => ⟨(fun q hq => by cases hq), k, g2, comp, g3⟩, g4⟩
  obtain ⟨c3, h3⟩ := ob "WharfQuery$Column" (wq_cwT _ (List.mem_of_getElem? (i := 5) rfl))
  obtain ⟨c4, h4⟩ := ob "WharfQuery$Condition" (wq_cwT _ (List.mem_of_getElem? (i := 8) rfl))
  obtain ⟨c5, h5⟩ := ob "WharfQuery$Report" (wq_cwT _ (List.mem_of_getElem? (i := 7) rfl))
  obtain ⟨c6, h6⟩ := ob "WharfQuery$Table" (wq_cwT _ (List.mem_of_getElem? (i := 4) rfl))
  obtain ⟨c7, h7⟩ := pr .long (fun _ h => by cases h) (List.mem_of_getElem? (i := 1411) (by decide +kernel))
  refine ⟨fun k => [c0, c1, c2, c3, c4, c5, c6, c7].getD k 0, fun k q hq => ?_⟩
  match k, hq with
  | 0, hq => cases hq; exact h0
  | 1, hq => cases hq; exact h1
  | 2, hq => cases hq; exact h2
  | 3, hq => cases hq; exact h3
  | 4, hq => cases hq; exact h4
  | 5, hq => cases hq; exact h5
  | 6, hq => cases hq; exact h6
  | 7, hq => cases hq; exact h7
  | k + 8, hq => simp [wq_tys] at hq
theorem wq_clss {args : Array Value} {s : State} (hts : ∀ w ∈ lw_tbl, w.before args s = true) : ∃ D : va_G, ∀ (k : Nat) (q : vw_C), vwCl[k]? = some q → u_Kn s q.1 q.2.1 q.2.2 (D.1 k) (D.2 k) := by
  obtain ⟨c0, iS0, hKn0⟩ := u_known (C := RX0) (T := TX0) (N := 4) (n := 4) hts (fun w h => wq_aw_in w (wq_iX0 w h)) (hts _ (wq_aw_in _ aw_125))
  obtain ⟨c1, iS1, hKn1⟩ := u_known (C := RX1) (T := TX1) (N := 6) (n := 6) hts (fun w h => wq_aw_in w (wq_iX1 w h)) (hts _ (wq_aw_in _ aw_205))
  obtain ⟨c2, iS2, hKn2⟩ := u_known (C := RX2) (T := TX2) (N := 10) (n := 10) hts (fun w h => wq_aw_in w (wq_iX2 w h)) (hts _ (wq_aw_in _ aw_346))
  obtain ⟨c3, iS3, hKn3⟩ := u_known (C := RX3) (T := TX3) (N := 4) (n := 4) hts (fun w h => wq_aw_in w (wq_iX3 w h)) (hts _ (wq_aw_in _ aw_82))
  obtain ⟨c4, iS4, hKn4⟩ := u_known (C := RX4) (T := TX4) (N := 3) (n := 3) hts (fun w h => wq_aw_in w (wq_iX4 w h)) (hts _ (wq_aw_in _ aw_300))
  obtain ⟨c5, iS5, hKn5⟩ := u_known (C := RX5) (T := TX5) (N := 11) (n := 11) hts (fun w h => wq_aw_in w (wq_iX5 w h)) (hts _ (wq_aw_in _ aw_198))
  obtain ⟨c6, iS6, hKn6⟩ := u_known (C := RX6) (T := TX6) (N := 5) (n := 5) hts (fun w h => wq_aw_in w (wq_iX6 w h)) (hts _ (wq_aw_in _ aw_318))
  obtain ⟨c7, iS7, hKn7⟩ := u_known (C := RX7) (T := TX7) (N := 9) (n := 9) hts (fun w h => wq_aw_in w (wq_iX7 w h)) (hts _ (wq_aw_in _ aw_116))
  obtain ⟨c8, iS8, hKn8⟩ := u_known (C := RX8) (T := TX8) (N := 8) (n := 8) hts (fun w h => wq_aw_in w (wq_iX8 w h)) (hts _ (wq_aw_in _ aw_74))
  obtain ⟨c9, iS9, hKn9⟩ := u_known (C := RX9) (T := TX9) (N := 43) (n := 43) hts (fun w h => wq_aw_in w (wq_iX9 w h)) (hts _ (wq_aw_in _ aw_976))
  refine ⟨(fun k => [c0, c1, c2, c3, c4, c5, c6, c7, c8, c9].getD k 0, fun k => [iS0, iS1, iS2, iS3, iS4, iS5, iS6, iS7, iS8, iS9].getD k (fun _ => 0)), ?_⟩
  intro k q hq
  match k, hq with
  | 0, hq => cases hq; exact hKn0
  | 1, hq => cases hq; exact hKn1
  | 2, hq => cases hq; exact hKn2
  | 3, hq => cases hq; exact hKn3
  | 4, hq => cases hq; exact hKn4
  | 5, hq => cases hq; exact hKn5
  | 6, hq => cases hq; exact hKn6
  | 7, hq => cases hq; exact hKn7
  | 8, hq => cases hq; exact hKn8
  | 9, hq => cases hq; exact hKn9
  | k + 10, hq => simp [vwCl] at hq
/-- what the room has at least, whatever the run measured -/
theorem wq_roomb : 500000 ≤ room_1.cells ∧ 5000000 ≤ room_1.slots := ⟨Nat.le_of_ble_eq_true rfl, Nat.le_of_ble_eq_true rfl⟩

set_option maxHeartbeats 40000000 in
set_option maxRecDepth 100000 in
theorem wq_loopT {p : Program} {l : Launch} {e : Env} {s : State} {m : MethodId} {args : Array Value} {below : List Frame} {meth : Method} {c : Code} {D : va_G} {Ar : Nat → ClassId} {b : Nat} {Q : State → Prop} (F : wq_Fr p s m args meth c cL_law 7 ret "WharfQueryLaw" D Ar) (K : wq_Kx b 317 s) (Kn : wq_Nx s) (hlt : l.stackTraces = false) {X : Nat → Int} {b0 LL : Nat} (hX : va_X b0 LL (fun j => wq_I (X j)) s s.heap) (hbl : b0 < s.heap.size) (hbA : ¬ wq_AX b 317 s.heap.size b0) {S0 : wq_St} {kx : wq_St → Option (Int × wq_St)} (hkx : ∀ (S : wq_St), kx S = some (1, S0) → wq_Z p l e room_1 s m args below meth c D (wq_EL Ar b) b 317 7 (wq_AX b 317 s.heap.size) Q room_1.cells room_1.slots 2462 [none, none, none, none, none, none, none] [] S) : ∀ (n : Nat), n ≤ 600 → ∀ (y4 : Int) (S : wq_St), l_L_law X LL kx n y4 S = some (1, S0) → wq_Z p l e room_1 s m args below meth c D (wq_EL Ar b) b 317 7 (wq_AX b 317 s.heap.size) Q (room_1.cells - 10 * n) (room_1.slots - 60 * n) 23 [some (.ref b0), some (.ref (b + 0)), some (.ref (b + 284)), some (.ref (b + 316)), some (.int (wq_I y4)), none, none] [] S
  | 0, _, y4, S, h => by cases h
  | n + 1, hn, y4, S, h => by
    have hrb := wq_roomb
    refine tb_L_law F K Kn hlt hX hbl hbA (cc := room_1.cells - 10 * (n + 1)) (ss := room_1.slots - 60 * (n + 1)) (by omega) (by omega) (fun S9 h9 => wq_wid (by omega) (by omega) (hkx S9 h9)) (fun y S9 h9 => ?_) y4 S h
    have ih := wq_loopT F K Kn hlt hX hbl hbA hkx n (by omega) y S9 h9
    exact wq_wid (by omega) (by omega) ih
def wq_blankM : List Value := [.null, .null, .null, .null, .null, .int (wq_I 0), .null, .null, .null, .null, .null, .int (wq_I 0), .null, .null, .null, .null, .null, .null, .null, .null, .null, .null, .null, .null, .null, .null, .null, .null, .int (wq_I 0), .int (wq_I 0), .int (wq_I 0), .int (wq_I 0), .int (wq_I 0), .null, .null, .null, .null, .long (wq_J 0), .null, .int (wq_I 0), .int (wq_I 0), .int (wq_I 0), .int (wq_I 0)]
set_option maxRecDepth 100000 in
theorem wq_blankM_ok : ∀ j, j < 43 → defaultValue (tyX9 j) = vp_V wq_blankM j := by
  intro j hj
  rcases (show j = 0 ∨ j = 1 ∨ j = 2 ∨ j = 3 ∨ j = 4 ∨ j = 5 ∨ j = 6 ∨ j = 7 ∨ j = 8 ∨ j = 9 ∨ j = 10 ∨ j = 11 ∨ j = 12 ∨ j = 13 ∨ j = 14 ∨ j = 15 ∨ j = 16 ∨ j = 17 ∨ j = 18 ∨ j = 19 ∨ j = 20 ∨ j = 21 ∨ j = 22 ∨ j = 23 ∨ j = 24 ∨ j = 25 ∨ j = 26 ∨ j = 27 ∨ j = 28 ∨ j = 29 ∨ j = 30 ∨ j = 31 ∨ j = 32 ∨ j = 33 ∨ j = 34 ∨ j = 35 ∨ j = 36 ∨ j = 37 ∨ j = 38 ∨ j = 39 ∨ j = 40 ∨ j = 41 ∨ j = 42 by omega) with rfl | rfl | rfl | rfl | rfl | rfl | rfl | rfl | rfl | rfl | rfl | rfl | rfl | rfl | rfl | rfl | rfl | rfl | rfl | rfl | rfl | rfl | rfl | rfl | rfl | rfl | rfl | rfl | rfl | rfl | rfl | rfl | rfl | rfl | rfl | rfl | rfl | rfl | rfl | rfl | rfl | rfl | rfl <;> rfl
set_option maxHeartbeats 40000000 in
set_option maxRecDepth 100000 in
theorem wq_startL {p : Program} {e : Env} {s : State} {m : MethodId} {below : List Frame} {meth : Method} {c : Code} (l : Launch) (hflags : l.flags = flags0) {b0 L : Nat} {xs : Nat → Int32} (C0 : lw_At p s m meth c b0 L xs) (hpure : ∃ S0 : wq_St, l_L_law (fun j => (xs j).toInt) L (fun S => some (1, S)) 600 0 wq_SL0 = some (1, S0)) : W p l e room_1 s m #[Value.ref b0] below meth c s.heap [] 0 0 (lw_Z below #[Value.ref b0] s) (entryFrame m ([Value.ref b0] : List Value).toArray 7) := by
  obtain ⟨hx, hb, hr, hml, hown, hts, hX, hbl, hlocks, hgv⟩ := C0
  obtain ⟨S0, hpure⟩ := hpure
  obtain ⟨Ar, hAr⟩ := wq_arrs hts
  obtain ⟨D, hD⟩ := wq_clss hts
  have hs := flat_of_before _ hgv
  have hlt : l.stackTraces = false := by
    unfold Launch.stackTraces
    rw [hflags]
    decide +kernel
  have F : wq_Fr p s m #[Value.ref b0] meth c cL_law 7 ret "WharfQueryLaw" D Ar := ⟨hx, hb, hml, hown, fun w h => hts w (wq_aw_in w h), ⟨hD, hAr⟩, hr, hlocks⟩
  obtain ⟨b, hbe⟩ : ∃ b, b = s.heap.size := ⟨_, rfl⟩
  have Kc := wq_cw_st hts
  have K : wq_Kx b 317 s := by
    refine ⟨wq_nw_st hts, wq_msg_st hts hs, ?_, ?_⟩
    · exact vx_Zqof (args := #[Value.ref b0]) (hts _ (List.mem_of_getElem? (i := 464) (by decide +kernel))) (hts _ (wq_aw_in _ aw_66)) (hs _ (by decide +kernel)) (fun a ha h => by have := h.1; omega)
    · exact vx_Zqof (args := #[Value.ref b0]) (hts _ (List.mem_of_getElem? (i := 466) (by decide +kernel))) (hts _ (wq_aw_in _ aw_66)) (hs _ (by decide +kernel)) (fun a ha h => by have := h.1; omega)
  have Kn : wq_Nx s := ⟨va_Nc.of (args := #[Value.ref b0]) (hs _ (by decide +kernel)), va_Nc.of (args := #[Value.ref b0]) (hs _ (by decide +kernel)), va_Nc.of (args := #[Value.ref b0]) (hs _ (by decide +kernel))⟩
  have hXI : va_X b0 L (fun j => wq_I (xs j).toInt) s s.heap := by
    obtain ⟨scr, g1, g2, g3, g4, g5⟩ := hX
    exact ⟨scr, g1, g2, g3, g4, fun j hj => by rw [g5 j hj]; show some (Value.int (xs j)) = some (Value.int (wq_I (xs j).toInt)); rw [wq_I_of]⟩
  have hbA : ¬ wq_AX b 317 s.heap.size b0 := fun h => by
    rcases h with h | h
    · have := h.1
      omega
    · omega
  have hexit : ∀ (S : wq_St), (fun S => some ((1 : Int), S)) S = some (1, S0) → wq_Z p l e room_1 s m #[Value.ref b0] below meth c D (wq_EL Ar b) b 317 7 (wq_AX b 317 s.heap.size) (lw_Z below #[Value.ref b0] s) room_1.cells room_1.slots 2462 [none, none, none, none, none, none, none] [] S := by
    intro S _
    refine wq_iconst (n := 1) F dL_law_2462 rfl ?_
    intro H locs ls hW hS hl
    refine va_forget (fun q hq => ?_) ?_
    · have := hS.2.2 q hq
      rcases this with h | h
      · have := h.1
        omega
      · exact h
    · exact lw_ret hx hb hr hlocks dL_law_2463
  have hloop := wq_loopT F K Kn hlt hXI hbl hbA hexit 600 (Nat.le_refl _) 0 wq_SL0 hpure
  have hA : ∀ q, wq_Ai b q → wq_Ai b q := fun _ h => h
  rw [lg_entry_eq]
  have hY : wq_Y p l e room_1 s m #[Value.ref b0] below meth c D b 7 (wq_Ai b) (lw_Z below #[Value.ref b0] s) 0 0 0 [some (.ref b0), none, none, none, none, none, none] [] [] := by
    refine wy_new (nn := 0) (ci := 8) (cs' := [.inr (8, [.null, .null, .null, .null, .null, .null, .int (wq_I 0), .int (wq_I 0)])]) F wq_iX8 tyX8 tyX8_ok aw_73 aw_74 aw_56 rfl [.null, .null, .null, .null, .null, .null, .int (wq_I 0), .int (wq_I 0)] (fun j hj => by rcases (show j = 0 ∨ j = 1 ∨ j = 2 ∨ j = 3 ∨ j = 4 ∨ j = 5 ∨ j = 6 ∨ j = 7 by omega) with rfl | rfl | rfl | rfl | rfl | rfl | rfl | rfl <;> rfl) rfl (Nat.le_add_right _ _) (Nat.le_of_ble_eq_true rfl) (Nat.le_of_ble_eq_true rfl) rfl dL_law_0 rfl ?_
    refine wy_dup F rfl dL_law_3 rfl ?_
    refine wy_callI F Kc (a := b + 0) (csa := [.inr (8, [.null, .null, .null, .null, .null, .null, .int (wq_I 0), .int (wq_I 0)])]) (csa' := wq_c_X8_init Ar (b + 0)) (As := []) (pre := []) (cs' := wq_c_X8_init Ar b) (mc := 283) (ms := 1584) (n := 5) (np := 0) ⟨aw_75, aw_56, aw_77, by decide +kernel⟩ aw_76 rfl (ci_X8_init (b + 0)) rfl rfl (fun q9 h9 => Nat.le_trans (Nat.le_add_right _ _) h9) ⟨(Nat.le_of_ble_eq_true rfl), (Nat.le_of_ble_eq_true rfl)⟩ ⟨(Nat.le_of_ble_eq_true rfl), (Nat.le_of_ble_eq_true rfl)⟩ rfl (Nat.le_of_ble_eq_true rfl) rfl rfl dL_law_4 rfl ?_
    refine wy_astore_n (L' := [some (.ref b0), some (.ref (b + 0)), none, none, none, none, none]) F dL_law_7 rfl (by decide) rfl rfl rfl ?_
    refine wy_new (nn := 284) (ci := 9) (cs' := wq_c_X8_init Ar b ++ [.inr (9, wq_blankM)]) F wq_iX9 tyX9 tyX9_ok aw_975 aw_976 aw_65 rfl wq_blankM wq_blankM_ok rfl (Nat.le_add_right _ _) (Nat.le_of_ble_eq_true rfl) (Nat.le_of_ble_eq_true rfl) rfl dL_law_8 rfl ?_
    refine wy_dup F rfl dL_law_11 rfl ?_
    refine wy_callI F Kc (a := b + 284) (csa := [.inr (9, wq_blankM)]) (csa' := wq_c_X9_init Ar (b + 284)) (As := []) (pre := wq_c_X8_init Ar b) (cs' := wq_c_X8_init Ar b ++ wq_c_X9_init Ar (b + 284)) (mc := 31) (ms := 1103) (n := 2) (np := 0) ⟨aw_977, aw_65, aw_979, by decide +kernel⟩ aw_978 rfl (ci_X9_init (b + 284)) rfl rfl (fun q9 h9 => Nat.le_trans (Nat.le_add_right _ _) h9) ⟨(Nat.le_of_ble_eq_true rfl), (Nat.le_of_ble_eq_true rfl)⟩ ⟨(Nat.le_of_ble_eq_true rfl), (Nat.le_of_ble_eq_true rfl)⟩ rfl (Nat.le_of_ble_eq_true rfl) rfl rfl dL_law_12 rfl ?_
    refine wy_astore_n (L' := [some (.ref b0), some (.ref (b + 0)), some (.ref (b + 284)), none, none, none, none]) F dL_law_15 rfl (by decide) rfl rfl rfl ?_
    refine wy_iconst (n := 1) F dL_law_16 rfl ?_
    refine wy_newa_l (N' := 1) (nn := 316) (cs' := wq_c_X8_init Ar b ++ (wq_c_X9_init Ar (b + 284) ++ [.inl (Ar 7, 1, .inr (.inl fun _ => wq_J 0))])) F aw_1411 rfl (Nat.le_of_ble_eq_true rfl) rfl (Nat.le_of_ble_eq_true rfl) (Nat.le_of_ble_eq_true rfl) (List.append_assoc _ _ _) dL_law_17 rfl ?_
    refine wy_astore_n (L' := [some (.ref b0), some (.ref (b + 0)), some (.ref (b + 284)), some (.ref (b + 316)), none, none, none]) F dL_law_19 rfl (by decide) rfl rfl rfl ?_
    refine wy_iconst (n := 0) F dL_law_20 rfl ?_
    refine wy_istore (L' := [some (.ref b0), some (.ref (b + 0)), some (.ref (b + 284)), some (.ref (b + 316)), some (.int (wq_I 0)), none, none]) F dL_law_21 (by decide) rfl rfl rfl ?_
    intro H locs ls hW hS hl
    have hrb := wq_roomb
    refine W.widen (k := room_1.cells - 10 * 600) (n := room_1.slots - 60 * 600) (by omega) (by omega) ?_
    exact hloop H locs ls (wq_first hW) ⟨hS.1, fun q h1 h2 => hS.2.1 q h1 (fun h3 => h2 (Or.inr (by have h4 : b ≤ q := h3; omega))), fun q hq => Or.inr (by have h4 : b ≤ q.base := hS.2.2 q hq; omega)⟩ hl
  exact hY s.heap [] _ ⟨by rw [hbe]; rfl, fun k x hk => by simp at hk⟩ va_S.rf (wq_entry [.ref b0] (Nat.le_of_ble_eq_true rfl))
