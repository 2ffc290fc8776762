def R_law : String := "WharfQueryLaw"
def lw_P (b : Addr) (xs : List Int32) (args : Array Value) (s : State) : Prop := args = #[.ref b] ∧ s.IntsAt b xs ∧ xs.length ≤ 260 ∧ (Jvm.Cond.and given_1 narrow_1).before args s = true
def lw_Q (_ : Array Value) (s : State) (o : Outcome) (t : State) : Prop := o = .returned (some (.int 1)) ∧ Framed s o t [] room_1.cells room_1.slots
def lw_Z (below : List Frame) (a : Array Value) (s : State) : State → Prop := fun t => ∃ o, t.status = .running ∧ Ended t below o ∧ lw_Q a s o t
/-- the law's own end, with 1 on the stack, nothing written that was there before, its room as the claim has it -/
theorem lw_ret {p : Program} {l : Launch} {e : Env} {s : State} {m : MethodId} {below : List Frame} {meth : Method} {c : Code} {b : Nat} (hx : p.tables.exec = Jvm.exec) (hb : c.code = code) (hr : meth.sig.returnType = ret) (hlocks : meth.locks = false) {pc : Nat} {H : Heap} {ls : Array Slot} (hdg : decode code pc = .ok (.ireturn, 1)) : W p l e room_1 s m #[Value.ref b] below meth c H [] room_1.cells room_1.slots (lw_Z below #[Value.ref b] s) (F0 m pc ls [.int 1]) := by
  intro T hT X
  obtain ⟨fs, hret, hrun, hended, hW, hframe⟩ := X.leave (v := some (.int 1)) (hlocks := hlocks) (fun h => by rw [hr] at h; cases h)
  have hmeth' : T.vm.method? m = some meth := X.method'
  refine ⟨T.setFrames fs, ?_, .returned (some (.int 1)), hrun, hended, rfl, ⟨_, rfl⟩, hW, hframe⟩
  jvm_step X.here [X.here.top, hx, hb, hdg, hmeth', hr, ret, narrow_b1]
  (try refine ⟨rfl, ?_⟩); (try refine ⟨rfl, ?_⟩)
  first | (intro acts; rw [hret _ acts rfl rfl rfl]) | rw [hret _ _ rfl rfl rfl]
  exact Steps.refl _
/-- what holds at the law's entry: the machine, the code, the tables' words (any of lw_tbl by 'hts w (by decide +kernel)'), the script of L ints xs at the cell b, what the Statement gives of the start (any of its parts by flat_of_before) -/
def lw_At (p : Program) (s : State) (m : MethodId) (meth : Method) (c : Code) (b L : Nat) (xs : Nat → Int32) : Prop :=
  p.tables.exec = Jvm.exec ∧ c.code = code ∧ meth.sig.returnType = ret ∧ c.maxLocals = 17 ∧ s.vm.findClass R_law = some m.cls ∧ (∀ w ∈ lw_tbl, w.before #[Value.ref b] s = true) ∧ va_X b L xs s s.heap ∧ b < s.heap.size ∧ meth.locks = false ∧ (Jvm.Cond.and given_1 narrow_1).before #[Value.ref b] s = true
/-! THE LAW FROM ITS ENTRY, over the picture of its loop -/
theorem wq_inT {P : Cond → Prop} {ws : List Cond} (is : List Nat) (h : ws.map some = is.map (fun i => lw_tbl[i]?)) (hP : ∀ w ∈ lw_tbl, P w) : ∀ w ∈ ws, P w := by
  intro w hw
  have h1 : some w ∈ ws.map some := List.mem_map.mpr ⟨w, hw, rfl⟩
  rw [h] at h1
  obtain ⟨i, -, hi⟩ := List.mem_map.mp h1
  exact hP w (List.mem_of_getElem? hi)
theorem wq_mapT {ws : List Cond} (is : List Nat) (h : ws.map some = is.map (fun i => lw_tbl[i]?)) : ∀ w ∈ ws, w ∈ lw_tbl := wq_inT is h (fun _ h => h)
theorem wq_nwT : ∀ w ∈ wq_nw, w ∈ lw_tbl := wq_mapT [468, 484, 396, 398, 400, 402] (by decide +kernel)
theorem wq_cwT : ∀ w ∈ wq_cw, w ∈ lw_tbl := wq_mapT [47, 90, 170, 270, 79, 86, 88, 161, 168] (by decide +kernel)
theorem wq_nw_st {args : Array Value} {s : State} (hts : ∀ w ∈ lw_tbl, w.before args s = true) : ∀ w ∈ wq_nw, va_Nw w s := by
  intro w hw
  refine va_Nw.of ?_ (hts w (wq_nwT w hw))
  unfold wq_nw at hw
  simp only [List.mem_cons, List.not_mem_nil, or_false] at hw
  rcases hw with rfl | rfl | rfl | rfl | rfl | rfl <;> rfl
theorem wq_cw_st {args : Array Value} {s : State} (hts : ∀ w ∈ lw_tbl, w.before args s = true) : ∀ w ∈ wq_cw, va_Nw w s := by
  intro w hw
  have h1 := hts w (wq_cwT w hw)
  have ao : ∀ ty : FieldType, (Cond.arrayOver ty).before args s = true → va_Nw (.arrayOver ty) s := fun ty h => h
  unfold wq_cw at hw
  simp only [List.mem_cons, List.not_mem_nil, or_false] at hw
  rcases hw with rfl | rfl | rfl | rfl | rfl | rfl | rfl | rfl | rfl
  · exact va_Nw.of rfl h1
  · exact va_Nw.of rfl h1
  · exact va_Nw.of rfl h1
  · exact va_Nw.of rfl h1
  · exact ao _ h1
  · exact ao _ h1
  · exact ao _ h1
  · exact ao _ h1
  · exact ao _ h1
theorem wq_msgT : ∀ w ∈ wq_msgs.map (fun q => Cond.stringRef "WharfQuery" q.1 q.2), w ∈ lw_tbl := wq_mapT [435, 475, 491, 509, 510, 515, 516, 524, 529, 530, 670, 671, 682, 692, 708, 720, 721, 725, 734, 735, 788] (by decide +kernel)
theorem wq_exaT : (wq_msgs.map (fun q => Cond.exactly (.string "WharfQuery" q.1) "java/lang/String")).all (fun w => decide (w ∈ flatC (Jvm.Cond.and given_1 narrow_1))) = true := by decide +kernel
theorem wq_msg_st {args : Array Value} {s : State} (hts : ∀ w ∈ lw_tbl, w.before args s = true) (hs : ∀ w ∈ flatC (Jvm.Cond.and given_1 narrow_1), w.before args s = true) : ∀ q ∈ wq_msgs, ∃ a, vk_R "WharfQuery" q.1 q.2 a s := by
  intro q hq
  have h1 := hts _ (wq_msgT _ (List.mem_map.mpr ⟨q, hq, rfl⟩))
  have h2 := List.all_eq_true.mp wq_exaT _ (List.mem_map.mpr ⟨q, hq, rfl⟩)
  have h3 := hs _ (by simpa using h2)
  obtain ⟨a, c, cell, k, h4, -⟩ := Cond.exactly_spec h3
  exact ⟨a, vk_R.of h1 h4⟩
theorem wq_arrs {args : Array Value} {s : State} (hts : ∀ w ∈ lw_tbl, w.before args s = true) : ∃ Ar : Nat → ClassId, ∀ (k : Nat) (q : ClassId × FieldType), (wq_tys Ar)[k]? = some q → ArrOfT s q.1 q.2 ∧ va_RA s q.1 q.2 := by
  have pr : ∀ ty : FieldType, (∀ C, ty ≠ .object C) → Cond.arrayClass ty ∈ lw_tbl → ∃ c : ClassId, ArrOfT s c ty ∧ va_RA s c ty := by
    intro ty ho hw
    obtain ⟨c, k, comp, h1, h2, h3⟩ := Cond.arrayClass_spec (hts _ hw)
    refine ⟨c, fun N z => ⟨(fun q hq => by cases hq), k, h2, comp, h3⟩, ?_⟩
    cases ty <;> first | exact h1 | exact absurd rfl (ho _)
  have ob : ∀ C : String, Cond.arrayOver (.object C) ∈ lw_tbl → ∃ c : ClassId, ArrOfT s c (.object C) ∧ va_RA s c (.object C) := by
    intro C hw
    obtain ⟨comp, c, k, h1, h2, h3, h4, h5⟩ := Cond.arrayOver_spec (hts _ hw)
    exact ⟨c, fun N z => ⟨(fun q hq => by cases hq), k, h3, comp, h4⟩, ⟨k, comp, h3, h4, h1, h5⟩⟩
  obtain ⟨c0, h0⟩ := pr .int (fun _ h => by cases h) (List.mem_of_getElem? (i := 74) (by decide +kernel))
  obtain ⟨c1, h1⟩ := pr .boolean (fun _ h => by cases h) (List.mem_of_getElem? (i := 114) (by decide +kernel))
  obtain ⟨c2, h2⟩ : ∃ c : ClassId, ArrOfT s c (.array .int) ∧ va_RA s c (.array .int) := by
    obtain ⟨comp, c, k, g1, g2, g3, g4⟩ := Cond.arrayOver_specA (hts _ (wq_cwT (.arrayOver (.array .int)) (List.mem_of_getElem? (i := 6) rfl)))
    exact ⟨c, fun N z => ⟨(fun q hq => by cases hq), k, g2, comp, g3⟩, g4⟩
  obtain ⟨c3, h3⟩ := ob "WharfQuery$Column" (wq_cwT _ (List.mem_of_getElem? (i := 5) rfl))
  obtain ⟨c4, h4⟩ := ob "WharfQuery$Condition" (wq_cwT _ (List.mem_of_getElem? (i := 8) rfl))
  obtain ⟨c5, h5⟩ := ob "WharfQuery$Report" (wq_cwT _ (List.mem_of_getElem? (i := 7) rfl))
  obtain ⟨c6, h6⟩ := ob "WharfQuery$Table" (wq_cwT _ (List.mem_of_getElem? (i := 4) rfl))
  refine ⟨fun k => [c0, c1, c2, c3, c4, c5, c6].getD k 0, fun k q hq => ?_⟩
  match k, hq with
  | 0, hq => cases hq; exact h0
  | 1, hq => cases hq; exact h1
  | 2, hq => cases hq; exact h2
  | 3, hq => cases hq; exact h3
  | 4, hq => cases hq; exact h4
  | 5, hq => cases hq; exact h5
  | 6, hq => cases hq; exact h6
  | k + 7, hq => simp [wq_tys] at hq
theorem wq_clss {args : Array Value} {s : State} (hts : ∀ w ∈ lw_tbl, w.before args s = true) : ∃ D : va_G, ∀ (k : Nat) (q : vw_C), vwCl[k]? = some q → u_Kn s q.1 q.2.1 q.2.2 (D.1 k) (D.2 k) := by
  obtain ⟨c0, iS0, hKn0⟩ := u_known (C := RX0) (T := TX0) (N := 4) (n := 4) hts (fun w h => wq_aw_in w (wq_iX0 w h)) (hts _ (wq_aw_in _ aw_89))
  obtain ⟨c1, iS1, hKn1⟩ := u_known (C := RX1) (T := TX1) (N := 6) (n := 6) hts (fun w h => wq_aw_in w (wq_iX1 w h)) (hts _ (wq_aw_in _ aw_169))
  obtain ⟨c2, iS2, hKn2⟩ := u_known (C := RX2) (T := TX2) (N := 10) (n := 10) hts (fun w h => wq_aw_in w (wq_iX2 w h)) (hts _ (wq_aw_in _ aw_310))
  obtain ⟨c3, iS3, hKn3⟩ := u_known (C := RX3) (T := TX3) (N := 4) (n := 4) hts (fun w h => wq_aw_in w (wq_iX3 w h)) (hts _ (wq_aw_in _ aw_46))
  obtain ⟨c4, iS4, hKn4⟩ := u_known (C := RX4) (T := TX4) (N := 3) (n := 3) hts (fun w h => wq_aw_in w (wq_iX4 w h)) (hts _ (wq_aw_in _ aw_264))
  obtain ⟨c5, iS5, hKn5⟩ := u_known (C := RX5) (T := TX5) (N := 11) (n := 11) hts (fun w h => wq_aw_in w (wq_iX5 w h)) (hts _ (wq_aw_in _ aw_162))
  obtain ⟨c6, iS6, hKn6⟩ := u_known (C := RX6) (T := TX6) (N := 5) (n := 5) hts (fun w h => wq_aw_in w (wq_iX6 w h)) (hts _ (wq_aw_in _ aw_282))
  obtain ⟨c7, iS7, hKn7⟩ := u_known (C := RX7) (T := TX7) (N := 9) (n := 9) hts (fun w h => wq_aw_in w (wq_iX7 w h)) (hts _ (wq_aw_in _ aw_80))
  obtain ⟨c8, iS8, hKn8⟩ := u_known (C := RX8) (T := TX8) (N := 8) (n := 8) hts (fun w h => wq_aw_in w (wq_iX8 w h)) (hts _ (wq_aw_in _ aw_38))
  refine ⟨(fun k => [c0, c1, c2, c3, c4, c5, c6, c7, c8].getD k 0, fun k => [iS0, iS1, iS2, iS3, iS4, iS5, iS6, iS7, iS8].getD k (fun _ => 0)), ?_⟩
  intro k q hq
  match k, hq with
  | 0, hq => cases hq; exact hKn0
  | 1, hq => cases hq; exact hKn1
  | 2, hq => cases hq; exact hKn2
  | 3, hq => cases hq; exact hKn3
  | 4, hq => cases hq; exact hKn4
  | 5, hq => cases hq; exact hKn5
  | 6, hq => cases hq; exact hKn6
  | 7, hq => cases hq; exact hKn7
  | 8, hq => cases hq; exact hKn8
  | k + 9, hq => simp [vwCl] at hq
/-- what the room has at least, whatever the run measured -/
theorem wq_roomb : 500000 ≤ room_1.cells ∧ 5000000 ≤ room_1.slots := ⟨Nat.le_of_ble_eq_true rfl, Nat.le_of_ble_eq_true rfl⟩

section WQS
variable {p : Program} {l : Launch} {e : Env} {R : Room} {s : State} {m : MethodId} {args : Array Value} {below : List Frame} {meth : Method} {c : Code} {D : va_G} {Ar : Nat → ClassId} {b nL : Nat} {A : Nat → Prop} {Q : State → Prop} {cells slots pc q : Nat} {L : List (Option Value)} {st st0 rest : List Value} {cs : List va_E} {cc : ByteArray} {own : String} {ret : Option FieldType} {idx : Nat}
theorem wy_iremS (F : wq_Fr p s m args meth c cc nL ret own D Ar) {x y : Int} (hy : ¬ wq_w y = 0) (d : decode cc pc = .ok (.irem, 1)) (hq : pc + 1 = q) (kk : wq_Y p l e R s m args below meth c D b nL A Q cells slots q L (.int (wq_I (wq_rem x y)) :: st) cs) : wq_Y p l e R s m args below meth c D b nL A Q cells slots pc L (.int (wq_I y) :: .int (wq_I x) :: st) cs := by
  subst hq
  intro H locs ls hW hS hl
  refine lv_irem F.1 F.2.1 d (by rw [show (0 : Int32) = wq_I 0 from rfl, wq_I_eq]; exact hy) ?_
  rw [wq_I_div, wq_I_mul, wq_I_sub]
  exact kk H locs ls hW hS hl
theorem wy_iaddS (F : wq_Fr p s m args meth c cc nL ret own D Ar) {x y : Int} (d : decode cc pc = .ok (.iadd, 1)) (hq : pc + 1 = q) (kk : wq_Y p l e R s m args below meth c D b nL A Q cells slots q L (.int (wq_I (x + y)) :: st) cs) : wq_Y p l e R s m args below meth c D b nL A Q cells slots pc L (.int (wq_I y) :: .int (wq_I x) :: st) cs := by
  subst hq
  intro H locs ls hW hS hl
  refine lv_iadd F.1 F.2.1 d ?_
  rw [wq_I_add]
  exact kk H locs ls hW hS hl
theorem wy_callD (F : wq_Fr p s m args meth c cc nL ret own D Ar) {b0 LL : Nat} {X : Nat → Int} {k9 r9 : Int} {S9 : wq_St} (hX : va_X b0 LL (fun j => wq_I (X j)) s s.heap) (hbl : b0 < s.heap.size) (hbA : ¬ A b0) (lk : wq_LkS own idx yL_drawn cL_drawn 3 (some .int) 2) (hM : wq_Cd l D Ar b0 LL X k9 r9 S9) (hR : 1 + 1 ≤ R.frames ∧ 8 + (3 + 11) + 40 * 1 ≤ R.locals) (hc0 : cells ≤ R.cells ∧ slots ≤ R.slots) (hz : s.heap.size + cells ≤ b + cs.length) (hst : st0 = .int (wq_I k9) :: .ref b0 :: rest) (hcat : (rest.map fun v => v.category).sum ≤ 8) (d : decode cc pc = .ok (.invokestatic idx, 3)) (hq : pc + 3 = q)
    (kk : wq_Y p l e R s m args below meth c D b nL A Q cells slots q L (.int (wq_I r9) :: rest) cs) : wq_Y p l e R s m args below meth c D b nL A Q cells slots pc L st0 cs := by
  subst hq
  intro H locs ls hW hS hl
  refine wq_rund F hX hbl hbA lk hM hR hc0 hst hcat d hS hl (fun H1 L1 T1 hT X1 hk hz1 hS1 => kk H1 L1 ls ⟨?_, fun k x hk2 => (hW.2 k x hk2).kept (hk _ (hW.2 k x hk2).lt)⟩ hS1 hl)
  have h1 := X1.heapSize
  rw [hT] at h1
  have h2 := hW.1
  omega
end WQS
set_option maxHeartbeats 40000000 in
set_option maxRecDepth 100000 in
theorem wq_startL {p : Program} {e : Env} {s : State} {m : MethodId} {below : List Frame} {meth : Method} {c : Code} (l : Launch) (hflags : l.flags = flags0) {b0 L : Nat} {xs : Nat → Int32} (C0 : lw_At p s m meth c b0 L xs) (hpure : ∃ (v : Int) (S1 S0 : wq_St), f_L_drawn (fun j => (xs j).toInt) L 0 wq_SL0 = some (v, S1) ∧ f_L_law (fun j => (xs j).toInt) L (fun (u : Int) (S : wq_St) => if u = 1 then some ((1 : Int), S) else none) (1 + wq_rem v 400) 1 0 wq_SL0 = some (1, S0)) : W p l e room_1 s m #[Value.ref b0] below meth c s.heap [] 0 0 (lw_Z below #[Value.ref b0] s) (entryFrame m ([Value.ref b0] : List Value).toArray 17) := by
  obtain ⟨hx, hb, hr, hml, hown, hts, hX, hbl, hlocks, hgv⟩ := C0
  obtain ⟨v, S1, S0, hdrawn, hpure⟩ := hpure
  obtain ⟨Ar, hAr⟩ := wq_arrs hts
  obtain ⟨D, hD⟩ := wq_clss hts
  have hs := flat_of_before _ hgv
  have hrb := wq_roomb
  have hlt : l.stackTraces = false := by
    unfold Launch.stackTraces
    rw [hflags]
    decide +kernel
  have F : wq_Fr p s m #[Value.ref b0] meth c cL_law 17 ret "WharfQueryLaw" D Ar := ⟨hx, hb, hml, hown, fun w h => hts w (wq_aw_in w h), ⟨hD, hAr⟩, hr, hlocks⟩
  obtain ⟨b, hbe⟩ : ∃ b, b = s.heap.size := ⟨_, rfl⟩
  have Kc := wq_cw_st hts
  have K : wq_Kx b 570 s := by
    refine ⟨wq_nw_st hts, wq_msg_st hts hs, ?_, ?_⟩
    · exact vx_Zqof (args := #[Value.ref b0]) (hts _ (List.mem_of_getElem? (i := 421) (by decide +kernel))) (hts _ (wq_aw_in _ aw_30)) (hs _ (by decide +kernel)) (fun a ha h => by have := h.1; omega)
    · exact vx_Zqof (args := #[Value.ref b0]) (hts _ (List.mem_of_getElem? (i := 423) (by decide +kernel))) (hts _ (wq_aw_in _ aw_30)) (hs _ (by decide +kernel)) (fun a ha h => by have := h.1; omega)
  have Kn : wq_Nx s := ⟨va_Nc.of (args := #[Value.ref b0]) (hs _ (by decide +kernel)), va_Nc.of (args := #[Value.ref b0]) (hs _ (by decide +kernel)), va_Nc.of (args := #[Value.ref b0]) (hs _ (by decide +kernel))⟩
  have hXI : va_X b0 L (fun j => wq_I (xs j).toInt) s s.heap := by
    obtain ⟨scr, g1, g2, g3, g4, g5⟩ := hX
    exact ⟨scr, g1, g2, g3, g4, fun j hj => by rw [g5 j hj]; show some (Value.int (xs j)) = some (Value.int (wq_I (xs j).toInt)); rw [wq_I_of]⟩
  have hbA : ¬ wq_AX b 570 s.heap.size b0 := fun h => by
    rcases h with h | h
    · have := h.1
      omega
    · omega
  have hbAi : ¬ wq_Ai b b0 := fun h => by have h4 : b ≤ b0 := h; omega
  have hexit : ∀ (u6 : Int) (S : wq_St), (fun (u : Int) (S : wq_St) => if u = 1 then some ((1 : Int), S) else none) u6 S = some (1, S0) → wq_Z p l e room_1 s m #[Value.ref b0] below meth c D (wq_EL Ar b) b 570 17 (wq_AX b 570 s.heap.size) (lw_Z below #[Value.ref b0] s) room_1.cells room_1.slots 971 [none, none, none, none, none, none, some (.int (wq_I u6)), none, none, none, none, none, none, none, none, none, none] [] S := by
    intro u6 S h
    have h1 : u6 = 1 := by
      by_cases h2 : u6 = 1
      · exact h2
      · exact absurd (h.symm.trans (if_neg h2)) (by simp)
    subst h1
    refine wq_iload F dL_law_971 rfl rfl ?_
    intro H locs ls hW hS hl
    refine va_forget (fun q hq => ?_) ?_
    · have := hS.2.2 q hq
      rcases this with h | h
      · have := h.1
        omega
      · exact h
    · exact lw_ret hx hb hr hlocks dL_law_973
  have hloop := tg_L_law (cc := 100000) (ss := 1000000) (c9 := room_1.cells) (s9 := room_1.slots) F K Kn hlt hXI hbl hbA (by omega) (by omega) (Nat.le_refl _) (Nat.le_refl _) hexit (1 + wq_rem v 400) 1 0 wq_SL0 hpure
  rw [lg_entry_eq]
  have hY : wq_Y p l e room_1 s m #[Value.ref b0] below meth c D b 17 (wq_Ai b) (lw_Z below #[Value.ref b0] s) 0 0 0 [some (.ref b0), none, none, none, none, none, none, none, none, none, none, none, none, none, none, none, none] [] [] := by
    refine wy_new (nn := 0) (ci := 8) (cs' := [.inr (8, [.null, .null, .null, .null, .null, .null, .int (wq_I 0), .int (wq_I 0)])]) F wq_iX8 tyX8 tyX8_ok aw_37 aw_38 aw_21 rfl [.null, .null, .null, .null, .null, .null, .int (wq_I 0), .int (wq_I 0)] (fun j hj => by rcases (show j = 0 ∨ j = 1 ∨ j = 2 ∨ j = 3 ∨ j = 4 ∨ j = 5 ∨ j = 6 ∨ j = 7 by omega) with rfl | rfl | rfl | rfl | rfl | rfl | rfl | rfl <;> rfl) rfl (Nat.le_add_right _ _) (Nat.le_of_ble_eq_true rfl) (Nat.le_of_ble_eq_true rfl) rfl dL_law_0 rfl ?_
    refine wy_dup F rfl dL_law_3 rfl ?_
    refine wy_callI F Kc (a := b + 0) (csa := [.inr (8, [.null, .null, .null, .null, .null, .null, .int (wq_I 0), .int (wq_I 0)])]) (csa' := wq_c_X8_init Ar (b + 0)) (As := []) (pre := []) (cs' := wq_c_X8_init Ar b) (mc := 283) (ms := 1584) (n := 5) (np := 0) ⟨aw_39, aw_21, aw_41, by decide +kernel⟩ aw_40 rfl (ci_X8_init (b + 0)) rfl rfl (fun q9 h9 => Nat.le_trans (Nat.le_add_right _ _) h9) ⟨(Nat.le_of_ble_eq_true rfl), (Nat.le_of_ble_eq_true rfl)⟩ ⟨(Nat.le_of_ble_eq_true rfl), (Nat.le_of_ble_eq_true rfl)⟩ rfl (Nat.le_of_ble_eq_true rfl) rfl rfl dL_law_4 rfl ?_
    refine wy_astore_n (L' := [some (.ref b0), some (.ref (b + 0)), none, none, none, none, none, none, none, none, none, none, none, none, none, none, none]) F dL_law_7 rfl (by decide) rfl rfl rfl ?_
    refine wy_new (nn := 284) (ci := 8) (cs' := wq_c_X8_init Ar b ++ [.inr (8, [.null, .null, .null, .null, .null, .null, .int (wq_I 0), .int (wq_I 0)])]) F wq_iX8 tyX8 tyX8_ok aw_37 aw_38 aw_21 rfl [.null, .null, .null, .null, .null, .null, .int (wq_I 0), .int (wq_I 0)] (fun j hj => by rcases (show j = 0 ∨ j = 1 ∨ j = 2 ∨ j = 3 ∨ j = 4 ∨ j = 5 ∨ j = 6 ∨ j = 7 by omega) with rfl | rfl | rfl | rfl | rfl | rfl | rfl | rfl <;> rfl) rfl (Nat.le_add_right _ _) (Nat.le_of_ble_eq_true rfl) (Nat.le_of_ble_eq_true rfl) rfl dL_law_8 rfl ?_
    refine wy_dup F rfl dL_law_11 rfl ?_
    refine wy_callI F Kc (a := b + 284) (csa := [.inr (8, [.null, .null, .null, .null, .null, .null, .int (wq_I 0), .int (wq_I 0)])]) (csa' := wq_c_X8_init Ar (b + 284)) (As := []) (pre := wq_c_X8_init Ar b) (cs' := wq_c_X8_init Ar b ++ wq_c_X8_init Ar (b + 284)) (mc := 283) (ms := 1584) (n := 5) (np := 0) ⟨aw_39, aw_21, aw_41, by decide +kernel⟩ aw_40 rfl (ci_X8_init (b + 284)) rfl rfl (fun q9 h9 => Nat.le_trans (Nat.le_add_right _ _) h9) ⟨(Nat.le_of_ble_eq_true rfl), (Nat.le_of_ble_eq_true rfl)⟩ ⟨(Nat.le_of_ble_eq_true rfl), (Nat.le_of_ble_eq_true rfl)⟩ rfl (Nat.le_of_ble_eq_true rfl) rfl rfl dL_law_12 rfl ?_
    refine wy_astore_n (L' := [some (.ref b0), some (.ref (b + 0)), some (.ref (b + 284)), none, none, none, none, none, none, none, none, none, none, none, none, none, none]) F dL_law_15 rfl (by decide) rfl rfl rfl ?_
    refine wy_iconst (n := 1) F dL_law_16 rfl ?_
    refine wy_aload_n F dL_law_17 rfl rfl rfl ?_
    refine wy_iconst (n := 0) F dL_law_18 rfl ?_
    refine wy_callD F hXI hbl hbAi lk_L_150 (ct_L_drawn hdrawn) ⟨(Nat.le_of_ble_eq_true rfl), (Nat.le_of_ble_eq_true rfl)⟩ ⟨(Nat.le_of_ble_eq_true rfl), (Nat.le_of_ble_eq_true rfl)⟩ (by rw [hbe]; exact Nat.le_refl (s.heap.size + 568)) rfl (Nat.le_of_ble_eq_true rfl) dL_law_19 rfl ?_
    refine wy_sipush (n := 400) F dL_law_22 (by decide) rfl ?_
    refine wy_iremS F (by decide) dL_law_25 rfl ?_
    refine wy_iaddS F dL_law_26 rfl ?_
    refine wy_istore_n (L' := [some (.ref b0), some (.ref (b + 0)), some (.ref (b + 284)), some (.int (wq_I (1 + wq_rem v 400))), none, none, none, none, none, none, none, none, none, none, none, none, none]) F dL_law_27 rfl (by decide) rfl rfl rfl ?_
    refine wy_iconst (n := 3) F dL_law_28 rfl ?_
    refine wy_newa_i (N' := 3) (nn := 568) (cs' := wq_c_X8_init Ar b ++ (wq_c_X8_init Ar (b + 284) ++ [.inl (Ar 0, 3, .inl fun _ => wq_I 0)])) F aw_74 rfl (Nat.le_of_ble_eq_true rfl) rfl (Nat.le_of_ble_eq_true rfl) (Nat.le_of_ble_eq_true rfl) (List.append_assoc _ _ _) dL_law_29 rfl ?_
    refine wy_astore (L' := [some (.ref b0), some (.ref (b + 0)), some (.ref (b + 284)), some (.int (wq_I (1 + wq_rem v 400))), some (.ref (b + 568)), none, none, none, none, none, none, none, none, none, none, none, none]) F dL_law_31 (by decide) rfl rfl rfl ?_
    refine wy_iconst (n := 2) F dL_law_33 rfl ?_
    refine wy_newa_i (N' := 2) (nn := 569) (cs' := wq_c_X8_init Ar b ++ (wq_c_X8_init Ar (b + 284) ++ [.inl (Ar 0, 3, .inl fun _ => wq_I 0), .inl (Ar 0, 2, .inl fun _ => wq_I 0)])) F aw_74 rfl (Nat.le_of_ble_eq_true rfl) rfl (Nat.le_of_ble_eq_true rfl) (Nat.le_of_ble_eq_true rfl) (by rw [List.append_assoc, List.append_assoc]; rfl) dL_law_34 rfl ?_
    refine wy_astore (L' := [some (.ref b0), some (.ref (b + 0)), some (.ref (b + 284)), some (.int (wq_I (1 + wq_rem v 400))), some (.ref (b + 568)), some (.ref (b + 569)), none, none, none, none, none, none, none, none, none, none, none]) F dL_law_36 (by decide) rfl rfl rfl ?_
    refine wy_iconst (n := 1) F dL_law_38 rfl ?_
    refine wy_istore (L' := [some (.ref b0), some (.ref (b + 0)), some (.ref (b + 284)), some (.int (wq_I (1 + wq_rem v 400))), some (.ref (b + 568)), some (.ref (b + 569)), some (.int (wq_I 1)), none, none, none, none, none, none, none, none, none, none]) F dL_law_39 (by decide) rfl rfl rfl ?_
    refine wy_iconst (n := 0) F dL_law_41 rfl ?_
    refine wy_istore (L' := [some (.ref b0), some (.ref (b + 0)), some (.ref (b + 284)), some (.int (wq_I (1 + wq_rem v 400))), some (.ref (b + 568)), some (.ref (b + 569)), some (.int (wq_I 1)), some (.int (wq_I 0)), none, none, none, none, none, none, none, none, none]) F dL_law_42 (by decide) rfl rfl rfl ?_
    intro H locs ls hW hS hl
    refine W.widen (k := 100000) (n := 1000000) (Nat.le_of_ble_eq_true rfl) (Nat.le_of_ble_eq_true rfl) ?_
    exact hloop H locs ls (wq_first hW) ⟨hS.1, fun q h1 h2 => hS.2.1 q h1 (fun h3 => h2 (Or.inr (by have h4 : b ≤ q := h3; omega))), fun q hq => Or.inr (by have h4 : b ≤ q.base := hS.2.2 q hq; omega)⟩ hl
  exact hY s.heap [] _ ⟨by rw [hbe]; rfl, fun k x hk => by simp at hk⟩ va_S.rf (wq_entry [.ref b0] (Nat.le_of_ble_eq_true rfl))
