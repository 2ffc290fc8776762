/-! CONSTRUCTORS: the heap from b to its end is the list cs -/
def wq_Xw (D : va_G) (b : Nat) (cs : List va_E) (H : Heap) : Prop := H.size = b + cs.length ∧ ∀ (k : Nat) (e : va_E), cs[k]? = some e → va_at D vwCl (b + k, e) H
theorem wq_Xw_push {D : va_G} {b : Nat} {cs : List va_E} {e : va_E} {H H1 : Heap} (h : wq_Xw D b cs H) (z : H1.size = H.size + 1) (o : ∀ q : Nat, q < H.size → H1[q]? = H[q]?) (he : va_at D vwCl (H.size, e) H1) : wq_Xw D b (cs ++ [e]) H1 := by
  obtain ⟨h1, h2⟩ := h
  refine ⟨by rw [z, h1, List.length_append]; rfl, fun k x hk => ?_⟩
  by_cases hl : k < cs.length
  · rw [List.getElem?_append_left hl] at hk
    exact (h2 k x hk).kept (o _ (h2 k x hk).lt)
  · rw [List.getElem?_append_right (by omega)] at hk
    have hz : k - cs.length < 1 := (List.getElem?_eq_some_iff.mp hk).1
    have e0 : k = cs.length := by omega
    subst e0
    rw [Nat.sub_self] at hk
    cases hk
    rw [h1] at he
    exact he
theorem wq_Xw_set {D : va_G} {b k : Nat} {cs : List va_E} {e e0 : va_E} {H H1 : Heap} (h : wq_Xw D b cs H) (hk : cs[k]? = some e0) (z : H1.size = H.size) (o : ∀ q : Nat, q ≠ b + k → H1[q]? = H[q]?) (he : va_at D vwCl (b + k, e) H1) : wq_Xw D b (cs.set k e) H1 := by
  obtain ⟨h1, h2⟩ := h
  have hlt := (List.getElem?_eq_some_iff.mp hk).1
  refine ⟨by rw [z, h1, List.length_set], fun i x hi => ?_⟩
  by_cases hik : i = k
  · subst hik
    rw [List.getElem?_set_self hlt] at hi
    cases hi
    exact he
  · rw [List.getElem?_set_ne (Ne.symm hik)] at hi
    exact (h2 i x hi).kept (o _ (by show b + i ≠ b + k; omega))
theorem wq_Xw_app {D : va_G} {b a : Nat} {pre cs cs' : List va_E} {H H1 : Heap} (h : wq_Xw D b (pre ++ cs) H) (ha : a = b + pre.length) (hk : ∀ q : Nat, q < H.size → q < a → H1[q]? = H[q]?) (h1 : wq_Xw D a cs' H1) : wq_Xw D b (pre ++ cs') H1 := by
  subst ha
  refine ⟨by rw [h1.1, List.length_append]; omega, fun k x hx => ?_⟩
  by_cases hl : k < pre.length
  · rw [List.getElem?_append_left hl] at hx
    have h9 := h.2 k x (by rw [List.getElem?_append_left hl]; exact hx)
    exact h9.kept (hk _ h9.lt (by show b + k < b + pre.length; omega))
  · rw [List.getElem?_append_right (by omega)] at hx
    have h9 := h1.2 _ x hx
    rw [show b + pre.length + (k - pre.length) = b + k by omega] at h9
    exact h9
theorem wq_Xw_part {D : va_G} {b a : Nat} {pre cs : List va_E} {H : Heap} (h : wq_Xw D b (pre ++ cs) H) (ha : a = b + pre.length) : wq_Xw D a cs H := by
  subst ha
  refine ⟨by rw [h.1, List.length_append]; omega, fun k x hx => ?_⟩
  have h9 := h.2 (pre.length + k) x (by rw [List.getElem?_append_right (by omega), Nat.add_sub_cancel_left]; exact hx)
  rw [← Nat.add_assoc] at h9
  exact h9
/-- the words of constructors that a walk doesn't keep by itself -/
def wq_cw : List Cond := [.methodLinkNest "WharfQuery" 11 ⟨"WharfQuery$Plan", "<init>", "()V"⟩ "WharfQuery", .methodLinkNest "WharfQuery$Table" 30 ⟨"WharfQuery$Column", "<init>", "()V"⟩ "WharfQuery", .methodLinkNest "WharfQuery$Report" 34 ⟨"WharfQuery$Condition", "<init>", "()V"⟩ "WharfQuery", .methodLinkNest "WharfQuery$Planner" 11 ⟨"WharfQuery$Plan", "<init>", "()V"⟩ "WharfQuery", .arrayOver (.object "WharfQuery$Table"), .arrayOver (.object "WharfQuery$Column"), .arrayOver (.array .int), .arrayOver (.object "WharfQuery$Report"), .arrayOver (.object "WharfQuery$Condition")]
theorem wq_cw_warm {s U : State} (hW : s.WarmedH U.vm) (h : ∀ w ∈ wq_cw, va_Nw w s) : ∀ w ∈ wq_cw, va_Nw w U := by
  intro w hw
  have h1 := h w hw
  have ao : ∀ ty : FieldType, va_Nw (.arrayOver ty) s → va_Nw (.arrayOver ty) U := fun ty h => (show (Cond.arrayOver ty).before #[] (s.setVm U.vm) = true by rw [Cond.arrayOver_setVmC hW.alike]; exact h)
  unfold wq_cw at hw
  simp only [List.mem_cons, List.not_mem_nil, or_false] at hw
  rcases hw with rfl | rfl | rfl | rfl | rfl | rfl | rfl | rfl | rfl
  · exact va_Nw.warmM hW h1
  · exact va_Nw.warmM hW h1
  · exact va_Nw.warmM hW h1
  · exact va_Nw.warmM hW h1
  · exact ao _ h1
  · exact ao _ h1
  · exact ao _ h1
  · exact ao _ h1
  · exact ao _ h1
theorem wq_cw_same {s U : State} (hv : s.vm = U.vm) (h : ∀ w ∈ wq_cw, va_Nw w s) : ∀ w ∈ wq_cw, va_Nw w U := by
  intro w hw
  have h1 := h w hw
  have ao : ∀ ty : FieldType, va_Nw (.arrayOver ty) s → va_Nw (.arrayOver ty) U := fun ty h => (show (Cond.arrayOver ty).before #[] (s.setVm U.vm) = true by rw [← hv]; exact h)
  unfold wq_cw at hw
  simp only [List.mem_cons, List.not_mem_nil, or_false] at hw
  rcases hw with rfl | rfl | rfl | rfl | rfl | rfl | rfl | rfl | rfl
  · exact va_Nw.same rfl hv h1
  · exact va_Nw.same rfl hv h1
  · exact va_Nw.same rfl hv h1
  · exact va_Nw.same rfl hv h1
  · exact ao _ h1
  · exact ao _ h1
  · exact ao _ h1
  · exact ao _ h1
  · exact ao _ h1
theorem wq_ao_use {ty : FieldType} {args : Array Value} {s : State} (h : va_Nw (.arrayOver ty) s) : (Cond.arrayOver ty).before args s = true := h
def wq_Ai (a : Nat) : Nat → Prop := fun q => a ≤ q
def wq_Pi (D : va_G) (Ar : Nat → ClassId) (a : Nat) (av : List Value) (cs : List va_E) : Array Value → State → Prop := va_Pc av (fun U => wq_Xw D a cs U.heap ∧ va_K D vwCl (wq_tys Ar) U ∧ ∀ w ∈ wq_cw, va_Nw w U)
def wq_Qi (D : va_G) (a : Nat) (rv : Option Value) (cs' : List va_E) : Array Value → State → Outcome → State → Prop := fun _ st oc t => oc = .returned rv ∧ wq_Xw D a cs' t.heap ∧ va_F (wq_Ai a) st t
def wq_Ci (l : Launch) (y : MethodName) (cd : Cond) (n mc ms : Nat) (D : va_G) (Ar : Nat → ClassId) (a : Nat) (av : List Value) (cs : List va_E) (rv : Option Value) (cs' : List va_E) : Prop :=
  Met l y (wq_ws cd) (wq_rm n mc ms) (wq_Pi D Ar a av cs) (wq_Qi D a rv cs') mc ms (wq_Ai a)
theorem wq_blindi (D : va_G) (Ar : Nat → ClassId) (a : Nat) (av : List Value) (cs : List va_E) : FrameBlind (wq_Pi D Ar a av cs) := fun a U g mk h => ⟨h.1, h.2.1, va_K.moved (u := U) (U := U.calling g mk a) (Vm.Alike.refl U.vm) h.2.2.1, wq_cw_same (s := U) (U := U.calling g mk a) rfl h.2.2.2⟩
def wq_Y (p : Program) (l : Launch) (e : Env) (R : Room) (s : State) (m : MethodId) (args : Array Value) (below : List Frame) (meth : Method) (c : Code) (D : va_G) (b nL : Nat) (A : Nat → Prop) (Q : State → Prop) (cells slots pc : Nat) (L : List (Option Value)) (st : List Value) (cs : List va_E) : Prop :=
  ∀ (H : Heap) (locs : List Loc) (ls : Array Slot), wq_Xw D b cs H → va_S A s.heap H locs → wq_has ls nL L → W p l e R s m args below meth c H locs cells slots Q (F0 m pc ls st)
theorem wq_starti {l : Launch} {y : MethodName} {cc : ByteArray} {maxL n mc ms a : Nat} {ret : Option FieldType} {D : va_G} {Ar : Nat → ClassId} {av : List Value} {cs cs' : List va_E} {rv : Option Value} (own : String) (L0 : List (Option Value)) (hy : plainName y.cls = true) (hcls : y.cls = own) (hlen : (lg_sl av).length ≤ maxL) (hL0 : wq_args maxL av = L0)
    (body : ∀ p e s m args below meth c, wq_Fr p s m args meth c cc maxL ret own D Ar → (∀ w ∈ wq_cw, va_Nw w s) → a ≤ s.heap.size → (y.name = "<init>" → meth.name = "<init>") → wq_Y p l e (wq_rm n mc ms) s m args below meth c D a maxL (wq_Ai a) (MQ below (wq_Qi D a rv cs') args s mc ms (wq_Ai a)) 0 0 0 L0 [] cs) : wq_Ci l y (.code y cc maxL ret) n mc ms D Ar a av cs rv cs' := by
  refine Met.ofW (cc := cc) (maxL := maxL) (ret := ret) hy rfl ?_
  intro p e s m args below meth c s₁ B hml hv
  obtain ⟨rfl, hX, hK, hcw⟩ := hv
  have hts := atoms_spec (ws := wq_ws (.code y cc maxL ret)) B.pre
  have F : wq_Fr p s m av.toArray meth c cc maxL ret own D Ar := ⟨B.exec, B.bytes, hml, hcls ▸ findClass_of_methodNamed B.named, fun w h => hts w (List.mem_cons_of_mem _ h), hK, B.returns, B.notSynchronized⟩
  have hin : y.name = "<init>" → meth.name = "<init>" := fun h => (name_of_methodNamed B.named B.method).1.trans h
  rw [lg_entry_eq]
  exact body p e s m _ below meth c F hcw (by rw [hX.1]; exact Nat.le_add_right _ _) hin s.heap [] _ hX va_S.rf (hL0 ▸ wq_entry av hlen)
theorem wq_outer (c : ClassId) (N h0 : Nat) : ∀ i : Nat, Jvm.Free.Multi.outerC c N h0 i = arrV c N (fun j => va_rf (if j < i then some (h0 + 1 + j) else none))
  | 0 => by
    show ({ cls := c, slots := Array.replicate N .null, vm := .none } : Cell) = _
    rw [arrV_new]
    exact congrArg (arrV c N) (funext fun j => by simp [va_rf])
  | i + 1 => by
    show (Jvm.Free.Multi.outerC c N h0 i).setSlot i (.ref (h0 + 1 + i)) = _
    rw [wq_outer c N h0 i, arrV_store]
    refine congrArg (arrV c N) (funext fun j => ?_)
    by_cases e9 : j = i
    · subst e9
      simp [updV, va_rf]
    · by_cases h : j < i
      · simp [updV, e9, h, Nat.lt_succ_of_lt h]
      · simp [updV, e9, h, show ¬ j < i + 1 by omega]
section WQI
variable {p : Program} {l : Launch} {e : Env} {R : Room} {s : State} {m : MethodId} {args : Array Value} {below : List Frame} {meth : Method} {c : Code} {D : va_G} {Ar : Nat → ClassId} {b nL : Nat} {A : Nat → Prop} {Q : State → Prop} {cells slots pc q : Nat} {L L' : List (Option Value)} {st : List Value} {cs cs' pre : List va_E}
variable {cc bytes : ByteArray} {own : String} {ret rt : Option FieldType} {y : MethodName} {idx maxL np n mc ms : Nat} {As rest st0 : List Value} {rv : Option Value}
theorem wy_iconst (F : wq_Fr p s m args meth c cc nL ret own D Ar) {n : Int} (d : decode cc pc = .ok (.iconst n, 1))  (hq : pc + 1 = q) (kk : wq_Y p l e R s m args below meth c D b nL A Q cells slots q L (.int (wq_I n) :: st) cs) : wq_Y p l e R s m args below meth c D b nL A Q cells slots pc L (st) cs := by
  subst hq
  intro H locs ls hW hS hl
  exact lv_iconst F.1 F.2.1 d rfl (kk H locs ls hW hS hl)
theorem wy_bipush (F : wq_Fr p s m args meth c cc nL ret own D Ar) {n : Int} (d : decode cc pc = .ok (.bipush n, 2)) (hn : (Int8.ofInt n).toInt32 = wq_I n) (hq : pc + 2 = q) (kk : wq_Y p l e R s m args below meth c D b nL A Q cells slots q L (.int (wq_I n) :: st) cs) : wq_Y p l e R s m args below meth c D b nL A Q cells slots pc L (st) cs := by
  subst hq
  intro H locs ls hW hS hl
  exact lv_bipush F.1 F.2.1 d hn (kk H locs ls hW hS hl)
theorem wy_sipush (F : wq_Fr p s m args meth c cc nL ret own D Ar) {n : Int} (d : decode cc pc = .ok (.sipush n, 3)) (hn : (Int16.ofInt n).toInt32 = wq_I n) (hq : pc + 3 = q) (kk : wq_Y p l e R s m args below meth c D b nL A Q cells slots q L (.int (wq_I n) :: st) cs) : wq_Y p l e R s m args below meth c D b nL A Q cells slots pc L (st) cs := by
  subst hq
  intro H locs ls hW hS hl
  exact lv_sipush F.1 F.2.1 d hn (kk H locs ls hW hS hl)
theorem wy_iload_n (F : wq_Fr p s m args meth c cc nL ret own D Ar) {k : Fin 4} {i : Nat} {x : Int32} (d : decode cc pc = .ok (.iload_n k, 1)) (hi : (k : Nat) = i) (hL : L[i]? = some (some (.int x))) (hq : pc + 1 = q) (kk : wq_Y p l e R s m args below meth c D b nL A Q cells slots q L (.int x :: st) cs) : wq_Y p l e R s m args below meth c D b nL A Q cells slots pc L (st) cs := by
  subst hq
  intro H locs ls hW hS hl
  exact lv_iload_n F.1 F.2.1 d hi (hl.2.2 i _ hL) (kk H locs ls hW hS hl)
theorem wy_iload (F : wq_Fr p s m args meth c cc nL ret own D Ar) {i : Nat} {x : Int32} (d : decode cc pc = .ok (.iload i, 2)) (hL : L[i]? = some (some (.int x))) (hq : pc + 2 = q) (kk : wq_Y p l e R s m args below meth c D b nL A Q cells slots q L (.int x :: st) cs) : wq_Y p l e R s m args below meth c D b nL A Q cells slots pc L (st) cs := by
  subst hq
  intro H locs ls hW hS hl
  exact lv_iload F.1 F.2.1 d (hl.2.2 i _ hL) (kk H locs ls hW hS hl)
theorem wy_istore_n (F : wq_Fr p s m args meth c cc nL ret own D Ar) {k : Fin 4} {i : Nat} {x : Int32} (d : decode cc pc = .ok (.istore_n k, 1)) (hi : (k : Nat) = i) (hn : i < nL) (hok : wq_ok L i = true) (hL : L.set i (some (.int x)) = L') (hq : pc + 1 = q) (kk : wq_Y p l e R s m args below meth c D b nL A Q cells slots q L' (st) cs) : wq_Y p l e R s m args below meth c D b nL A Q cells slots pc L (.int x :: st) cs := by
  subst hq
  intro H locs ls hW hS hl
  subst hL
  exact lv_istore_n F.1 F.2.1 d hi (wq_has_lv hl) hn rfl (fun ls2 h2 => kk H locs ls2 hW hS (wq_has1 hok h2))
theorem wy_istore (F : wq_Fr p s m args meth c cc nL ret own D Ar) {i : Nat} {x : Int32} (d : decode cc pc = .ok (.istore i, 2)) (hn : i < nL) (hok : wq_ok L i = true) (hL : L.set i (some (.int x)) = L') (hq : pc + 2 = q) (kk : wq_Y p l e R s m args below meth c D b nL A Q cells slots q L' (st) cs) : wq_Y p l e R s m args below meth c D b nL A Q cells slots pc L (.int x :: st) cs := by
  subst hq
  intro H locs ls hW hS hl
  subst hL
  exact lv_istore F.1 F.2.1 d (wq_has_lv hl) hn rfl (fun ls2 h2 => kk H locs ls2 hW hS (wq_has1 hok h2))
theorem wy_aload_n (F : wq_Fr p s m args meth c cc nL ret own D Ar) {k : Fin 4} {i : Nat} {x : Nat} (d : decode cc pc = .ok (.aload_n k, 1)) (hi : (k : Nat) = i) (hL : L[i]? = some (some (.ref x))) (hq : pc + 1 = q) (kk : wq_Y p l e R s m args below meth c D b nL A Q cells slots q L (.ref x :: st) cs) : wq_Y p l e R s m args below meth c D b nL A Q cells slots pc L (st) cs := by
  subst hq
  intro H locs ls hW hS hl
  exact lv_aload_n F.1 F.2.1 d hi (hl.2.2 i _ hL) (kk H locs ls hW hS hl)
theorem wy_aload (F : wq_Fr p s m args meth c cc nL ret own D Ar) {i : Nat} {x : Nat} (d : decode cc pc = .ok (.aload i, 2)) (hL : L[i]? = some (some (.ref x))) (hq : pc + 2 = q) (kk : wq_Y p l e R s m args below meth c D b nL A Q cells slots q L (.ref x :: st) cs) : wq_Y p l e R s m args below meth c D b nL A Q cells slots pc L (st) cs := by
  subst hq
  intro H locs ls hW hS hl
  exact lv_aload F.1 F.2.1 d (hl.2.2 i _ hL) (kk H locs ls hW hS hl)
theorem wy_astore_n (F : wq_Fr p s m args meth c cc nL ret own D Ar) {k : Fin 4} {i : Nat} {x : Nat} (d : decode cc pc = .ok (.astore_n k, 1)) (hi : (k : Nat) = i) (hn : i < nL) (hok : wq_ok L i = true) (hL : L.set i (some (.ref x)) = L') (hq : pc + 1 = q) (kk : wq_Y p l e R s m args below meth c D b nL A Q cells slots q L' (st) cs) : wq_Y p l e R s m args below meth c D b nL A Q cells slots pc L (.ref x :: st) cs := by
  subst hq
  intro H locs ls hW hS hl
  subst hL
  exact lv_astore_n F.1 F.2.1 d hi (wq_has_lv hl) hn rfl (fun ls2 h2 => kk H locs ls2 hW hS (wq_has1 hok h2))
theorem wy_astore (F : wq_Fr p s m args meth c cc nL ret own D Ar) {i : Nat} {x : Nat} (d : decode cc pc = .ok (.astore i, 2)) (hn : i < nL) (hok : wq_ok L i = true) (hL : L.set i (some (.ref x)) = L') (hq : pc + 2 = q) (kk : wq_Y p l e R s m args below meth c D b nL A Q cells slots q L' (st) cs) : wq_Y p l e R s m args below meth c D b nL A Q cells slots pc L (.ref x :: st) cs := by
  subst hq
  intro H locs ls hW hS hl
  subst hL
  exact lv_astore F.1 F.2.1 d (wq_has_lv hl) hn rfl (fun ls2 h2 => kk H locs ls2 hW hS (wq_has1 hok h2))
theorem wy_iinc (F : wq_Fr p s m args meth c cc nL ret own D Ar) {i : Nat} {n x : Int} (d : decode cc pc = .ok (.iinc i n, 3)) (hL0 : L[i]? = some (some (.int (wq_I x)))) (hn : i < nL) (hok : wq_ok L i = true) (hL : L.set i (some (.int (wq_I (x + n)))) = L') (hq : pc + 3 = q) (kk : wq_Y p l e R s m args below meth c D b nL A Q cells slots q L' st cs) : wq_Y p l e R s m args below meth c D b nL A Q cells slots pc L st cs := by
  subst hq
  intro H locs ls hW hS hl
  subst hL
  have hp := wq_in_pos L 0 i _ hL0
  rw [Nat.zero_add] at hp
  obtain ⟨k, hk⟩ := List.getElem?_of_mem hp
  exact lv_iinc F.1 F.2.1 d (wq_has_lv hl) hk (wq_I_add x n) hn rfl (fun ls2 h2 => kk H locs ls2 hW hS (wq_has1 hok h2))
theorem wy_ge_t (F : wq_Fr p s m args meth c cc nL ret own D Ar) {x y off : Int} {tgt : Nat} (d : decode cc pc = .ok (.if_icmp .ge off, 3)) (ht : (pc : Int) + off = (tgt : Int)) (h : wq_w y ≤ wq_w x) (kt : wq_Y p l e R s m args below meth c D b nL A Q cells slots tgt L st cs) : wq_Y p l e R s m args below meth c D b nL A Q cells slots pc L (.int (wq_I y) :: .int (wq_I x) :: st) cs := fun H locs ls hW hS hl => lv_icmp_ge F.1 F.2.1 d ht (fun _ => kt H locs ls hW hS hl) (fun h9 => absurd ((wq_I_le y x).mpr h) h9)
theorem wy_ge_f (F : wq_Fr p s m args meth c cc nL ret own D Ar) {x y off : Int} {tgt : Nat} (d : decode cc pc = .ok (.if_icmp .ge off, 3)) (ht : (pc : Int) + off = (tgt : Int)) (h : ¬ wq_w y ≤ wq_w x) (hq : pc + 3 = q) (kf : wq_Y p l e R s m args below meth c D b nL A Q cells slots q L st cs) : wq_Y p l e R s m args below meth c D b nL A Q cells slots pc L (.int (wq_I y) :: .int (wq_I x) :: st) cs := by
  subst hq
  exact fun H locs ls hW hS hl => lv_icmp_ge F.1 F.2.1 d ht (fun h9 => absurd ((wq_I_le y x).mp h9) h) (fun _ => kf H locs ls hW hS hl)
theorem wy_goto (F : wq_Fr p s m args meth c cc nL ret own D Ar) {off : Int} {tgt : Nat} (d : decode cc pc = .ok (.goto off, 3)) (ht : (pc : Int) + off = (tgt : Int)) (kk : wq_Y p l e R s m args below meth c D b nL A Q cells slots tgt L st cs) : wq_Y p l e R s m args below meth c D b nL A Q cells slots pc L st cs := fun H locs ls hW hS hl => lv_goto F.1 F.2.1 d ht (kk H locs ls hW hS hl)
theorem wy_eqc (h : cs = cs') (kk : wq_Y p l e R s m args below meth c D b nL A Q cells slots pc L st cs') : wq_Y p l e R s m args below meth c D b nL A Q cells slots pc L st cs := h ▸ kk
theorem wy_dup (F : wq_Fr p s m args meth c cc nL ret own D Ar) {v : Value} (hv : v.category = 1) (d : decode cc pc = .ok (.dup, 1))  (hq : pc + 1 = q) (kk : wq_Y p l e R s m args below meth c D b nL A Q cells slots q L (v :: v :: st) cs) : wq_Y p l e R s m args below meth c D b nL A Q cells slots pc L (v :: st) cs := by
  subst hq
  intro H locs ls hW hS hl
  exact lv_dup F.1 F.2.1 d hv (kk H locs ls hW hS hl)
theorem wy_obj (F : wq_Fr p s m args meth c cc nL ret own D Ar) {a : Nat} (h1 : Cond.methodLink own idx objectInit ∈ wq_aw) (h2 : Cond.instanceMethod objectInit ∈ wq_aw) (h3 : Cond.code objectInit ⟨#[0xb1]⟩ 1 none ∈ wq_aw) (hR : 1 ≤ R.frames) (hR2 : (st.map fun v => v.category).sum + 12 ≤ R.locals) (d : decode cc pc = .ok (.invokespecial idx, 3)) (hq : pc + 3 = q) (kk : wq_Y p l e R s m args below meth c D b nL A Q cells slots q L st cs) : wq_Y p l e R s m args below meth c D b nL A Q cells slots pc L (.ref a :: st) cs := by
  subst hq
  intro H locs ls hW hS hl
  have hts := F.2.2.2.2.1
  refine W.objInit F.1 F.2.1 F.2.2.2.1 (hts _ h1) (hts _ h2) (hts _ h3) rfl (hl.1.trans F.2.2.1.symm) rfl d hR (by show 2 * 0 + _ + 12 ≤ _; omega) ?_
  exact W.eq (g2 := F0 m (pc + 3) ls st) rfl (kk H locs ls hW hS hl)
theorem wy_new (F : wq_Fr p s m args meth c cc nL ret own D Ar) {C : String} {T : u_T} {nf ci nn : Nat} (hin : ∀ w ∈ u_ws C T nf, w ∈ wq_aw) (ty : Nat → FieldType) (hty : ∀ k, k < nf → parseFieldDescriptor (T k).2.2.1 = some (ty k)) (hlink : Cond.classLink own idx C ∈ wq_aw) (hins : Cond.instantiable C nf ∈ wq_aw) (hini : Cond.initialized C ∈ wq_aw) (hc : vwCl[ci]? = some (C, T, nf)) (fs : List Value) (hfs : ∀ j, j < nf → defaultValue (ty j) = vp_V fs j) (hnn : cs.length = nn) (hA : A (b + nn)) (hcells : cells + 1 ≤ R.cells) (hslots : slots + nf ≤ R.slots) (hcs : cs ++ [.inr (ci, fs)] = cs') (d : decode cc pc = .ok (.new idx, 3)) (hq : pc + 3 = q) (kk : wq_Y p l e R s m args below meth c D b nL A Q (cells + 1) (slots + nf) q L (.ref (b + nn) :: st) cs') : wq_Y p l e R s m args below meth c D b nL A Q cells slots pc L st cs := by
  subst hq
  subst hcs
  subst hnn
  intro H locs ls hW hS hl
  have hts := F.2.2.2.2.1
  have hKn := F.2.2.2.2.2.1.1 ci _ hc
  refine W.newcK F.1 F.2.1 F.2.2.2.1 (hts _ hlink) (hts _ hins) (hts _ hini) rfl d hcells hslots hKn.2.1 hW.1 fun H1 kC hkC e1 z1 o1 => ?_
  rw [← hW.1] at e1 z1 o1
  refine kk H1 locs ls (wq_Xw_push hW z1 o1 ⟨_, hc, (u_born ty hts hin hKn hkC e1 hty).to hfs⟩) ⟨Nat.le_trans hS.1 (by omega), fun x h1 h2 => (o1 x (Nat.lt_of_lt_of_le h1 hS.1)).trans (hS.2.1 x h1 h2), hS.2.2⟩ hl
theorem wy_newa_i (F : wq_Fr p s m args meth c cc nL ret own D Ar) {N' nn : Nat} {x : Int} (harr : Cond.arrayClass .int ∈ wq_aw) (hx : x = (N' : Int)) (hN : N' < 100000) (hnn : cs.length = nn) (hcells : cells + 1 ≤ R.cells) (hslots : slots + N' ≤ R.slots) (hcs : cs ++ [.inl (Ar 0, N', .inl fun _ => wq_I 0)] = cs') (d : decode cc pc = .ok (.newarray .int, 2)) (hq : pc + 2 = q) (kk : wq_Y p l e R s m args below meth c D b nL A Q (cells + 1) (slots + N') q L (.ref (b + nn) :: st) cs') : wq_Y p l e R s m args below meth c D b nL A Q cells slots pc L (.int (wq_I x) :: st) cs := by
  subst hq
  subst hcs
  subst hnn
  intro H locs ls hW hS hl
  have hts := F.2.2.2.2.1
  have ew : wq_w x = (N' : Int) := by rw [hx]; exact wq_w_id (by omega) (by omega)
  have h0 : ¬ wq_I x < 0 := by
    rw [show (0 : Int32) = wq_I 0 from rfl, wq_I_lt, ew, wq_w_0]
    omega
  have et : (wq_I x).toNatClampNeg = N' := by show (wq_w x).toNat = N'; omega
  have hbytes : N' * componentBytes (newarray.typeOf .int) ≤ 536870912 := by
    have h8 : componentBytes (newarray.typeOf .int) ≤ 8 := by decide
    exact Nat.le_trans (Nat.mul_le_mul_left _ h8) (by omega)
  refine va_newaK (atype := .int) F.1 F.2.1 (hts _ harr) (g := F0 m pc ls (.int (wq_I x) :: st)) rfl d rfl h0 et hbytes hcells hslots hW.1 fun H1 cA e1 z1 o1 hAr hf => ?_
  have hcA : cA = Ar 0 := by
    have := (F.2.2.2.2.2.1.2 0 _ rfl).2
    exact Option.some.inj (hf.symm.trans this)
  subst hcA
  rw [← hW.1] at e1 z1 o1
  have h := kk H1 locs ls (wq_Xw_push hW z1 o1 (by show H1[_]? = some (vp_cell _ _); rw [e1]; rfl)) ⟨Nat.le_trans hS.1 (by omega), fun x h1 h2 => (o1 x (Nat.lt_of_lt_of_le h1 hS.1)).trans (hS.2.1 x h1 h2), hS.2.2⟩ hl
  exact h
theorem wy_newa_z (F : wq_Fr p s m args meth c cc nL ret own D Ar) {N' nn : Nat} {x : Int} (harr : Cond.arrayClass .boolean ∈ wq_aw) (hx : x = (N' : Int)) (hN : N' < 100000) (hnn : cs.length = nn) (hcells : cells + 1 ≤ R.cells) (hslots : slots + N' ≤ R.slots) (hcs : cs ++ [.inl (Ar 1, N', .inl fun _ => wq_I 0)] = cs') (d : decode cc pc = .ok (.newarray .boolean, 2)) (hq : pc + 2 = q) (kk : wq_Y p l e R s m args below meth c D b nL A Q (cells + 1) (slots + N') q L (.ref (b + nn) :: st) cs') : wq_Y p l e R s m args below meth c D b nL A Q cells slots pc L (.int (wq_I x) :: st) cs := by
  subst hq
  subst hcs
  subst hnn
  intro H locs ls hW hS hl
  have hts := F.2.2.2.2.1
  have ew : wq_w x = (N' : Int) := by rw [hx]; exact wq_w_id (by omega) (by omega)
  have h0 : ¬ wq_I x < 0 := by
    rw [show (0 : Int32) = wq_I 0 from rfl, wq_I_lt, ew, wq_w_0]
    omega
  have et : (wq_I x).toNatClampNeg = N' := by show (wq_w x).toNat = N'; omega
  have hbytes : N' * componentBytes (newarray.typeOf .boolean) ≤ 536870912 := by
    have h8 : componentBytes (newarray.typeOf .boolean) ≤ 8 := by decide
    exact Nat.le_trans (Nat.mul_le_mul_left _ h8) (by omega)
  refine va_newaK (atype := .boolean) F.1 F.2.1 (hts _ harr) (g := F0 m pc ls (.int (wq_I x) :: st)) rfl d rfl h0 et hbytes hcells hslots hW.1 fun H1 cA e1 z1 o1 hAr hf => ?_
  have hcA : cA = Ar 1 := by
    have := (F.2.2.2.2.2.1.2 1 _ rfl).2
    exact Option.some.inj (hf.symm.trans this)
  subst hcA
  rw [← hW.1] at e1 z1 o1
  have h := kk H1 locs ls (wq_Xw_push hW z1 o1 (by show H1[_]? = some (vp_cell _ _); rw [e1]; rfl)) ⟨Nat.le_trans hS.1 (by omega), fun x h1 h2 => (o1 x (Nat.lt_of_lt_of_le h1 hS.1)).trans (hS.2.1 x h1 h2), hS.2.2⟩ hl
  exact h
theorem wy_anew (F : wq_Fr p s m args meth c cc nL ret own D Ar) {C : String} {N' nn tk : Nat} {x : Int} (hlink : Cond.classLink own idx C ∈ wq_aw) (hover : va_Nw (.arrayOver (.object C)) s) (hty : (wq_tys Ar)[tk]? = some (Ar tk, .object C)) (hx : x = (N' : Int)) (hN : N' < 100000) (hnn : cs.length = nn) (hcells : cells + 1 ≤ R.cells) (hslots : slots + N' ≤ R.slots) (hcs : cs ++ [.inl (Ar tk, N', .inr (.inr (.inr (.inr fun _ => none))))] = cs') (d : decode cc pc = .ok (.anewarray idx, 3)) (hq : pc + 3 = q) (kk : wq_Y p l e R s m args below meth c D b nL A Q (cells + 1) (slots + N') q L (.ref (b + nn) :: st) cs') : wq_Y p l e R s m args below meth c D b nL A Q cells slots pc L (.int (wq_I x) :: st) cs := by
  subst hq
  subst hcs
  subst hnn
  intro H locs ls hW hS hl
  have hts := F.2.2.2.2.1
  have ew : wq_w x = (N' : Int) := by rw [hx]; exact wq_w_id (by omega) (by omega)
  have h0 : ¬ wq_I x < 0 := by
    rw [show (0 : Int32) = wq_I 0 from rfl, wq_I_lt, ew, wq_w_0]
    omega
  have et : (wq_I x).toNatClampNeg = N' := by show (wq_w x).toNat = N'; omega
  refine W.anew F.1 F.2.1 F.2.2.2.1 (hts _ hlink) (wq_ao_use hover) (g := F0 m pc ls (.int (wq_I x) :: st)) rfl d rfl h0 (by rw [et]; omega) hcells (by rw [et]; exact hslots) fun cA kA comp f1 f2 f3 f4 => ?_
  obtain ⟨-, k9, c9, g1, g2, g3, g4⟩ := F.2.2.2.2.2.1.2 tk _ hty
  have hcA : cA = Ar tk := Option.some.inj (f1.symm.trans g4)
  subst hcA
  rw [et]
  generalize hH1 : H.push ({ cls := Ar tk, slots := Array.replicate N' .null, vm := .none } : Cell) = H1
  have z1 : H1.size = H.size + 1 := by rw [← hH1, Array.size_push]
  have e1 : H1[H.size]? = some (arrV (Ar tk) N' (fun _ => .null)) := by rw [← hH1, Array.getElem?_push_size, ← arrV_new]
  have o1 : ∀ q : Nat, q < H.size → H1[q]? = H[q]? := fun q hq => by rw [← hH1, Array.getElem?_push, if_neg (Nat.ne_of_lt hq)]
  have h := kk H1 locs ls (wq_Xw_push hW z1 o1 (by show H1[_]? = some (vp_cell _ _); rw [e1]; rfl)) ⟨Nat.le_trans hS.1 (by omega), fun x h1 h2 => (o1 x (Nat.lt_of_lt_of_le h1 hS.1)).trans (hS.2.1 x h1 h2), hS.2.2⟩ hl
  rw [← hW.1] at h
  exact h
theorem wy_mna (F : wq_Fr p s m args meth c cc nL ret own D Ar) {N' K' nn : Nat} {x y : Int} (hlink : Cond.classLink own idx "[[I" ∈ wq_aw) (hover : va_Nw (.arrayOver (.array .int)) s) (harr : Cond.arrayClass .int ∈ wq_aw) (hx : x = (N' : Int)) (hN : N' < 100000) (hy : y = (K' : Int)) (hK : K' < 100000) (hnn : cs.length = nn) (hcells : cells + (1 + N') ≤ R.cells) (hslots : slots + (N' + N' * K') ≤ R.slots) (hcs : cs ++ (.inl (Ar 2, N', .inr (.inr (.inr (.inr fun j => if j < N' then some (b + nn + 1 + j) else none)))) :: List.replicate N' (.inl (Ar 0, K', .inl fun _ => wq_I 0))) = cs') (d : decode cc pc = .ok (.multianewarray idx 2, 4)) (hq : pc + 4 = q) (kk : wq_Y p l e R s m args below meth c D b nL A Q (cells + 1 + N') (slots + N' + N' * K') q L (.ref (b + nn) :: st) cs') : wq_Y p l e R s m args below meth c D b nL A Q cells slots pc L (.int (wq_I y) :: .int (wq_I x) :: st) cs := by
  subst hq
  subst hcs
  subst hnn
  intro H locs ls hW hS hl
  have hts := F.2.2.2.2.1
  have ex : (wq_I x).toNatClampNeg = N' := by
    have : wq_w x = (N' : Int) := by rw [hx]; exact wq_w_id (by omega) (by omega)
    show (wq_w x).toNat = N'
    omega
  have ey : (wq_I y).toNatClampNeg = K' := by
    have : wq_w y = (K' : Int) := by rw [hy]; exact wq_w_id (by omega) (by omega)
    show (wq_w y).toNat = K'
    omega
  have hx0 : ¬ wq_I x < 0 := by
    have : wq_w x = (N' : Int) := by rw [hx]; exact wq_w_id (by omega) (by omega)
    rw [show (0 : Int32) = wq_I 0 from rfl, wq_I_lt, this, wq_w_0]
    omega
  have hy0 : ¬ wq_I y < 0 := by
    have : wq_w y = (K' : Int) := by rw [hy]; exact wq_w_id (by omega) (by omega)
    rw [show (0 : Int32) = wq_I 0 from rfl, wq_I_lt, this, wq_w_0]
    omega
  intro T hT Xs
  obtain ⟨vm₁, cA, comp, hWm, fA, fC, hO, hI, X', step⟩ := Xs.multianewarray2F F.1 F.2.2.2.1 (ty := .int) (hts _ hlink) (wq_ao_use hover) (hts _ harr) (g := F0 m pc ls (.int (wq_I y) :: .int (wq_I x) :: st)) rfl (by rw [F.2.1]; exact d) rfl hx0 hy0 (by rw [ex]; omega) (by rw [ey]; show K' * 4 ≤ _; omega) (by rw [ey]; omega) rfl rfl (by rw [ex]; exact hcells) (by rw [ex, ey]; exact hslots)
  rw [ex, ey] at X' step
  have hcA : cA = Ar 2 := by
    have := (F.2.2.2.2.2.1.2 2 _ rfl).2
    exact Option.some.inj (fA.symm.trans this)
  have hcy : comp = Ar 0 := by
    have := (F.2.2.2.2.2.1.2 0 _ rfl).2
    exact Option.some.inj (fC.symm.trans this)
  subst hcA
  subst hcy
  generalize hF : Jvm.Free.Multi.fill (T.setVm vm₁) (Ar 2) (Ar 0) N' K' (defaultValue .int) N' = F9 at X' step
  have hTh : (T.setVm vm₁).heap = H := hT
  obtain ⟨f1, f2, -, -⟩ := Jvm.Free.Multi.fill_facts (T.setVm vm₁) (Ar 2) (Ar 0) N' K' (defaultValue .int) N'
  rw [hF, hTh] at f1 f2
  have hold : ∀ x : Nat, x < H.size → F9.heap[x]? = H[x]? := fun x hx => by
    have := Jvm.Free.Multi.fill_old (T.setVm vm₁) (Ar 2) (Ar 0) N' K' (defaultValue .int) (a := x) (by rw [hTh]; exact hx) N'
    rw [hF, hTh] at this
    exact this
  have hrow : ∀ j : Nat, j < N' → F9.heap[H.size + 1 + j]? = some (vp_cell (Ar 0) (K', .inl fun _ => wq_I 0)) := fun j hj => by
    have := Jvm.Free.Multi.fill_inner (T.setVm vm₁) (Ar 2) (Ar 0) N' K' (defaultValue .int) N' j hj
    rw [hF, hTh] at this
    rw [this]
    show some ({ cls := Ar 0, slots := Array.replicate K' (Value.int 0), vm := .none } : Cell) = _
    rw [arrV_new]
    rfl
  have hout : Jvm.Free.Multi.outerC (Ar 2) N' H.size N' = vp_cell (Ar 2) (N', .inr (.inr (.inr (.inr (fun i => if i < N' then some (H.size + 1 + i) else none))))) := by
    rw [vp_cell_q]
    exact wq_outer (Ar 2) N' H.size N'
  rw [hout] at f2
  have hsz : F9.heap.size = H.size + 1 + N' := by rw [f1]
  have hXw : wq_Xw D b (cs ++ (.inl (Ar 2, N', .inr (.inr (.inr (.inr fun j => if j < N' then some (b + cs.length + 1 + j) else none)))) :: List.replicate N' (.inl (Ar 0, K', .inl fun _ => wq_I 0)))) F9.heap := by
    refine ⟨by rw [hsz, hW.1, List.length_append, List.length_cons, List.length_replicate]; omega, fun k x hk => ?_⟩
    by_cases hl9 : k < cs.length
    · rw [List.getElem?_append_left hl9] at hk
      exact (hW.2 k x hk).kept (hold _ (hW.2 k x hk).lt)
    · rw [List.getElem?_append_right (by omega)] at hk
      rcases Nat.eq_zero_or_pos (k - cs.length) with h0 | h0
      · rw [h0, List.getElem?_cons_zero] at hk
        cases hk
        have ek : b + k = H.size := by rw [hW.1]; omega
        show F9.heap[b + k]? = _
        rw [ek, f2, hW.1]
      · obtain ⟨j, hj⟩ : ∃ j, k - cs.length = j + 1 := ⟨k - cs.length - 1, by omega⟩
        rw [hj, List.getElem?_cons_succ, List.getElem?_replicate] at hk
        split at hk
        · cases hk
          have ek : b + k = H.size + 1 + j := by rw [hW.1]; omega
          show F9.heap[b + k]? = _
          rw [ek, hrow j (by assumption)]
        · cases hk
  have h := kk F9.heap locs ls hXw ⟨Nat.le_trans hS.1 (by omega), fun x h1 h2 => (hold x (Nat.lt_of_lt_of_le h1 hS.1)).trans (hS.2.1 x h1 h2), hS.2.2⟩ hl
  obtain ⟨t, a1, b1⟩ := h F9 rfl X'
  refine ⟨t, step t ?_, b1⟩
  rw [show T.heap.size = b + cs.length from (congrArg Array.size hT).trans hW.1]
  exact a1
theorem wy_put (F : wq_Fr p s m args meth c cc nL ret own D Ar) {ref C : String} {T : u_T} {nf ci k j : Nat} {fs : List Value} {ty : FieldType} {v : Value} (hin : ∀ w ∈ u_ws C T nf, w ∈ wq_aw) (hc : vwCl[ci]? = some (C, T, nf)) (ty0 : Nat → FieldType) (hty : ∀ k, k < nf → parseFieldDescriptor (T k).2.2.1 = some (ty0 k)) (hnm : ∀ a, a < nf → ∀ b, b < nf → a ≠ b → (T a).2.1 ≠ (T b).2.1) (hj : j < nf) (hlink : Cond.fieldLink own idx ref (T j).2.1 (T j).2.2.1 ∈ wq_aw) (hsame : ∀ x, s.fieldFound? (T j).1 (T j).2.1 (T j).2.2.1 = some x → s.fieldFound? ref (T j).2.1 (T j).2.2.1 = some x) (hfin : (T j).2.2.2 = false ∨ ((T j).2.2.2 = true ∧ meth.name = "<init>" ∧ (T j).1 = own)) (hd : parseFieldDescriptor (T j).2.2.1 = some ty) (hn : narrow ty v = v) (hfit : fits ty v = true) (hl0 : j < fs.length) (hE : cs[k]? = some (.inr (ci, fs))) (hA : A (b + k)) (hcs : cs.set k (.inr (ci, fs.set j v)) = cs') (d : decode cc pc = .ok (.putfield idx, 3)) (hq : pc + 3 = q) (kk : wq_Y p l e R s m args below meth c D b nL A Q cells slots q L st cs') : wq_Y p l e R s m args below meth c D b nL A Q cells slots pc L (v :: .ref (b + k) :: st) cs := by
  subst hq
  subst hcs
  intro H locs ls hW hS hl
  have hts := F.2.2.2.2.1
  have hK := F.2.2.2.2.2.1
  have hap := va_apart (own := own) hts hin ty0 hty hnm hK hc
  obtain ⟨r, h1, cell, q1, q2, q3, q4⟩ := hW.2 k _ hE
  have hr : r = (C, T, nf) := Option.some.inj (h1.symm.trans hc)
  subst hr
  obtain ⟨hSl, hfc, kC, hkC, hkind⟩ := hK.1 ci _ hc
  obtain ⟨cf, kf, fi, f, hi, hsl⟩ := hSl j hj
  have hlay := hts _ (hin _ (u_in_lay hj))
  unfold u_lay at hlay
  have hst := (u_facts hfc hkC (u_lays hts hin hj) hi).1
  rcases hfin with hfin | ⟨hfin, hin2, hdecl⟩
  · rw [if_neg (by rw [hfin]; decide)] at hlay
    have h6 := u_store hfc hkC hkind hlay hi hd hn hfit
    refine W.putK F.1 F.2.1 (f := f) ⟨F.2.2.2.1, hts _ hlink, ⟨_, _, _, hsame _ hi⟩, hst⟩ (by rw [q2]; exact h6) q1 q3 (by rw [hsl]; exact k2_hasslot (q4 j hj)) rfl rfl d fun H' e1 e2 e3 => ?_
    rw [hsl] at e1 ⊢
    exact kk H' _ ls (wq_Xw_set hW hE e2 e3 ⟨_, hc, t_OB.to (V := updV (vp_V fs) j v) ⟨_, e1, q2, q3, t_set q4 hap hj v⟩ (fun i _ => vp_updV_set hl0 v i)⟩) (hS.put e2 e3 hA) hl
  · rw [if_pos hfin] at hlay
    have hcf : m.cls = cf := by
      obtain ⟨_, _, c', _, _, _, -, -, hf', -, -, -, hown2, -⟩ := Cond.laysFinal_spec hlay
      have e1 : c' = cf := by have := hi.symm.trans hf'; simp at this; exact this.1.symm
      rw [hdecl] at hown2
      rw [← e1]; exact Option.some.inj (F.2.2.2.1.symm.trans hown2)
    have h6 := u_fits hfc hkC hkind (Or.inr hlay) hi hd hn hfit
    refine W.putFinK F.1 F.2.1 F.2.2.2.1 (hts _ hlink) (hsame _ hi) hst hcf hin2 (by rw [q2]; exact h6) q1 q3 (by rw [hsl]; exact k2_hasslot (q4 j hj)) rfl rfl d fun H' e1 e2 e3 => ?_
    rw [hsl] at e1 ⊢
    exact kk H' _ ls (wq_Xw_set hW hE e2 e3 ⟨_, hc, t_OB.to (V := updV (vp_V fs) j v) ⟨_, e1, q2, q3, t_set q4 hap hj v⟩ (fun i _ => vp_updV_set hl0 v i)⟩) (hS.put e2 e3 hA) hl
theorem wy_get (F : wq_Fr p s m args meth c cc nL ret own D Ar) {ref C : String} {T : u_T} {nf ci k j : Nat} {fs : List Value} {v : Value} (hin : ∀ w ∈ u_ws C T nf, w ∈ wq_aw) (hc : vwCl[ci]? = some (C, T, nf)) (hj : j < nf) (hlink : Cond.fieldLink own idx ref (T j).2.1 (T j).2.2.1 ∈ wq_aw) (hsame : ∀ x, s.fieldFound? (T j).1 (T j).2.1 (T j).2.2.1 = some x → s.fieldFound? ref (T j).2.1 (T j).2.2.1 = some x) (hE : cs[k]? = some (.inr (ci, fs))) (hv : fs[j]? = some v) (d : decode cc pc = .ok (.getfield idx, 3)) (hq : pc + 3 = q) (kk : wq_Y p l e R s m args below meth c D b nL A Q cells slots q L (v :: st) cs) : wq_Y p l e R s m args below meth c D b nL A Q cells slots pc L (.ref (b + k) :: st) cs := by
  subst hq
  intro H locs ls hW hS hl
  have hP : va_P D vwCl [(b + k, .inr (ci, fs))] H := by
    intro i x hx
    match i, hx with
    | 0, hx =>
      cases hx
      exact hW.2 k _ hE
  exact va_get (ws := [(b + k, .inr (ci, fs))]) F.1 F.2.1 F.2.2.2.2.1 hin F.2.2.2.1 F.2.2.2.2.2.1 hP 0 rfl hc j hj (F.2.2.2.2.1 _ hlink) hsame hv d (kk H locs ls hW hS hl)
theorem wy_aast (F : wq_Fr p s m args meth c cc nL ret own D Ar) {ka kv t nA tk ci : Nat} {x : Int} {r : vw_C} {fs : List Value} {f f' : Nat → Option Nat} (hE : cs[ka]? = some (.inl (Ar tk, nA, .inr (.inr (.inr (.inr f)))))) (hty : (wq_tys Ar)[tk]? = some (Ar tk, .object r.1)) (hv : cs[kv]? = some (.inr (ci, fs))) (hc : vwCl[ci]? = some r) (hx : x = (t : Int)) (ht : t < nA) (hnA : nA < 100000) (hf' : ∀ j, f' j = va_up f t (some (b + kv)) j) (hA : A (b + ka)) (hcs : cs.set ka (.inl (Ar tk, nA, .inr (.inr (.inr (.inr f'))))) = cs') (d : decode cc pc = .ok (.aastore, 1)) (hq : pc + 1 = q) (kk : wq_Y p l e R s m args below meth c D b nL A Q cells slots q L st cs') : wq_Y p l e R s m args below meth c D b nL A Q cells slots pc L (.ref (b + kv) :: .int (wq_I x) :: .ref (b + ka) :: st) cs := by
  subst hq
  subst hcs
  intro H locs ls hW hS hl
  have hf9 : f' = va_up f t (some (b + kv)) := funext hf'
  subst hf9
  have ew : wq_w x = (t : Int) := by rw [hx]; exact wq_w_id (by omega) (by omega)
  have et : (wq_I x).toNatClampNeg = t := by show (wq_w x).toNat = t; omega
  have h0 : ¬ wq_I x < 0 := by
    rw [show (0 : Int32) = wq_I 0 from rfl, wq_I_lt, ew, wq_w_0]
    omega
  obtain ⟨r', hr', cellV, g1, g2, g3, -⟩ := hW.2 kv _ hv
  have hcls := (F.2.2.2.2.2.1.1 ci r hc).2
  obtain ⟨kA, comp, k1, k2, k3, -⟩ := (F.2.2.2.2.2.1.2 tk _ hty).2
  have hcomp : comp = D.1 ci := Option.some.inj (k3.symm.trans hcls.1)
  subst hcomp
  obtain ⟨kC, hkC, -⟩ := id hcls.2
  refine W.aast F.1 F.2.1 (hW.2 ka _ hE) (fun q h => by cases h) (fun h => by cases h) k1 k2 rfl hkC ⟨h0, by show _ < (arrV _ _ _).slots.size; rw [arrV_size, et]; exact ht⟩ g1 (fun q h => by rw [g3] at h; cases h) (by rw [g2]; exact hkC) (by rw [g2]; exact va_assign hcls) rfl rfl d fun H1 e1 z oq => ?_
  refine kk H1 _ ls (wq_Xw_set hW hE z oq ?_) (hS.put z oq hA) hl
  show H1[b + ka]? = some (vp_cell _ _)
  rw [e1, et]
  rw [vp_cell_q, vp_cell_q, arrV_store]
  congr 2
  funext j
  by_cases hj : j = t
  · subst hj
    simp [updV, va_up, va_rf]
  · simp [updV, va_up, hj]
theorem wy_go {ls : Array Slot} {H : Heap} {locs : List Loc} {a : Nat} {csa csa' : List va_E} (hr : va_Run p l e R s m args below meth c H locs cells slots mc ms (F0 m pc ls st0) rest (wq_Qi D a rv csa' As.toArray) (wq_Ai a)) (hW : wq_Xw D b (pre ++ csa) H) (ha : a = b + pre.length) (hS : va_S A s.heap H locs) (hA : ∀ q, wq_Ai a q → A q) (hl : wq_has ls nL L)
    (kk : wq_Y p l e R s m args below meth c D b nL A Q (cells + mc) (slots + ms) (pc + 3) L (rv.toList ++ rest) (pre ++ csa')) : W p l e R s m args below meth c H locs cells slots Q (F0 m pc ls st0) := by
  intro T hT X
  obtain ⟨v, st₀, t, T', Lx, h0, X', hL, e1, e2, ⟨hv, hX, hz, hk⟩, st⟩ := hr T hT X
  cases hv
  rw [h0] at hz hk
  obtain ⟨t2, a1, b1⟩ := kk T'.heap (locs ++ Lx) ls (by rw [e1]; exact wq_Xw_app hW ha (fun q h1 h2 => hk q h1 (fun h3 => by have h4 : a ≤ q := h3; omega)) hX)
    ⟨Nat.le_trans hS.1 (by rw [e1]; exact hz), fun q h1 h2 => by rw [e1, hk q (Nat.lt_of_lt_of_le h1 hS.1) (fun z => h2 (hA q z))]; exact hS.2.1 q h1 h2, fun q hq => by
      rcases List.mem_append.mp hq with h | h
      · exact hS.2.2 q h
      · exact hA _ (hL q h)⟩ hl T' rfl X'
  exact ⟨t2, st t2 a1, b1⟩
theorem wy_callI (F : wq_Fr p s m args meth c cc nL ret own D Ar) (Kc : ∀ w ∈ wq_cw, va_Nw w s) {a : Nat} {csa csa' : List va_E} (lk : wq_Lk own idx y bytes maxL none np) (hin : Cond.instanceMethod y ∈ wq_aw) (hy1 : y.name = "<init>") (hM : wq_Ci l y (.code y bytes maxL none) n mc ms D Ar a (.ref a :: As) csa rv csa') (hcs0 : pre ++ csa = cs) (ha : a = b + pre.length) (hAa : ∀ q, wq_Ai a q → A q) (hc0 : cells + mc ≤ R.cells ∧ slots + ms ≤ R.slots) (hR : n + 1 ≤ R.frames ∧ 8 + (maxL + 11) + 40 * n ≤ R.locals) (hn : As.length = np) (hcat : (rest.map fun v => v.category).sum ≤ 8) (hcs : pre ++ csa' = cs') (hst : st0 = As.reverse ++ .ref a :: rest) (d : decode cc pc = .ok (.invokespecial idx, 3)) (hq : pc + 3 = q) (kk : wq_Y p l e R s m args below meth c D b nL A Q (cells + mc) (slots + ms) q L (rv.toList ++ rest) cs') : wq_Y p l e R s m args below meth c D b nL A Q cells slots pc L st0 cs := by
  subst hq
  subst hst
  subst hcs0
  subst hcs
  intro H locs ls hW hS hl
  have hts := F.2.2.2.2.1
  exact wy_go (va_runI (Ts := wq_aw) (n := np) (ws := wq_ws (.code y bytes maxL none)) (As := As) (rest := rest) ⟨F.1, F.2.1, F.2.2.1, F.2.2.2.1, hts⟩ hM ⟨wq_callB hts lk rfl rfl hR, hy1, hts _ hin⟩ ⟨wq_blindi _ _ _ _ _, fun U hU hW9 => ⟨rfl, by rw [hU]; exact wq_Xw_part hW ha, va_K.moved hW9.alike F.2.2.2.2.2.1, wq_cw_warm hW9 Kc⟩⟩ rfl hn hl.1 rfl (by show 2 * 0 + _ ≤ 8; omega) d hc0) hW ha hS hAa hl kk
theorem wy_callN (F : wq_Fr p s m args meth c cc nL ret own D Ar) (Kc : ∀ w ∈ wq_cw, va_Nw w s) {a : Nat} {csa csa' : List va_E} {host : String} (hnest : va_Nw (.methodLinkNest own idx y host) s) (hini : Cond.initialized y.cls ∈ wq_aw) (hcode : Cond.code y bytes maxL none ∈ wq_aw) (hdd : y.cls ≠ "java/lang/invoke/MethodHandle" ∧ y.cls ≠ "java/lang/invoke/VarHandle" ∧ (parseMethodDescriptor y.desc).map (fun d => d.parameters.length) = some np) (hin : Cond.instanceMethod y ∈ wq_aw) (hy1 : y.name = "<init>") (hM : wq_Ci l y (.code y bytes maxL none) n mc ms D Ar a (.ref a :: As) csa rv csa') (hcs0 : pre ++ csa = cs) (ha : a = b + pre.length) (hAa : ∀ q, wq_Ai a q → A q) (hc0 : cells + mc ≤ R.cells ∧ slots + ms ≤ R.slots) (hR : n + 1 ≤ R.frames ∧ 8 + (maxL + 11) + 40 * n ≤ R.locals) (hn : As.length = np) (hcat : (rest.map fun v => v.category).sum ≤ 8) (hcs : pre ++ csa' = cs') (hst : st0 = As.reverse ++ .ref a :: rest) (d : decode cc pc = .ok (.invokespecial idx, 3)) (hq : pc + 3 = q) (kk : wq_Y p l e R s m args below meth c D b nL A Q (cells + mc) (slots + ms) q L (rv.toList ++ rest) cs') : wq_Y p l e R s m args below meth c D b nL A Q cells slots pc L st0 cs := by
  subst hq
  subst hst
  subst hcs0
  subst hcs
  intro H locs ls hW hS hl
  have hts := F.2.2.2.2.1
  exact wy_go (va_runIN (Ts := wq_aw) (n := np) (ws := wq_ws (.code y bytes maxL none)) (As := As) (rest := rest) ⟨F.1, F.2.1, F.2.2.1, F.2.2.2.1, hts⟩ hM ⟨va_cnB (Ts := wq_aw) (ws' := wq_aw) np hts (fun w hw => (List.mem_cons.mp hw).elim (fun h => by subst h; exact ⟨hcode, good_of_word (wq_aw_good _ hcode)⟩) (fun h => ⟨h, good_of_word (wq_aw_good _ h)⟩)) rfl rfl rfl hnest (hts _ hini) hdd hR, hy1, hts _ hin⟩ ⟨wq_blindi _ _ _ _ _, fun U hU hW9 => ⟨rfl, by rw [hU]; exact wq_Xw_part hW ha, va_K.moved hW9.alike F.2.2.2.2.2.1, wq_cw_warm hW9 Kc⟩⟩ rfl hn hl.1 rfl (by show 2 * 0 + _ ≤ 8; omega) d hc0) hW ha hS hAa hl kk
theorem wy_callS (F : wq_Fr p s m args meth c cc nL ret own D Ar) (Kc : ∀ w ∈ wq_cw, va_Nw w s) {a : Nat} {csa csa' : List va_E} (lk : wq_LkS own idx y bytes maxL rt np) (hM : wq_Ci l y (.code y bytes maxL rt) n mc ms D Ar a As csa rv csa') (hcs0 : pre ++ csa = cs) (ha : a = b + pre.length) (hAa : ∀ q, wq_Ai a q → A q) (hc0 : cells + mc ≤ R.cells ∧ slots + ms ≤ R.slots) (hR : n + 1 ≤ R.frames ∧ 8 + (maxL + 11) + 40 * n ≤ R.locals) (hn : As.length = np) (hcat : (rest.map fun v => v.category).sum ≤ 8) (hcs : pre ++ csa' = cs') (hst : st0 = As.reverse ++ rest) (d : decode cc pc = .ok (.invokestatic idx, 3)) (hq : pc + 3 = q) (kk : wq_Y p l e R s m args below meth c D b nL A Q (cells + mc) (slots + ms) q L (rv.toList ++ rest) cs') : wq_Y p l e R s m args below meth c D b nL A Q cells slots pc L st0 cs := by
  subst hq
  subst hst
  subst hcs0
  subst hcs
  intro H locs ls hW hS hl
  have hts := F.2.2.2.2.1
  exact wy_go (va_runS (Ts := wq_aw) (n := np) (ws := wq_ws (.code y bytes maxL rt)) (As := As) (rest := rest) ⟨F.1, F.2.1, F.2.2.1, F.2.2.2.1, hts⟩ hM ⟨wq_callB hts lk.1 rfl rfl hR, hts _ lk.2⟩ ⟨wq_blindi _ _ _ _ _, fun U hU hW9 => ⟨rfl, by rw [hU]; exact wq_Xw_part hW ha, va_K.moved hW9.alike F.2.2.2.2.2.1, wq_cw_warm hW9 Kc⟩⟩ rfl hn hl.1 rfl (by show 2 * 0 + _ ≤ 8; omega) d hc0) hW ha hS hAa hl kk
theorem wy_vret (F : wq_Fr p s m args meth c cc nL none own D Ar) {a : Nat} (h : rv = none) (hcs : cs = cs') (hc : cells ≤ mc) (hs : slots ≤ ms) (d : decode cc pc = .ok (.return_, 1)) : wq_Y p l e R s m args below meth c D a nL (wq_Ai a) (MQ below (wq_Qi D a rv cs') args s mc ms (wq_Ai a)) cells slots pc L [] cs := by
  subst h
  subst hcs
  intro H locs ls hW hS hl
  exact W.widen hc hs (W.vret F.1 F.2.1 F.2.2.2.2.2.2.1 (fun t ht hW9 => ⟨rfl, by rw [ht]; exact hW, hS.F ht⟩) hS.2.2 d F.2.2.2.2.2.2.2)
theorem wy_aret {rt9 : FieldType} (F : wq_Fr p s m args meth c cc nL (some rt9) own D Ar) (hrt : (∃ n, rt9 = .object n) ∨ ∃ t, rt9 = .array t) {a x : Nat} (h : rv = some (.ref x)) (hcs : cs = cs') (hc : cells ≤ mc) (hs : slots ≤ ms) (d : decode cc pc = .ok (.areturn, 1)) : wq_Y p l e R s m args below meth c D a nL (wq_Ai a) (MQ below (wq_Qi D a rv cs') args s mc ms (wq_Ai a)) cells slots pc L [.ref x] cs := by
  subst h
  subst hcs
  intro H locs ls hW hS hl
  exact W.widen hc hs (W.aret (v := .ref x) F.1 F.2.1 F.2.2.2.2.2.2.1 hrt (Or.inr ⟨x, rfl⟩) (fun t ht hW9 => ⟨rfl, by rw [ht]; exact hW, hS.F ht⟩) hS.2.2 d F.2.2.2.2.2.2.2)
end WQI
