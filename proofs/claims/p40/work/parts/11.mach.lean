/-- what a method's walk stands on -/
def wq_Fr (p : Program) (s : State) (m : MethodId) (args : Array Value) (meth : Method) (c : Code) (cc : ByteArray) (nL : Nat) (ret : Option FieldType) (own : String) (D : va_G) (Ar : Nat → ClassId) : Prop :=
  p.tables.exec = Jvm.exec ∧ c.code = cc ∧ c.maxLocals = nL ∧ s.vm.findClass own = some m.cls ∧ (∀ w ∈ wq_aw, w.before args s = true) ∧ va_K D vwCl (wq_tys Ar) s ∧ meth.sig.returnType = ret ∧ meth.locks = false
/-- from every machine's state with these locals, this stack and this world the walk comes to Q -/
def wq_Z (p : Program) (l : Launch) (e : Env) (R : Room) (s : State) (m : MethodId) (args : Array Value) (below : List Frame) (meth : Method) (c : Code) (D : va_G) (E : (Nat → Int) → Nat → va_E) (b N nL : Nat) (A : Nat → Prop) (Q : State → Prop) (cells slots pc : Nat) (L : List (Option Value)) (st : List Value) (S : wq_St) : Prop :=
  ∀ (H : Heap) (locs : List Loc) (ls : Array Slot), wq_Wd D E b N S H → va_S A s.heap H locs → wq_has ls nL L → W p l e R s m args below meth c H locs cells slots Q (F0 m pc ls st)
section WQM
variable {p : Program} {l : Launch} {e : Env} {R : Room} {s : State} {m : MethodId} {args : Array Value} {below : List Frame} {meth : Method} {c : Code} {D : va_G} {Ar : Nat → ClassId} {E : (Nat → Int) → Nat → va_E} {b N nL : Nat} {A : Nat → Prop} {Q : State → Prop} {cells slots pc q : Nat} {L L' : List (Option Value)} {st : List Value} {S : wq_St}
variable {cc : ByteArray} {own : String} {ret : Option FieldType}
theorem wq_iconst (F : wq_Fr p s m args meth c cc nL ret own D Ar) {n : Int} (d : decode cc pc = .ok (.iconst n, 1))  (hq : pc + 1 = q) (kk : wq_Z p l e R s m args below meth c D E b N nL A Q cells slots q L (.int (wq_I n) :: st) S) : wq_Z p l e R s m args below meth c D E b N nL A Q cells slots pc L (st) S := by
  subst hq
  intro H locs ls hW hS hl
  exact lv_iconst F.1 F.2.1 d rfl (kk H locs ls hW hS hl)
theorem wq_bipush (F : wq_Fr p s m args meth c cc nL ret own D Ar) {n : Int} (d : decode cc pc = .ok (.bipush n, 2)) (hn : (Int8.ofInt n).toInt32 = wq_I n) (hq : pc + 2 = q) (kk : wq_Z p l e R s m args below meth c D E b N nL A Q cells slots q L (.int (wq_I n) :: st) S) : wq_Z p l e R s m args below meth c D E b N nL A Q cells slots pc L (st) S := by
  subst hq
  intro H locs ls hW hS hl
  exact lv_bipush F.1 F.2.1 d hn (kk H locs ls hW hS hl)
theorem wq_sipush (F : wq_Fr p s m args meth c cc nL ret own D Ar) {n : Int} (d : decode cc pc = .ok (.sipush n, 3)) (hn : (Int16.ofInt n).toInt32 = wq_I n) (hq : pc + 3 = q) (kk : wq_Z p l e R s m args below meth c D E b N nL A Q cells slots q L (.int (wq_I n) :: st) S) : wq_Z p l e R s m args below meth c D E b N nL A Q cells slots pc L (st) S := by
  subst hq
  intro H locs ls hW hS hl
  exact lv_sipush F.1 F.2.1 d hn (kk H locs ls hW hS hl)
theorem wq_lconst (F : wq_Fr p s m args meth c cc nL ret own D Ar) {n : Fin 2} {v : Int} (d : decode cc pc = .ok (.lconst n, 1)) (hn : Int64.ofNat (n : Nat) = wq_J v) (hq : pc + 1 = q) (kk : wq_Z p l e R s m args below meth c D E b N nL A Q cells slots q L (.long (wq_J v) :: st) S) : wq_Z p l e R s m args below meth c D E b N nL A Q cells slots pc L (st) S := by
  subst hq
  intro H locs ls hW hS hl
  exact lv_lconst F.1 F.2.1 d hn (kk H locs ls hW hS hl)
theorem wq_ldc2 (F : wq_Fr p s m args meth c cc nL ret own D Ar) {index : Nat} {v : Int} {v9 : Int64} (d : decode cc pc = .ok (.ldc2_w index, 3)) (hw : Cond.constantLong own index v9 ∈ wq_aw) (hv : v9 = wq_J v) (hq : pc + 3 = q) (kk : wq_Z p l e R s m args below meth c D E b N nL A Q cells slots q L (.long (wq_J v) :: st) S) : wq_Z p l e R s m args below meth c D E b N nL A Q cells slots pc L (st) S := by
  subst hq
  intro H locs ls hW hS hl
  subst hv
  exact lv_ldc2 F.1 F.2.1 F.2.2.2.1 (F.2.2.2.2.1 _ hw) d (kk H locs ls hW hS hl)
theorem wq_iload_n (F : wq_Fr p s m args meth c cc nL ret own D Ar) {k : Fin 4} {i : Nat} {x : Int32} (d : decode cc pc = .ok (.iload_n k, 1)) (hi : (k : Nat) = i) (hL : L[i]? = some (some (.int x))) (hq : pc + 1 = q) (kk : wq_Z p l e R s m args below meth c D E b N nL A Q cells slots q L (.int x :: st) S) : wq_Z p l e R s m args below meth c D E b N nL A Q cells slots pc L (st) S := by
  subst hq
  intro H locs ls hW hS hl
  exact lv_iload_n F.1 F.2.1 d hi (hl.2.2 i _ hL) (kk H locs ls hW hS hl)
theorem wq_iload (F : wq_Fr p s m args meth c cc nL ret own D Ar) {i : Nat} {x : Int32} (d : decode cc pc = .ok (.iload i, 2)) (hL : L[i]? = some (some (.int x))) (hq : pc + 2 = q) (kk : wq_Z p l e R s m args below meth c D E b N nL A Q cells slots q L (.int x :: st) S) : wq_Z p l e R s m args below meth c D E b N nL A Q cells slots pc L (st) S := by
  subst hq
  intro H locs ls hW hS hl
  exact lv_iload F.1 F.2.1 d (hl.2.2 i _ hL) (kk H locs ls hW hS hl)
theorem wq_istore_n (F : wq_Fr p s m args meth c cc nL ret own D Ar) {k : Fin 4} {i : Nat} {x : Int32} (d : decode cc pc = .ok (.istore_n k, 1)) (hi : (k : Nat) = i) (hn : i < nL) (hok : wq_ok L i = true) (hL : L.set i (some (.int x)) = L') (hq : pc + 1 = q) (kk : wq_Z p l e R s m args below meth c D E b N nL A Q cells slots q L' (st) S) : wq_Z p l e R s m args below meth c D E b N nL A Q cells slots pc L (.int x :: st) S := by
  subst hq
  intro H locs ls hW hS hl
  subst hL
  exact lv_istore_n F.1 F.2.1 d hi (wq_has_lv hl) hn rfl (fun ls2 h2 => kk H locs ls2 hW hS (wq_has1 hok h2))
theorem wq_istore (F : wq_Fr p s m args meth c cc nL ret own D Ar) {i : Nat} {x : Int32} (d : decode cc pc = .ok (.istore i, 2)) (hn : i < nL) (hok : wq_ok L i = true) (hL : L.set i (some (.int x)) = L') (hq : pc + 2 = q) (kk : wq_Z p l e R s m args below meth c D E b N nL A Q cells slots q L' (st) S) : wq_Z p l e R s m args below meth c D E b N nL A Q cells slots pc L (.int x :: st) S := by
  subst hq
  intro H locs ls hW hS hl
  subst hL
  exact lv_istore F.1 F.2.1 d (wq_has_lv hl) hn rfl (fun ls2 h2 => kk H locs ls2 hW hS (wq_has1 hok h2))
theorem wq_lload_n (F : wq_Fr p s m args meth c cc nL ret own D Ar) {k : Fin 4} {i : Nat} {x : Int64} (d : decode cc pc = .ok (.lload_n k, 1)) (hi : (k : Nat) = i) (hL : L[i]? = some (some (.long x))) (hq : pc + 1 = q) (kk : wq_Z p l e R s m args below meth c D E b N nL A Q cells slots q L (.long x :: st) S) : wq_Z p l e R s m args below meth c D E b N nL A Q cells slots pc L (st) S := by
  subst hq
  intro H locs ls hW hS hl
  exact lv_lload_n F.1 F.2.1 d hi (hl.2.2 i _ hL) (kk H locs ls hW hS hl)
theorem wq_lload (F : wq_Fr p s m args meth c cc nL ret own D Ar) {i : Nat} {x : Int64} (d : decode cc pc = .ok (.lload i, 2)) (hL : L[i]? = some (some (.long x))) (hq : pc + 2 = q) (kk : wq_Z p l e R s m args below meth c D E b N nL A Q cells slots q L (.long x :: st) S) : wq_Z p l e R s m args below meth c D E b N nL A Q cells slots pc L (st) S := by
  subst hq
  intro H locs ls hW hS hl
  exact lv_lload F.1 F.2.1 d (hl.2.2 i _ hL) (kk H locs ls hW hS hl)
theorem wq_lstore_n (F : wq_Fr p s m args meth c cc nL ret own D Ar) {k : Fin 4} {i : Nat} {x : Int64} (d : decode cc pc = .ok (.lstore_n k, 1)) (hi : (k : Nat) = i) (hn : i + 1 < nL) (hok : wq_ok L i = true) (hL : (L.set i (some (.long x))).set (i + 1) none = L') (hq : pc + 1 = q) (kk : wq_Z p l e R s m args below meth c D E b N nL A Q cells slots q L' (st) S) : wq_Z p l e R s m args below meth c D E b N nL A Q cells slots pc L (.long x :: st) S := by
  subst hq
  intro H locs ls hW hS hl
  subst hL
  exact lv_lstore_n F.1 F.2.1 d hi (wq_has_lv hl) hn rfl (fun ls2 h2 => kk H locs ls2 hW hS (wq_has2 hok h2))
theorem wq_lstore (F : wq_Fr p s m args meth c cc nL ret own D Ar) {i : Nat} {x : Int64} (d : decode cc pc = .ok (.lstore i, 2)) (hn : i + 1 < nL) (hok : wq_ok L i = true) (hL : (L.set i (some (.long x))).set (i + 1) none = L') (hq : pc + 2 = q) (kk : wq_Z p l e R s m args below meth c D E b N nL A Q cells slots q L' (st) S) : wq_Z p l e R s m args below meth c D E b N nL A Q cells slots pc L (.long x :: st) S := by
  subst hq
  intro H locs ls hW hS hl
  subst hL
  exact lv_lstore F.1 F.2.1 d (wq_has_lv hl) hn rfl (fun ls2 h2 => kk H locs ls2 hW hS (wq_has2 hok h2))
theorem wq_aload_n (F : wq_Fr p s m args meth c cc nL ret own D Ar) {k : Fin 4} {i : Nat} {x : Nat} (d : decode cc pc = .ok (.aload_n k, 1)) (hi : (k : Nat) = i) (hL : L[i]? = some (some (.ref x))) (hq : pc + 1 = q) (kk : wq_Z p l e R s m args below meth c D E b N nL A Q cells slots q L (.ref x :: st) S) : wq_Z p l e R s m args below meth c D E b N nL A Q cells slots pc L (st) S := by
  subst hq
  intro H locs ls hW hS hl
  exact lv_aload_n F.1 F.2.1 d hi (hl.2.2 i _ hL) (kk H locs ls hW hS hl)
theorem wq_aload (F : wq_Fr p s m args meth c cc nL ret own D Ar) {i : Nat} {x : Nat} (d : decode cc pc = .ok (.aload i, 2)) (hL : L[i]? = some (some (.ref x))) (hq : pc + 2 = q) (kk : wq_Z p l e R s m args below meth c D E b N nL A Q cells slots q L (.ref x :: st) S) : wq_Z p l e R s m args below meth c D E b N nL A Q cells slots pc L (st) S := by
  subst hq
  intro H locs ls hW hS hl
  exact lv_aload F.1 F.2.1 d (hl.2.2 i _ hL) (kk H locs ls hW hS hl)
theorem wq_astore_n (F : wq_Fr p s m args meth c cc nL ret own D Ar) {k : Fin 4} {i : Nat} {x : Nat} (d : decode cc pc = .ok (.astore_n k, 1)) (hi : (k : Nat) = i) (hn : i < nL) (hok : wq_ok L i = true) (hL : L.set i (some (.ref x)) = L') (hq : pc + 1 = q) (kk : wq_Z p l e R s m args below meth c D E b N nL A Q cells slots q L' (st) S) : wq_Z p l e R s m args below meth c D E b N nL A Q cells slots pc L (.ref x :: st) S := by
  subst hq
  intro H locs ls hW hS hl
  subst hL
  exact lv_astore_n F.1 F.2.1 d hi (wq_has_lv hl) hn rfl (fun ls2 h2 => kk H locs ls2 hW hS (wq_has1 hok h2))
theorem wq_astore (F : wq_Fr p s m args meth c cc nL ret own D Ar) {i : Nat} {x : Nat} (d : decode cc pc = .ok (.astore i, 2)) (hn : i < nL) (hok : wq_ok L i = true) (hL : L.set i (some (.ref x)) = L') (hq : pc + 2 = q) (kk : wq_Z p l e R s m args below meth c D E b N nL A Q cells slots q L' (st) S) : wq_Z p l e R s m args below meth c D E b N nL A Q cells slots pc L (.ref x :: st) S := by
  subst hq
  intro H locs ls hW hS hl
  subst hL
  exact lv_astore F.1 F.2.1 d (wq_has_lv hl) hn rfl (fun ls2 h2 => kk H locs ls2 hW hS (wq_has1 hok h2))
theorem wq_iinc (F : wq_Fr p s m args meth c cc nL ret own D Ar) {i : Nat} {n x : Int} (d : decode cc pc = .ok (.iinc i n, 3)) (hL0 : L[i]? = some (some (.int (wq_I x)))) (hn : i < nL) (hok : wq_ok L i = true) (hL : L.set i (some (.int (wq_I (x + n)))) = L') (hq : pc + 3 = q) (kk : wq_Z p l e R s m args below meth c D E b N nL A Q cells slots q L' st S) : wq_Z p l e R s m args below meth c D E b N nL A Q cells slots pc L st S := by
  subst hq
  intro H locs ls hW hS hl
  subst hL
  have hp := wq_in_pos L 0 i _ hL0
  rw [Nat.zero_add] at hp
  obtain ⟨k, hk⟩ := List.getElem?_of_mem hp
  exact lv_iinc F.1 F.2.1 d (wq_has_lv hl) hk (wq_I_add x n) hn rfl (fun ls2 h2 => kk H locs ls2 hW hS (wq_has1 hok h2))
theorem wq_namI {x y : Int} (h : y = x) (kk : wq_Z p l e R s m args below meth c D E b N nL A Q cells slots pc L (.int (wq_I y) :: st) S) : wq_Z p l e R s m args below meth c D E b N nL A Q cells slots pc L (.int (wq_I x) :: st) S := h ▸ kk
theorem wq_namL {x y : Int} (h : y = x) (kk : wq_Z p l e R s m args below meth c D E b N nL A Q cells slots pc L (.long (wq_J y) :: st) S) : wq_Z p l e R s m args below meth c D E b N nL A Q cells slots pc L (.long (wq_J x) :: st) S := h ▸ kk
theorem wq_namS {S9 : wq_St} (h : S9 = S) (kk : wq_Z p l e R s m args below meth c D E b N nL A Q cells slots pc L st S9) : wq_Z p l e R s m args below meth c D E b N nL A Q cells slots pc L st S := h ▸ kk
theorem wq_lsub (L' : List (Option Value)) (h : wq_sub L' L) (kk : wq_Z p l e R s m args below meth c D E b N nL A Q cells slots pc L' st S) : wq_Z p l e R s m args below meth c D E b N nL A Q cells slots pc L st S := fun H locs ls hW hS hl => kk H locs ls hW hS (wq_less hl (wq_sub_at L' L h))
theorem wq_stk {st' : List Value} (h : st = st') (kk : wq_Z p l e R s m args below meth c D E b N nL A Q cells slots pc L st' S) : wq_Z p l e R s m args below meth c D E b N nL A Q cells slots pc L st S := h ▸ kk
theorem wq_wid {k n : Nat} (h1 : cells ≤ k) (h2 : slots ≤ n) (kk : wq_Z p l e R s m args below meth c D E b N nL A Q k n pc L st S) : wq_Z p l e R s m args below meth c D E b N nL A Q cells slots pc L st S := fun H locs ls hW hS hl => W.widen h1 h2 (kk H locs ls hW hS hl)
theorem wq_iadd (F : wq_Fr p s m args meth c cc nL ret own D Ar) {x y : Int}  (d : decode cc pc = .ok (.iadd, 1))  (hq : pc + 1 = q) (kk : wq_Z p l e R s m args below meth c D E b N nL A Q cells slots q L (.int (wq_I (x + y)) :: st) S) : wq_Z p l e R s m args below meth c D E b N nL A Q cells slots pc L (.int (wq_I y) :: .int (wq_I x) :: st) S := by
  subst hq
  intro H locs ls hW hS hl
  refine lv_iadd F.1 F.2.1 d  ?_
  rw [wq_I_add]
  exact kk H locs ls hW hS hl
theorem wq_isub (F : wq_Fr p s m args meth c cc nL ret own D Ar) {x y : Int}  (d : decode cc pc = .ok (.isub, 1))  (hq : pc + 1 = q) (kk : wq_Z p l e R s m args below meth c D E b N nL A Q cells slots q L (.int (wq_I (x - y)) :: st) S) : wq_Z p l e R s m args below meth c D E b N nL A Q cells slots pc L (.int (wq_I y) :: .int (wq_I x) :: st) S := by
  subst hq
  intro H locs ls hW hS hl
  refine lv_isub F.1 F.2.1 d  ?_
  rw [wq_I_sub]
  exact kk H locs ls hW hS hl
theorem wq_imul (F : wq_Fr p s m args meth c cc nL ret own D Ar) {x y : Int}  (d : decode cc pc = .ok (.imul, 1))  (hq : pc + 1 = q) (kk : wq_Z p l e R s m args below meth c D E b N nL A Q cells slots q L (.int (wq_I (x * y)) :: st) S) : wq_Z p l e R s m args below meth c D E b N nL A Q cells slots pc L (.int (wq_I y) :: .int (wq_I x) :: st) S := by
  subst hq
  intro H locs ls hW hS hl
  refine lv_imul F.1 F.2.1 d  ?_
  rw [wq_I_mul]
  exact kk H locs ls hW hS hl
theorem wq_ladd (F : wq_Fr p s m args meth c cc nL ret own D Ar) {x y : Int}  (d : decode cc pc = .ok (.ladd, 1))  (hq : pc + 1 = q) (kk : wq_Z p l e R s m args below meth c D E b N nL A Q cells slots q L (.long (wq_J (x + y)) :: st) S) : wq_Z p l e R s m args below meth c D E b N nL A Q cells slots pc L (.long (wq_J y) :: .long (wq_J x) :: st) S := by
  subst hq
  intro H locs ls hW hS hl
  refine lv_ladd F.1 F.2.1 d  ?_
  rw [wq_J_add]
  exact kk H locs ls hW hS hl
theorem wq_lsub_ (F : wq_Fr p s m args meth c cc nL ret own D Ar) {x y : Int}  (d : decode cc pc = .ok (.lsub, 1))  (hq : pc + 1 = q) (kk : wq_Z p l e R s m args below meth c D E b N nL A Q cells slots q L (.long (wq_J (x - y)) :: st) S) : wq_Z p l e R s m args below meth c D E b N nL A Q cells slots pc L (.long (wq_J y) :: .long (wq_J x) :: st) S := by
  subst hq
  intro H locs ls hW hS hl
  refine lv_lsub F.1 F.2.1 d  ?_
  rw [wq_J_sub]
  exact kk H locs ls hW hS hl
theorem wq_lmul (F : wq_Fr p s m args meth c cc nL ret own D Ar) {x y : Int}  (d : decode cc pc = .ok (.lmul, 1))  (hq : pc + 1 = q) (kk : wq_Z p l e R s m args below meth c D E b N nL A Q cells slots q L (.long (wq_J (x * y)) :: st) S) : wq_Z p l e R s m args below meth c D E b N nL A Q cells slots pc L (.long (wq_J y) :: .long (wq_J x) :: st) S := by
  subst hq
  intro H locs ls hW hS hl
  refine lv_lmul F.1 F.2.1 d  ?_
  rw [wq_J_mul]
  exact kk H locs ls hW hS hl
theorem wq_idiv (F : wq_Fr p s m args meth c cc nL ret own D Ar) {x y : Int} (hy : ¬ wq_w y = 0) (d : decode cc pc = .ok (.idiv, 1))  (hq : pc + 1 = q) (kk : wq_Z p l e R s m args below meth c D E b N nL A Q cells slots q L (.int (wq_I (wq_div x y)) :: st) S) : wq_Z p l e R s m args below meth c D E b N nL A Q cells slots pc L (.int (wq_I y) :: .int (wq_I x) :: st) S := by
  subst hq
  intro H locs ls hW hS hl
  refine lv_idiv F.1 F.2.1 d (by rw [show (0 : Int32) = wq_I 0 from rfl, wq_I_eq]; exact hy) ?_
  rw [wq_I_div]
  exact kk H locs ls hW hS hl
theorem wq_ldiv (F : wq_Fr p s m args meth c cc nL ret own D Ar) {x y : Int} (hy : ¬ wq_v y = 0) (d : decode cc pc = .ok (.ldiv, 1))  (hq : pc + 1 = q) (kk : wq_Z p l e R s m args below meth c D E b N nL A Q cells slots q L (.long (wq_J (wq_divL x y)) :: st) S) : wq_Z p l e R s m args below meth c D E b N nL A Q cells slots pc L (.long (wq_J y) :: .long (wq_J x) :: st) S := by
  subst hq
  intro H locs ls hW hS hl
  refine lv_ldiv F.1 F.2.1 d (by rw [show (0 : Int64) = wq_J 0 from rfl, wq_J_eq]; exact hy) ?_
  rw [wq_J_div]
  exact kk H locs ls hW hS hl
theorem wq_irem (F : wq_Fr p s m args meth c cc nL ret own D Ar) {x y : Int} (hy : ¬ wq_w y = 0) (d : decode cc pc = .ok (.irem, 1))  (hq : pc + 1 = q) (kk : wq_Z p l e R s m args below meth c D E b N nL A Q cells slots q L (.int (wq_I (wq_rem x y)) :: st) S) : wq_Z p l e R s m args below meth c D E b N nL A Q cells slots pc L (.int (wq_I y) :: .int (wq_I x) :: st) S := by
  subst hq
  intro H locs ls hW hS hl
  refine lv_irem F.1 F.2.1 d (by rw [show (0 : Int32) = wq_I 0 from rfl, wq_I_eq]; exact hy) ?_
  rw [wq_I_div, wq_I_mul, wq_I_sub]
  exact kk H locs ls hW hS hl
theorem wq_iand (F : wq_Fr p s m args meth c cc nL ret own D Ar) {x y : Int} (d : decode cc pc = .ok (.iand, 1))  (hq : pc + 1 = q) (kk : wq_Z p l e R s m args below meth c D E b N nL A Q cells slots q L (.int (wq_I (wq_and x y)) :: st) S) : wq_Z p l e R s m args below meth c D E b N nL A Q cells slots pc L (.int (wq_I y) :: .int (wq_I x) :: st) S := by
  subst hq
  intro H locs ls hW hS hl
  refine lv_iand F.1 F.2.1 d ?_
  have h := kk H locs ls hW hS hl
  rw [show wq_I (wq_and x y) = _ from wq_I_of _] at h
  exact h
theorem wq_ior (F : wq_Fr p s m args meth c cc nL ret own D Ar) {x y : Int} (d : decode cc pc = .ok (.ior, 1))  (hq : pc + 1 = q) (kk : wq_Z p l e R s m args below meth c D E b N nL A Q cells slots q L (.int (wq_I (wq_or x y)) :: st) S) : wq_Z p l e R s m args below meth c D E b N nL A Q cells slots pc L (.int (wq_I y) :: .int (wq_I x) :: st) S := by
  subst hq
  intro H locs ls hW hS hl
  refine lv_ior F.1 F.2.1 d ?_
  have h := kk H locs ls hW hS hl
  rw [show wq_I (wq_or x y) = _ from wq_I_of _] at h
  exact h
theorem wq_ishl (F : wq_Fr p s m args meth c cc nL ret own D Ar) {x y : Int} (d : decode cc pc = .ok (.ishl, 1))  (hq : pc + 1 = q) (kk : wq_Z p l e R s m args below meth c D E b N nL A Q cells slots q L (.int (wq_I (wq_shl x y)) :: st) S) : wq_Z p l e R s m args below meth c D E b N nL A Q cells slots pc L (.int (wq_I y) :: .int (wq_I x) :: st) S := by
  subst hq
  intro H locs ls hW hS hl
  refine lv_ishl F.1 F.2.1 d ?_
  have h := kk H locs ls hW hS hl
  rw [show wq_I (wq_shl x y) = _ from wq_I_of _] at h
  exact h
theorem wq_ishr (F : wq_Fr p s m args meth c cc nL ret own D Ar) {x y : Int} (d : decode cc pc = .ok (.ishr, 1))  (hq : pc + 1 = q) (kk : wq_Z p l e R s m args below meth c D E b N nL A Q cells slots q L (.int (wq_I (wq_shr x y)) :: st) S) : wq_Z p l e R s m args below meth c D E b N nL A Q cells slots pc L (.int (wq_I y) :: .int (wq_I x) :: st) S := by
  subst hq
  intro H locs ls hW hS hl
  refine lv_ishr F.1 F.2.1 d ?_
  have h := kk H locs ls hW hS hl
  rw [show wq_I (wq_shr x y) = _ from wq_I_of _] at h
  exact h
theorem wq_i2l_ (F : wq_Fr p s m args meth c cc nL ret own D Ar) {x : Int} (d : decode cc pc = .ok (.i2l, 1))  (hq : pc + 1 = q) (kk : wq_Z p l e R s m args below meth c D E b N nL A Q cells slots q L (.long (wq_J (wq_w x)) :: st) S) : wq_Z p l e R s m args below meth c D E b N nL A Q cells slots pc L (.int (wq_I x) :: st) S := by
  subst hq
  intro H locs ls hW hS hl
  exact lv_i2l F.1 F.2.1 d (wq_i2l x) (kk H locs ls hW hS hl)
theorem wq_l2i_ (F : wq_Fr p s m args meth c cc nL ret own D Ar) {x : Int} (d : decode cc pc = .ok (.l2i, 1))  (hq : pc + 1 = q) (kk : wq_Z p l e R s m args below meth c D E b N nL A Q cells slots q L (.int (wq_I x) :: st) S) : wq_Z p l e R s m args below meth c D E b N nL A Q cells slots pc L (.long (wq_J x) :: st) S := by
  subst hq
  intro H locs ls hW hS hl
  exact lv_l2i F.1 F.2.1 d (wq_l2i x) (kk H locs ls hW hS hl)
theorem wq_lcmp (F : wq_Fr p s m args meth c cc nL ret own D Ar) {x y : Int} (d : decode cc pc = .ok (.lcmp, 1))  (hq : pc + 1 = q) (kk : wq_Z p l e R s m args below meth c D E b N nL A Q cells slots q L (.int (wq_I (wq_cmp x y)) :: st) S) : wq_Z p l e R s m args below meth c D E b N nL A Q cells slots pc L (.long (wq_J y) :: .long (wq_J x) :: st) S := by
  subst hq
  intro H locs ls hW hS hl
  refine W.lcmp F.1 F.2.1 d ?_
  have h := kk H locs ls hW hS hl
  have e9 : wq_I (wq_cmp x y) = lg_cmp (wq_J x) (wq_J y) := by
    unfold wq_cmp lg_cmp
    simp only [wq_J_lt, wq_J_eq]
    (repeat' split) <;> first | rfl | omega
  rw [e9] at h
  exact h
theorem wq_dup1 (F : wq_Fr p s m args meth c cc nL ret own D Ar) {v : Value} (hv : v.category = 1) (d : decode cc pc = .ok (.dup, 1))  (hq : pc + 1 = q) (kk : wq_Z p l e R s m args below meth c D E b N nL A Q cells slots q L (v :: v :: st) S) : wq_Z p l e R s m args below meth c D E b N nL A Q cells slots pc L (v :: st) S := by
  subst hq
  intro H locs ls hW hS hl
  exact lv_dup F.1 F.2.1 d hv (kk H locs ls hW hS hl)
theorem wq_dup22 (F : wq_Fr p s m args meth c cc nL ret own D Ar) {v : Value} (hv : v.category = 2) (d : decode cc pc = .ok (.dup2, 1))  (hq : pc + 1 = q) (kk : wq_Z p l e R s m args below meth c D E b N nL A Q cells slots q L (v :: v :: st) S) : wq_Z p l e R s m args below meth c D E b N nL A Q cells slots pc L (v :: st) S := by
  subst hq
  intro H locs ls hW hS hl
  exact lv_dup2_2 F.1 F.2.1 d hv (kk H locs ls hW hS hl)
theorem wq_dup211 (F : wq_Fr p s m args meth c cc nL ret own D Ar) {va vb : Value} (hva : va.category = 1) (hvb : vb.category = 1) (d : decode cc pc = .ok (.dup2, 1))  (hq : pc + 1 = q) (kk : wq_Z p l e R s m args below meth c D E b N nL A Q cells slots q L (va :: vb :: va :: vb :: st) S) : wq_Z p l e R s m args below meth c D E b N nL A Q cells slots pc L (va :: vb :: st) S := by
  subst hq
  intro H locs ls hW hS hl
  exact lv_dup2_11 F.1 F.2.1 d hva hvb (kk H locs ls hW hS hl)
theorem wq_pop1 (F : wq_Fr p s m args meth c cc nL ret own D Ar) {v : Value} (hv : v.category = 1) (d : decode cc pc = .ok (.pop, 1))  (hq : pc + 1 = q) (kk : wq_Z p l e R s m args below meth c D E b N nL A Q cells slots q L (st) S) : wq_Z p l e R s m args below meth c D E b N nL A Q cells slots pc L (v :: st) S := by
  subst hq
  intro H locs ls hW hS hl
  exact lv_pop F.1 F.2.1 d hv (kk H locs ls hW hS hl)
theorem wq_icmp_eq (F : wq_Fr p s m args meth c cc nL ret own D Ar) {x y off : Int} {tgt : Nat} (d : decode cc pc = .ok (.if_icmp .eq off, 3)) (ht : (pc : Int) + off = (tgt : Int)) (hq : pc + 3 = q) (kt : wq_w x = wq_w y → wq_Z p l e R s m args below meth c D E b N nL A Q cells slots tgt L st S) (kf : ¬ (wq_w x = wq_w y) → wq_Z p l e R s m args below meth c D E b N nL A Q cells slots q L st S) : wq_Z p l e R s m args below meth c D E b N nL A Q cells slots pc L (.int (wq_I y) :: .int (wq_I x) :: st) S := by
  subst hq
  intro H locs ls hW hS hl
  exact lv_icmp_eq F.1 F.2.1 d ht (fun h => kt ((wq_I_eq x y).mp h) H locs ls hW hS hl) (fun h => kf (fun h2 => h ((wq_I_eq x y).mpr h2)) H locs ls hW hS hl)
theorem wq_if_eq (F : wq_Fr p s m args meth c cc nL ret own D Ar) {x off : Int} {tgt : Nat} (d : decode cc pc = .ok (.ifCond .eq off, 3)) (ht : (pc : Int) + off = (tgt : Int)) (hq : pc + 3 = q) (kt : wq_w x = (0 : Int) → wq_Z p l e R s m args below meth c D E b N nL A Q cells slots tgt L st S) (kf : ¬ (wq_w x = (0 : Int)) → wq_Z p l e R s m args below meth c D E b N nL A Q cells slots q L st S) : wq_Z p l e R s m args below meth c D E b N nL A Q cells slots pc L (.int (wq_I x) :: st) S := by
  subst hq
  intro H locs ls hW hS hl
  exact lv_if_eq F.1 F.2.1 d ht (fun h => kt ((wq_I_eq x 0).mp h) H locs ls hW hS hl) (fun h => kf (fun h2 => h ((wq_I_eq x 0).mpr h2)) H locs ls hW hS hl)
theorem wq_icmp_ne (F : wq_Fr p s m args meth c cc nL ret own D Ar) {x y off : Int} {tgt : Nat} (d : decode cc pc = .ok (.if_icmp .ne off, 3)) (ht : (pc : Int) + off = (tgt : Int)) (hq : pc + 3 = q) (kt : ¬ wq_w x = wq_w y → wq_Z p l e R s m args below meth c D E b N nL A Q cells slots tgt L st S) (kf : wq_w x = wq_w y → wq_Z p l e R s m args below meth c D E b N nL A Q cells slots q L st S) : wq_Z p l e R s m args below meth c D E b N nL A Q cells slots pc L (.int (wq_I y) :: .int (wq_I x) :: st) S := by
  subst hq
  intro H locs ls hW hS hl
  exact lv_icmp_ne F.1 F.2.1 d ht (fun h => kt ((not_congr (wq_I_eq x y)).mp h) H locs ls hW hS hl) (fun h => kf ((wq_I_eq x y).mp h) H locs ls hW hS hl)
theorem wq_if_ne (F : wq_Fr p s m args meth c cc nL ret own D Ar) {x off : Int} {tgt : Nat} (d : decode cc pc = .ok (.ifCond .ne off, 3)) (ht : (pc : Int) + off = (tgt : Int)) (hq : pc + 3 = q) (kt : ¬ wq_w x = (0 : Int) → wq_Z p l e R s m args below meth c D E b N nL A Q cells slots tgt L st S) (kf : wq_w x = (0 : Int) → wq_Z p l e R s m args below meth c D E b N nL A Q cells slots q L st S) : wq_Z p l e R s m args below meth c D E b N nL A Q cells slots pc L (.int (wq_I x) :: st) S := by
  subst hq
  intro H locs ls hW hS hl
  exact lv_if_ne F.1 F.2.1 d ht (fun h => kt ((not_congr (wq_I_eq x 0)).mp h) H locs ls hW hS hl) (fun h => kf ((wq_I_eq x 0).mp h) H locs ls hW hS hl)
theorem wq_icmp_lt (F : wq_Fr p s m args meth c cc nL ret own D Ar) {x y off : Int} {tgt : Nat} (d : decode cc pc = .ok (.if_icmp .lt off, 3)) (ht : (pc : Int) + off = (tgt : Int)) (hq : pc + 3 = q) (kt : wq_w x < wq_w y → wq_Z p l e R s m args below meth c D E b N nL A Q cells slots tgt L st S) (kf : ¬ (wq_w x < wq_w y) → wq_Z p l e R s m args below meth c D E b N nL A Q cells slots q L st S) : wq_Z p l e R s m args below meth c D E b N nL A Q cells slots pc L (.int (wq_I y) :: .int (wq_I x) :: st) S := by
  subst hq
  intro H locs ls hW hS hl
  exact lv_icmp_lt F.1 F.2.1 d ht (fun h => kt ((wq_I_lt x y).mp h) H locs ls hW hS hl) (fun h => kf (fun h2 => h ((wq_I_lt x y).mpr h2)) H locs ls hW hS hl)
theorem wq_if_lt (F : wq_Fr p s m args meth c cc nL ret own D Ar) {x off : Int} {tgt : Nat} (d : decode cc pc = .ok (.ifCond .lt off, 3)) (ht : (pc : Int) + off = (tgt : Int)) (hq : pc + 3 = q) (kt : wq_w x < 0 → wq_Z p l e R s m args below meth c D E b N nL A Q cells slots tgt L st S) (kf : ¬ (wq_w x < 0) → wq_Z p l e R s m args below meth c D E b N nL A Q cells slots q L st S) : wq_Z p l e R s m args below meth c D E b N nL A Q cells slots pc L (.int (wq_I x) :: st) S := by
  subst hq
  intro H locs ls hW hS hl
  exact lv_if_lt F.1 F.2.1 d ht (fun h => kt ((wq_I_lt x 0).mp h) H locs ls hW hS hl) (fun h => kf (fun h2 => h ((wq_I_lt x 0).mpr h2)) H locs ls hW hS hl)
theorem wq_icmp_ge (F : wq_Fr p s m args meth c cc nL ret own D Ar) {x y off : Int} {tgt : Nat} (d : decode cc pc = .ok (.if_icmp .ge off, 3)) (ht : (pc : Int) + off = (tgt : Int)) (hq : pc + 3 = q) (kt : wq_w y ≤ wq_w x → wq_Z p l e R s m args below meth c D E b N nL A Q cells slots tgt L st S) (kf : ¬ (wq_w y ≤ wq_w x) → wq_Z p l e R s m args below meth c D E b N nL A Q cells slots q L st S) : wq_Z p l e R s m args below meth c D E b N nL A Q cells slots pc L (.int (wq_I y) :: .int (wq_I x) :: st) S := by
  subst hq
  intro H locs ls hW hS hl
  exact lv_icmp_ge F.1 F.2.1 d ht (fun h => kt ((wq_I_le y x).mp h) H locs ls hW hS hl) (fun h => kf (fun h2 => h ((wq_I_le y x).mpr h2)) H locs ls hW hS hl)
theorem wq_if_ge (F : wq_Fr p s m args meth c cc nL ret own D Ar) {x off : Int} {tgt : Nat} (d : decode cc pc = .ok (.ifCond .ge off, 3)) (ht : (pc : Int) + off = (tgt : Int)) (hq : pc + 3 = q) (kt : 0 ≤ wq_w x → wq_Z p l e R s m args below meth c D E b N nL A Q cells slots tgt L st S) (kf : ¬ (0 ≤ wq_w x) → wq_Z p l e R s m args below meth c D E b N nL A Q cells slots q L st S) : wq_Z p l e R s m args below meth c D E b N nL A Q cells slots pc L (.int (wq_I x) :: st) S := by
  subst hq
  intro H locs ls hW hS hl
  exact lv_if_ge F.1 F.2.1 d ht (fun h => kt ((wq_I_le 0 x).mp h) H locs ls hW hS hl) (fun h => kf (fun h2 => h ((wq_I_le 0 x).mpr h2)) H locs ls hW hS hl)
theorem wq_icmp_gt (F : wq_Fr p s m args meth c cc nL ret own D Ar) {x y off : Int} {tgt : Nat} (d : decode cc pc = .ok (.if_icmp .gt off, 3)) (ht : (pc : Int) + off = (tgt : Int)) (hq : pc + 3 = q) (kt : wq_w y < wq_w x → wq_Z p l e R s m args below meth c D E b N nL A Q cells slots tgt L st S) (kf : ¬ (wq_w y < wq_w x) → wq_Z p l e R s m args below meth c D E b N nL A Q cells slots q L st S) : wq_Z p l e R s m args below meth c D E b N nL A Q cells slots pc L (.int (wq_I y) :: .int (wq_I x) :: st) S := by
  subst hq
  intro H locs ls hW hS hl
  exact lv_icmp_gt F.1 F.2.1 d ht (fun h => kt ((wq_I_lt y x).mp h) H locs ls hW hS hl) (fun h => kf (fun h2 => h ((wq_I_lt y x).mpr h2)) H locs ls hW hS hl)
theorem wq_if_gt (F : wq_Fr p s m args meth c cc nL ret own D Ar) {x off : Int} {tgt : Nat} (d : decode cc pc = .ok (.ifCond .gt off, 3)) (ht : (pc : Int) + off = (tgt : Int)) (hq : pc + 3 = q) (kt : 0 < wq_w x → wq_Z p l e R s m args below meth c D E b N nL A Q cells slots tgt L st S) (kf : ¬ (0 < wq_w x) → wq_Z p l e R s m args below meth c D E b N nL A Q cells slots q L st S) : wq_Z p l e R s m args below meth c D E b N nL A Q cells slots pc L (.int (wq_I x) :: st) S := by
  subst hq
  intro H locs ls hW hS hl
  exact lv_if_gt F.1 F.2.1 d ht (fun h => kt ((wq_I_lt 0 x).mp h) H locs ls hW hS hl) (fun h => kf (fun h2 => h ((wq_I_lt 0 x).mpr h2)) H locs ls hW hS hl)
theorem wq_icmp_le (F : wq_Fr p s m args meth c cc nL ret own D Ar) {x y off : Int} {tgt : Nat} (d : decode cc pc = .ok (.if_icmp .le off, 3)) (ht : (pc : Int) + off = (tgt : Int)) (hq : pc + 3 = q) (kt : wq_w x ≤ wq_w y → wq_Z p l e R s m args below meth c D E b N nL A Q cells slots tgt L st S) (kf : ¬ (wq_w x ≤ wq_w y) → wq_Z p l e R s m args below meth c D E b N nL A Q cells slots q L st S) : wq_Z p l e R s m args below meth c D E b N nL A Q cells slots pc L (.int (wq_I y) :: .int (wq_I x) :: st) S := by
  subst hq
  intro H locs ls hW hS hl
  exact lv_icmp_le F.1 F.2.1 d ht (fun h => kt ((wq_I_le x y).mp h) H locs ls hW hS hl) (fun h => kf (fun h2 => h ((wq_I_le x y).mpr h2)) H locs ls hW hS hl)
theorem wq_if_le (F : wq_Fr p s m args meth c cc nL ret own D Ar) {x off : Int} {tgt : Nat} (d : decode cc pc = .ok (.ifCond .le off, 3)) (ht : (pc : Int) + off = (tgt : Int)) (hq : pc + 3 = q) (kt : wq_w x ≤ 0 → wq_Z p l e R s m args below meth c D E b N nL A Q cells slots tgt L st S) (kf : ¬ (wq_w x ≤ 0) → wq_Z p l e R s m args below meth c D E b N nL A Q cells slots q L st S) : wq_Z p l e R s m args below meth c D E b N nL A Q cells slots pc L (.int (wq_I x) :: st) S := by
  subst hq
  intro H locs ls hW hS hl
  exact lv_if_le F.1 F.2.1 d ht (fun h => kt ((wq_I_le x 0).mp h) H locs ls hW hS hl) (fun h => kf (fun h2 => h ((wq_I_le x 0).mpr h2)) H locs ls hW hS hl)
theorem wq_goto (F : wq_Fr p s m args meth c cc nL ret own D Ar) {off : Int} {tgt : Nat} (d : decode cc pc = .ok (.goto off, 3)) (ht : (pc : Int) + off = (tgt : Int)) (kk : wq_Z p l e R s m args below meth c D E b N nL A Q cells slots tgt L st S) : wq_Z p l e R s m args below meth c D E b N nL A Q cells slots pc L st S := fun H locs ls hW hS hl => lv_goto F.1 F.2.1 d ht (kk H locs ls hW hS hl)
theorem wq_tableIn (F : wq_Fr p s m args meth c cc nL ret own D Ar) {dflt lo hi : Int} {offs : Array Int} {len : Nat} {x off : Int} {tgt : Nat} (d : decode cc pc = .ok (.tableswitch dflt lo hi offs, len)) (h1 : ¬ wq_w x < lo) (h2 : ¬ hi < wq_w x) (ho : offs[(wq_w x - lo).toNat]? = some off) (ht : (pc : Int) + off = (tgt : Int)) (kk : wq_Z p l e R s m args below meth c D E b N nL A Q cells slots tgt L st S) : wq_Z p l e R s m args below meth c D E b N nL A Q cells slots pc L (.int (wq_I x) :: st) S := fun H locs ls hW hS hl => lv_tableIn F.1 F.2.1 d h1 h2 ho ht (kk H locs ls hW hS hl)
theorem wq_tableOut (F : wq_Fr p s m args meth c cc nL ret own D Ar) {dflt lo hi : Int} {offs : Array Int} {len : Nat} {x : Int} {tgt : Nat} (d : decode cc pc = .ok (.tableswitch dflt lo hi offs, len)) (h : wq_w x < lo ∨ hi < wq_w x) (ht : (pc : Int) + dflt = (tgt : Int)) (kk : wq_Z p l e R s m args below meth c D E b N nL A Q cells slots tgt L st S) : wq_Z p l e R s m args below meth c D E b N nL A Q cells slots pc L (.int (wq_I x) :: st) S := fun H locs ls hW hS hl => lv_tableOut F.1 F.2.1 d h ht (kk H locs ls hW hS hl)
theorem wq_Wd_set {S' : wq_St} {H H1 : Heap} {k : Nat} (hW : wq_Wd D E b N S H) (hk : va_at D vwCl (b + k, E (S' k) k) H1) (hS' : ∀ k' : Nat, k' ≠ k → S' k' = S k') (oq : ∀ q : Nat, q ≠ b + k → H1[q]? = H[q]?) : wq_Wd D E b N S' H1 := by
  intro k' hk'
  by_cases e9 : k' = k
  · subst e9
    exact hk
  · rw [hS' k' e9]
    exact (hW k' hk').kept (oq (b + k') (by omega))
theorem wq_set_row (S : wq_St) (k j : Nat) (v : Int) : ∀ k' : Nat, k' ≠ k → wq_set S k j v k' = S k' := by
  intro k' h
  funext i
  unfold wq_set
  rw [if_neg (fun h2 => h h2.1)]
theorem wq_set_eq (S : wq_St) (k j : Nat) (v : Int) : wq_set S k j v k = fun i => if i = j then v else S k i := by
  funext i
  unfold wq_set
  by_cases h : i = j
  · rw [if_pos ⟨rfl, h⟩, if_pos h]
  · rw [if_neg (fun h2 => h h2.2), if_neg h]
theorem wq_getf (F : wq_Fr p s m args meth c cc nL ret own D Ar) {ref C : String} {T : u_T} {n ci index k j : Nat} {fs : List Value} {v : Value} (hin : ∀ w ∈ u_ws C T n, w ∈ wq_aw) (hc : vwCl[ci]? = some (C, T, n)) (hj : j < n) (hlink : Cond.fieldLink own index ref (T j).2.1 (T j).2.2.1 ∈ wq_aw) (hsame : ∀ x, s.fieldFound? (T j).1 (T j).2.1 (T j).2.2.1 = some x → s.fieldFound? ref (T j).2.1 (T j).2.2.1 = some x) (hk : k < N) (hE : E (S k) k = .inr (ci, fs)) (hv : fs[j]? = some v) (d : decode cc pc = .ok (.getfield index, 3)) (hq : pc + 3 = q) (kk : wq_Z p l e R s m args below meth c D E b N nL A Q cells slots q L (v :: st) S) : wq_Z p l e R s m args below meth c D E b N nL A Q cells slots pc L (.ref (b + k) :: st) S := by
  subst hq
  intro H locs ls hW hS hl
  have hP : va_P D vwCl [(b + k, .inr (ci, fs))] H := by
    intro i x hx
    match i, hx with
    | 0, hx =>
      cases hx
      have h := hW k hk
      rw [hE] at h
      exact h
  exact va_get (ws := [(b + k, .inr (ci, fs))]) F.1 F.2.1 F.2.2.2.2.1 hin F.2.2.2.1 F.2.2.2.2.2.1 hP 0 rfl hc j hj (F.2.2.2.2.1 _ hlink) hsame hv d (kk H locs ls hW hS hl)
theorem wq_putf (F : wq_Fr p s m args meth c cc nL ret own D Ar) {ref C : String} {T : u_T} {n ci index k j : Nat} {fs : List Value} {ty : FieldType} {v : Value} {S' : wq_St} (hin : ∀ w ∈ u_ws C T n, w ∈ wq_aw) (hc : vwCl[ci]? = some (C, T, n)) (ty0 : Nat → FieldType) (hty : ∀ k, k < n → parseFieldDescriptor (T k).2.2.1 = some (ty0 k)) (hnm : ∀ a, a < n → ∀ b, b < n → a ≠ b → (T a).2.1 ≠ (T b).2.1) (hj : j < n) (hlink : Cond.fieldLink own index ref (T j).2.1 (T j).2.2.1 ∈ wq_aw) (hsame : ∀ x, s.fieldFound? (T j).1 (T j).2.1 (T j).2.2.1 = some x → s.fieldFound? ref (T j).2.1 (T j).2.2.1 = some x) (hfin : (T j).2.2.2 = false) (hd : parseFieldDescriptor (T j).2.2.1 = some ty) (hn : narrow ty v = v) (hfit : fits ty v = true) (hl0 : j < fs.length) (hk : k < N) (hE : E (S k) k = .inr (ci, fs)) (hE' : E (S' k) k = .inr (ci, fs.set j v)) (hS' : ∀ k' : Nat, k' ≠ k → S' k' = S k') (hA : A (b + k)) (d : decode cc pc = .ok (.putfield index, 3)) (hq : pc + 3 = q) (kk : wq_Z p l e R s m args below meth c D E b N nL A Q cells slots q L st S') : wq_Z p l e R s m args below meth c D E b N nL A Q cells slots pc L (v :: .ref (b + k) :: st) S := by
  subst hq
  intro H locs ls hW hS hl
  have hts := F.2.2.2.2.1
  have hK := F.2.2.2.2.2.1
  have hap := va_apart (own := own) hts hin ty0 hty hnm hK hc
  have h0 := hW k hk
  rw [hE] at h0
  obtain ⟨r, h1, cell, q1, q2, q3, q4⟩ := h0
  have hr : r = (C, T, n) := Option.some.inj (h1.symm.trans hc)
  subst hr
  obtain ⟨hSl, hfc, kC, hkC, hkind⟩ := hK.1 ci _ hc
  obtain ⟨cf, kf, fi, f, hi, hsl⟩ := hSl j hj
  have hlay := hts _ (hin _ (u_in_lay hj))
  unfold u_lay at hlay
  rw [if_neg (by rw [hfin]; decide)] at hlay
  have hst := (u_facts hfc hkC (u_lays hts hin hj) hi).1
  have h6 := u_store hfc hkC hkind hlay hi hd hn hfit
  refine W.putK F.1 F.2.1 (f := f) ⟨F.2.2.2.1, hts _ hlink, ⟨_, _, _, hsame _ hi⟩, hst⟩ (by rw [q2]; exact h6) q1 q3 (by rw [hsl]; exact k2_hasslot (q4 j hj)) rfl rfl d fun H' e1 e2 e3 => ?_
  rw [hsl] at e1 ⊢
  refine kk H' _ ls (wq_Wd_set hW ?_ hS' e3) (hS.put e2 e3 hA) hl
  rw [hE']
  exact ⟨_, hc, t_OB.to (V := updV (vp_V fs) j v) ⟨_, e1, q2, q3, t_set q4 hap hj v⟩ (fun i _ => vp_updV_set hl0 v i)⟩
theorem wq_iald (F : wq_Fr p s m args meth c cc nL ret own D Ar) {k n t : Nat} {i : Int} (hk : k < N) (hE : E (S k) k = .inl (Ar 0, n, .inl fun j => wq_I (S k j))) (ht : t < n) (hi : wq_w i = (t : Int)) (d : decode cc pc = .ok (.iaload, 1)) (hq : pc + 1 = q) (kk : wq_Z p l e R s m args below meth c D E b N nL A Q cells slots q L (.int (wq_I (S k t)) :: st) S) : wq_Z p l e R s m args below meth c D E b N nL A Q cells slots pc L (.int (wq_I i) :: .ref (b + k) :: st) S := by
  subst hq
  intro H locs ls hW hS hl
  have h0 := hW k hk
  rw [hE] at h0
  have hin : vp_in (wq_I i) n := vp_in_iff.mpr (by show 0 ≤ wq_w i ∧ wq_w i < (n : Int); omega)
  have et : (wq_I i).toNatClampNeg = t := by show (wq_w i).toNat = t; omega
  exact W.iald (v := .int (wq_I (S k t))) F.1 F.2.1 h0 ((F.2.2.2.2.2.1.2 0 _ rfl).1 n (fun j => .int (wq_I (S k j)))) (fun q => by cases q) (by show ¬ (wq_I i < 0 ∨ (arrV _ _ _).slots.size ≤ _); rw [arrV_size]; exact hin) (by show (arrV _ _ _).slots[_]? = _; rw [et, arrV_read _ _ ht]) rfl rfl d (kk H locs ls hW hS hl)
theorem wq_zald (F : wq_Fr p s m args meth c cc nL ret own D Ar) {k n t : Nat} {i : Int} (hk : k < N) (hE : E (S k) k = .inl (Ar 1, n, .inl fun j => wq_I (S k j))) (ht : t < n) (hi : wq_w i = (t : Int)) (d : decode cc pc = .ok (.baload, 1)) (hq : pc + 1 = q) (kk : wq_Z p l e R s m args below meth c D E b N nL A Q cells slots q L (.int (wq_I (S k t)) :: st) S) : wq_Z p l e R s m args below meth c D E b N nL A Q cells slots pc L (.int (wq_I i) :: .ref (b + k) :: st) S := by
  subst hq
  intro H locs ls hW hS hl
  have h0 := hW k hk
  rw [hE] at h0
  have hin : vp_in (wq_I i) n := vp_in_iff.mpr (by show 0 ≤ wq_w i ∧ wq_w i < (n : Int); omega)
  have et : (wq_I i).toNatClampNeg = t := by show (wq_w i).toNat = t; omega
  exact W.zald (v := .int (wq_I (S k t))) F.1 F.2.1 h0 ((F.2.2.2.2.2.1.2 1 _ rfl).1 n (fun j => .int (wq_I (S k j)))) (fun q => by cases q) (by show ¬ (wq_I i < 0 ∨ (arrV _ _ _).slots.size ≤ _); rw [arrV_size]; exact hin) (by show (arrV _ _ _).slots[_]? = _; rw [et, arrV_read _ _ ht]) rfl rfl d (kk H locs ls hW hS hl)
theorem wq_iast (F : wq_Fr p s m args meth c cc nL ret own D Ar) {k n t : Nat} {i x : Int} (hk : k < N) (hE : E (S k) k = .inl (Ar 0, n, .inl fun j => wq_I (S k j))) (hE' : E (wq_set S k t x k) k = .inl (Ar 0, n, .inl fun j => wq_I (wq_set S k t x k j))) (ht : t < n) (hi : wq_w i = (t : Int)) (hA : A (b + k)) (d : decode cc pc = .ok (.iastore, 1)) (hq : pc + 1 = q) (kk : wq_Z p l e R s m args below meth c D E b N nL A Q cells slots q L st (wq_set S k t x)) : wq_Z p l e R s m args below meth c D E b N nL A Q cells slots pc L (.int (wq_I x) :: .int (wq_I i) :: .ref (b + k) :: st) S := by
  subst hq
  intro H locs ls hW hS hl
  have h0 := hW k hk
  rw [hE] at h0
  have hin : vp_in (wq_I i) n := vp_in_iff.mpr (by show 0 ≤ wq_w i ∧ wq_w i < (n : Int); omega)
  have et : (wq_I i).toNatClampNeg = t := by show (wq_w i).toNat = t; omega
  refine W.iast F.1 F.2.1 h0 ((F.2.2.2.2.2.1.2 0 _ rfl).1 n (fun j => .int (wq_I (S k j)))) (fun q => by cases q) (by show ¬ (wq_I i < 0 ∨ (arrV _ _ _).slots.size ≤ _); rw [arrV_size]; exact hin) rfl rfl d fun H1 e1 z oq => ?_
  refine kk H1 _ ls (wq_Wd_set hW ?_ (wq_set_row S k t x) oq) (hS.put z oq hA) hl
  rw [hE']
  show H1[b + k]? = some (vp_cell _ _)
  rw [e1, et]
  
  rw [vp_cell_i, vp_cell_i, arrV_store]
  congr 2
  funext j
  rw [wq_set_eq]
  by_cases hj : j = t
  · subst hj
    simp [updV]
  · simp [updV, hj]
theorem wq_zast (F : wq_Fr p s m args meth c cc nL ret own D Ar) {k n t : Nat} {i x : Int} (hx : x = 0 ∨ x = 1) (hk : k < N) (hE : E (S k) k = .inl (Ar 1, n, .inl fun j => wq_I (S k j))) (hE' : E (wq_set S k t x k) k = .inl (Ar 1, n, .inl fun j => wq_I (wq_set S k t x k j))) (ht : t < n) (hi : wq_w i = (t : Int)) (hA : A (b + k)) (d : decode cc pc = .ok (.bastore, 1)) (hq : pc + 1 = q) (kk : wq_Z p l e R s m args below meth c D E b N nL A Q cells slots q L st (wq_set S k t x)) : wq_Z p l e R s m args below meth c D E b N nL A Q cells slots pc L (.int (wq_I x) :: .int (wq_I i) :: .ref (b + k) :: st) S := by
  subst hq
  intro H locs ls hW hS hl
  have h0 := hW k hk
  rw [hE] at h0
  have hin : vp_in (wq_I i) n := vp_in_iff.mpr (by show 0 ≤ wq_w i ∧ wq_w i < (n : Int); omega)
  have et : (wq_I i).toNatClampNeg = t := by show (wq_w i).toNat = t; omega
  have ex : vp_nar .boolean (wq_I x) = wq_I x := by rcases hx with h | h <;> rw [h] <;> decide
  refine W.zast F.1 F.2.1 h0 ((F.2.2.2.2.2.1.2 1 _ rfl).1 n (fun j => .int (wq_I (S k j)))) (fun q => by cases q) (by show ¬ (wq_I i < 0 ∨ (arrV _ _ _).slots.size ≤ _); rw [arrV_size]; exact hin) rfl rfl d fun H1 e1 z oq => ?_
  refine kk H1 _ ls (wq_Wd_set hW ?_ (wq_set_row S k t x) oq) (hS.put z oq hA) hl
  rw [hE']
  show H1[b + k]? = some (vp_cell _ _)
  rw [e1, et]
  show some ((vp_cell _ _).setSlot t (.int (vp_nar .boolean (wq_I x)))) = _
  rw [ex]
  rw [vp_cell_i, vp_cell_i, arrV_store]
  congr 2
  funext j
  rw [wq_set_eq]
  by_cases hj : j = t
  · subst hj
    simp [updV]
  · simp [updV, hj]
theorem wq_aald (F : wq_Fr p s m args meth c cc nL ret own D Ar) {k n t tk : Nat} {i : Int} {ty : FieldType} {f : Nat → Nat} (hk : k < N) (hE : E (S k) k = .inl (Ar tk, n, .inr (.inr (.inr (.inr fun j => some (b + f j)))))) (hty : (wq_tys Ar)[tk]? = some (Ar tk, ty)) (hrf : ty.isReference = true) (ht : t < n) (hi : wq_w i = (t : Int)) (d : decode cc pc = .ok (.aaload, 1)) (hq : pc + 1 = q) (kk : wq_Z p l e R s m args below meth c D E b N nL A Q cells slots q L (.ref (b + f t) :: st) S) : wq_Z p l e R s m args below meth c D E b N nL A Q cells slots pc L (.int (wq_I i) :: .ref (b + k) :: st) S := by
  subst hq
  intro H locs ls hW hS hl
  have h0 := hW k hk
  rw [hE] at h0
  have hin : vp_in (wq_I i) n := vp_in_iff.mpr (by show 0 ≤ wq_w i ∧ wq_w i < (n : Int); omega)
  have et : (wq_I i).toNatClampNeg = t := by show (wq_w i).toNat = t; omega
  exact W.aald (v := .ref (b + f t)) (ty := ty) F.1 F.2.1 h0 ((F.2.2.2.2.2.1.2 tk _ hty).1 n (fun j => va_rf (some (b + f j)))) hrf (fun q => by cases q) (by show ¬ (wq_I i < 0 ∨ (arrV _ _ _).slots.size ≤ _); rw [arrV_size]; exact hin) (by show (arrV _ _ _).slots[_]? = _; rw [et, arrV_read _ _ ht]; rfl) rfl rfl d (kk H locs ls hW hS hl)
end WQM
