/-! CONTRACTS: a method that returns -/
def wq_Qc (D : va_G) (E : (Nat → Int) → Nat → va_E) (b N : Nat) (rv : Option Value) (S' : wq_St) : Array Value → State → Outcome → State → Prop := fun _ st oc t => oc = .returned rv ∧ wq_Wd D E b N S' t.heap ∧ va_F (wq_Ab b N) st t
def wq_Pc (D : va_G) (Ar : Nat → ClassId) (E : (Nat → Int) → Nat → va_E) (b N : Nat) (av : List Value) (S : wq_St) : Array Value → State → Prop := va_Pc av (fun U => wq_Wd D E b N S U.heap ∧ va_K D vwCl (wq_tys Ar) U)
def wq_Ct (l : Launch) (y : MethodName) (cd : Cond) (n : Nat) (D : va_G) (Ar : Nat → ClassId) (E : (Nat → Int) → Nat → va_E) (b N : Nat) (av : List Value) (S : wq_St) (rv : Option Value) (S' : wq_St) : Prop :=
  Met l y (wq_ws cd) (wq_rm n 0 0) (wq_Pc D Ar E b N av S) (wq_Qc D E b N rv S') 0 0 (wq_Ab b N)
theorem wq_blind (D : va_G) (Ar : Nat → ClassId) (E : (Nat → Int) → Nat → va_E) (b N : Nat) (av : List Value) (S : wq_St) : FrameBlind (wq_Pc D Ar E b N av S) := fun a U g mk h => ⟨h.1, h.2.1, va_K.moved (u := U) (U := U.calling g mk a) (Vm.Alike.refl U.vm) h.2.2⟩
theorem wq_start {l : Launch} {y : MethodName} {cc : ByteArray} {maxL n b N : Nat} {ret : Option FieldType} {D : va_G} {Ar : Nat → ClassId} {E : (Nat → Int) → Nat → va_E} {av : List Value} {S S' : wq_St} {rv : Option Value} (own : String) (L0 : List (Option Value)) (hy : plainName y.cls = true) (hcls : y.cls = own) (hlen : (lg_sl av).length ≤ maxL) (hL0 : wq_args maxL av = L0)
    (body : ∀ p e s m args below meth c, wq_Fr p s m args meth c cc maxL ret own D Ar → wq_Z p l e (wq_rm n 0 0) s m args below meth c D E b N maxL (wq_Ab b N) (MQ below (wq_Qc D E b N rv S') args s 0 0 (wq_Ab b N)) 0 0 0 L0 [] S) : wq_Ct l y (.code y cc maxL ret) n D Ar E b N av S rv S' := by
  refine Met.ofW (cc := cc) (maxL := maxL) (ret := ret) hy rfl ?_
  intro p e s m args below meth c s₁ B hml hv
  obtain ⟨rfl, hW, hK⟩ := hv
  have hts := atoms_spec (ws := wq_ws (.code y cc maxL ret)) B.pre
  have F : wq_Fr p s m av.toArray meth c cc maxL ret own D Ar := ⟨B.exec, B.bytes, hml, hcls ▸ findClass_of_methodNamed B.named, fun w h => hts w (List.mem_cons_of_mem _ h), hK, B.returns, B.notSynchronized⟩
  rw [lg_entry_eq]
  exact body p e s m _ below meth c F s.heap [] _ hW va_S.rf (hL0 ▸ wq_entry av hlen)
/-- a link of a call: the words that it needs -/
def wq_Lk (own : String) (idx : Nat) (y : MethodName) (bytes : ByteArray) (maxL : Nat) (ret : Option FieldType) (np : Nat) : Prop :=
  Cond.methodLink own idx y ∈ wq_aw ∧ Cond.initialized y.cls ∈ wq_aw ∧ Cond.code y bytes maxL ret ∈ wq_aw ∧ (y.cls ≠ "java/lang/invoke/MethodHandle" ∧ y.cls ≠ "java/lang/invoke/VarHandle" ∧ (parseMethodDescriptor y.desc).map (fun d => d.parameters.length) = some np)
def wq_LkV (own : String) (idx : Nat) (y : MethodName) (bytes : ByteArray) (maxL : Nat) (ret : Option FieldType) (np : Nat) : Prop := wq_Lk own idx y bytes maxL ret np ∧ Cond.instanceMethod y ∈ wq_aw ∧ Cond.selects y.cls y y ∈ wq_aw
def wq_LkS (own : String) (idx : Nat) (y : MethodName) (bytes : ByteArray) (maxL : Nat) (ret : Option FieldType) (np : Nat) : Prop := wq_Lk own idx y bytes maxL ret np ∧ Cond.static y ∈ wq_aw
section WQC
variable {p : Program} {l : Launch} {e : Env} {R : Room} {s : State} {m : MethodId} {args : Array Value} {below : List Frame} {meth : Method} {c : Code} {D : va_G} {Ar : Nat → ClassId} {E : (Nat → Int) → Nat → va_E} {b N nL : Nat} {A : Nat → Prop} {Q : State → Prop} {cells slots pc q : Nat} {L : List (Option Value)} {st : List Value} {S S' : wq_St}
variable {cc bytes : ByteArray} {own : String} {ret rt : Option FieldType} {H : Heap} {locs : List Loc} {y : MethodName} {idx maxL np n : Nat} {As rest st0 : List Value} {rv : Option Value} {rm : Room} {mc ms : Nat}
theorem wq_callB (hts : ∀ w ∈ wq_aw, w.before args s = true) (lk : wq_Lk own idx y bytes maxL rt np) (hrc : rm.cells = mc) (hrs : rm.slots = ms) (hR : rm.frames + 1 ≤ R.frames ∧ 8 + (maxL + 11) + rm.locals ≤ R.locals) : CallB R s args own idx y bytes maxL rt (wq_ws (.code y bytes maxL rt)) rm mc ms np := by
  obtain ⟨h1, h2, h3, h4⟩ := lk
  refine callB_of (Ts := wq_aw) (ws' := wq_aw) np hts (fun w hw => ?_) rfl hrc hrs (hts _ h2) (hts _ h1) h4 hR
  rcases List.mem_cons.mp hw with rfl | hw
  · exact ⟨h3, good_of_word (wq_aw_good _ h3)⟩
  · exact ⟨hw, good_of_word (wq_aw_good _ hw)⟩
theorem wq_go {ls : Array Slot} (hr : va_Run p l e R s m args below meth c H locs cells slots 0 0 (F0 m pc ls st0) rest (wq_Qc D E b N rv S' As.toArray) (wq_Ab b N)) (hS : va_S A s.heap H locs) (hA : ∀ q, wq_Ab b N q → A q) (hl : wq_has ls nL L)
    (kk : wq_Z p l e R s m args below meth c D E b N nL A Q cells slots (pc + 3) L (rv.toList ++ rest) S') : W p l e R s m args below meth c H locs cells slots Q (F0 m pc ls st0) := by
  intro T hT X
  obtain ⟨v, st₀, t, T', Lx, h0, X', hL, e1, e2, ⟨hv, hW, hz, hk⟩, st⟩ := hr T hT X
  cases hv
  rw [h0] at hz hk
  obtain ⟨t2, a1, b1⟩ := kk T'.heap (locs ++ Lx) ls (by rw [e1]; exact hW)
    ⟨Nat.le_trans hS.1 (by rw [e1]; exact hz), fun q h1 h2 => by rw [e1, hk q (Nat.lt_of_lt_of_le h1 hS.1) (fun z => h2 (hA q z))]; exact hS.2.1 q h1 h2, fun q hq => by
      rcases List.mem_append.mp hq with h | h
      · exact hS.2.2 q h
      · exact hA _ (hL q h)⟩ hl T' rfl X'
  exact ⟨t2, st t2 a1, b1⟩
theorem wq_callV (F : wq_Fr p s m args meth c cc nL ret own D Ar) {k ci nf : Nat} {T : u_T} {fs : List Value} (lk : wq_LkV own idx y bytes maxL rt np) (hM : wq_Ct l y (.code y bytes maxL rt) n D Ar E b N (.ref (b + k) :: As) S rv S') (hR : n + 1 ≤ R.frames ∧ 8 + (maxL + 11) + 40 * n ≤ R.locals) (hc0 : cells ≤ R.cells ∧ slots ≤ R.slots) (hk : k < N) (hE : E (S k) k = .inr (ci, fs)) (hcl : vwCl[ci]? = some (y.cls, T, nf)) (hA : ∀ q, wq_Ab b N q → A q) (hn : As.length = np) (hst : st0 = As.reverse ++ .ref (b + k) :: rest) (hcat : (rest.map fun v => v.category).sum ≤ 8) (d : decode cc pc = .ok (.invokevirtual idx, 3)) (hq : pc + 3 = q)
    (kk : wq_Z p l e R s m args below meth c D E b N nL A Q cells slots q L (rv.toList ++ rest) S') : wq_Z p l e R s m args below meth c D E b N nL A Q cells slots pc L st0 S := by
  subst hq
  subst hst
  intro H locs ls hW hS hl
  have hts := F.2.2.2.2.1
  have hP : va_P D vwCl [(b + k, .inr (ci, fs))] H := by
    intro i x hx
    match i, hx with
    | 0, hx =>
      cases hx
      have h := hW k hk
      rw [hE] at h
      exact h
  refine wq_go (va_runV (Ts := wq_aw) (C := y.cls) (n := np) (ws := wq_ws (.code y bytes maxL rt)) (As := As) (rest := rest) ⟨F.1, F.2.1, F.2.2.1, F.2.2.2.1, hts⟩ hM ⟨wq_callB hts lk.1 rfl rfl hR, hts _ lk.2.1, hts _ lk.2.2⟩ ⟨wq_blind _ _ _ _ _ _ _, va_recv F.2.2.2.2.2.1 hP hcl (q0 := 0) rfl, fun U hU hW9 => ⟨rfl, by rw [hU]; exact hW, va_K.moved hW9.alike F.2.2.2.2.2.1⟩⟩ rfl hn hl.1 rfl ?_ d ⟨hc0.1, hc0.2⟩) hS hA hl kk
  show 2 * 0 + _ ≤ 8
  omega
theorem wq_callS (F : wq_Fr p s m args meth c cc nL ret own D Ar) (lk : wq_LkS own idx y bytes maxL rt np) (hM : wq_Ct l y (.code y bytes maxL rt) n D Ar E b N As S rv S') (hR : n + 1 ≤ R.frames ∧ 8 + (maxL + 11) + 40 * n ≤ R.locals) (hc0 : cells ≤ R.cells ∧ slots ≤ R.slots) (hA : ∀ q, wq_Ab b N q → A q) (hn : As.length = np) (hst : st0 = As.reverse ++ rest) (hcat : (rest.map fun v => v.category).sum ≤ 8) (d : decode cc pc = .ok (.invokestatic idx, 3)) (hq : pc + 3 = q)
    (kk : wq_Z p l e R s m args below meth c D E b N nL A Q cells slots q L (rv.toList ++ rest) S') : wq_Z p l e R s m args below meth c D E b N nL A Q cells slots pc L st0 S := by
  subst hq
  subst hst
  intro H locs ls hW hS hl
  have hts := F.2.2.2.2.1
  refine wq_go (va_runS (Ts := wq_aw) (n := np) (ws := wq_ws (.code y bytes maxL rt)) (As := As) (rest := rest) ⟨F.1, F.2.1, F.2.2.1, F.2.2.2.1, hts⟩ hM ⟨wq_callB hts lk.1 rfl rfl hR, hts _ lk.2⟩ ⟨wq_blind _ _ _ _ _ _ _, fun U hU hW9 => ⟨rfl, by rw [hU]; exact hW, va_K.moved hW9.alike F.2.2.2.2.2.1⟩⟩ rfl hn hl.1 rfl ?_ d ⟨hc0.1, hc0.2⟩) hS hA hl kk
  show 2 * 0 + _ ≤ 8
  omega
/-- Math.max, Math.min of ints -/
theorem wq_mmax (F : wq_Fr p s m args meth c cc nL ret own D Ar) {x y : Int} (h1 : Cond.methodLink own idx Lib.Math.max.name ∈ wq_aw) (h2 : Cond.static Lib.Math.max.name ∈ wq_aw) (h3 : Cond.initialized "java/lang/Math" ∈ wq_aw) (h4 : Cond.code Lib.Math.max.name Lib.Math.max.code 2 (some .int) ∈ wq_aw) (hR : 1 ≤ R.frames) (hR2 : (st.map fun v => v.category).sum + 13 ≤ R.locals) (hc0 : cells ≤ R.cells ∧ slots ≤ R.slots) (d : decode cc pc = .ok (.invokestatic idx, 3)) (hq : pc + 3 = q)
    (kk : wq_Z p l e R s m args below meth c D E b N nL A Q cells slots q L (.int (wq_I (wq_max x y)) :: st) S) : wq_Z p l e R s m args below meth c D E b N nL A Q cells slots pc L (.int (wq_I y) :: .int (wq_I x) :: st) S := by
  subst hq
  intro H locs ls hW hS hl
  have hts := F.2.2.2.2.1
  refine va_mmax F.1 F.2.1 (F.2.2.1.trans hl.1.symm) F.2.2.2.1 (hts _ h1) (hts _ h2) (hts _ h3) (hts _ h4) hR hR2 hc0.1 hc0.2 d ?_
  have h := kk H locs ls hW hS hl
  have e9 : wq_I (wq_max x y) = if wq_I x < wq_I y then wq_I y else wq_I x := by
    unfold wq_max
    simp only [wq_I_lt]
    split <;> rfl
  rw [e9] at h
  exact h
theorem wq_mmin (F : wq_Fr p s m args meth c cc nL ret own D Ar) {x y : Int} (h1 : Cond.methodLink own idx Lib.Math.min.name ∈ wq_aw) (h2 : Cond.static Lib.Math.min.name ∈ wq_aw) (h3 : Cond.initialized "java/lang/Math" ∈ wq_aw) (h4 : Cond.code Lib.Math.min.name Lib.Math.min.code 2 (some .int) ∈ wq_aw) (hR : 1 ≤ R.frames) (hR2 : (st.map fun v => v.category).sum + 13 ≤ R.locals) (hc0 : cells ≤ R.cells ∧ slots ≤ R.slots) (d : decode cc pc = .ok (.invokestatic idx, 3)) (hq : pc + 3 = q)
    (kk : wq_Z p l e R s m args below meth c D E b N nL A Q cells slots q L (.int (wq_I (wq_min x y)) :: st) S) : wq_Z p l e R s m args below meth c D E b N nL A Q cells slots pc L (.int (wq_I y) :: .int (wq_I x) :: st) S := by
  subst hq
  intro H locs ls hW hS hl
  have hts := F.2.2.2.2.1
  refine va_mmin F.1 F.2.1 (F.2.2.1.trans hl.1.symm) F.2.2.2.1 (hts _ h1) (hts _ h2) (hts _ h3) (hts _ h4) hR hR2 hc0.1 hc0.2 d ?_
  have h := kk H locs ls hW hS hl
  have e9 : wq_I (wq_min x y) = if wq_I y < wq_I x then wq_I y else wq_I x := by
    unfold wq_min
    simp only [wq_I_lt]
    split <;> rfl
  rw [e9] at h
  exact h
/-! ends of a method that returns -/
theorem wq_iret (F : wq_Fr p s m args meth c cc nL (some .int) own D Ar) {x : Int32} (h : rv = some (.int x)) (hS9 : S = S') (d : decode cc pc = .ok (.ireturn, 1)) : wq_Z p l e R s m args below meth c D E b N nL (wq_Ab b N) (MQ below (wq_Qc D E b N rv S') args s cells slots (wq_Ab b N)) cells slots pc L [.int x] S := by
  subst h
  subst hS9
  intro H locs ls hW hS hl
  exact W.iret (v := x) F.1 F.2.1 F.2.2.2.2.2.2.1 (fun t ht hW9 => ⟨rfl, by rw [ht]; exact hW, hS.F ht⟩) hS.2.2 d F.2.2.2.2.2.2.2
theorem wq_zret (F : wq_Fr p s m args meth c cc nL (some .boolean) own D Ar) {x : Int} (hx : x = 0 ∨ x = 1) (h : rv = some (.int (wq_I x))) (hS9 : S = S') (d : decode cc pc = .ok (.ireturn, 1)) : wq_Z p l e R s m args below meth c D E b N nL (wq_Ab b N) (MQ below (wq_Qc D E b N rv S') args s cells slots (wq_Ab b N)) cells slots pc L [.int (wq_I x)] S := by
  subst h
  subst hS9
  intro H locs ls hW hS hl
  exact W.zret (v := wq_I x) (ty := .boolean) F.1 F.2.1 F.2.2.2.2.2.2.1 (by rcases hx with h | h <;> rw [h] <;> decide) (fun t ht hW9 => ⟨rfl, by rw [ht]; exact hW, hS.F ht⟩) hS.2.2 d F.2.2.2.2.2.2.2
theorem wq_lret (F : wq_Fr p s m args meth c cc nL (some .long) own D Ar) {x : Int64} (h : rv = some (.long x)) (hS9 : S = S') (d : decode cc pc = .ok (.lreturn, 1)) : wq_Z p l e R s m args below meth c D E b N nL (wq_Ab b N) (MQ below (wq_Qc D E b N rv S') args s cells slots (wq_Ab b N)) cells slots pc L [.long x] S := by
  subst h
  subst hS9
  intro H locs ls hW hS hl
  exact W.lret (v := x) F.1 F.2.1 F.2.2.2.2.2.2.1 (fun t ht hW9 => ⟨rfl, by rw [ht]; exact hW, hS.F ht⟩) hS.2.2 d F.2.2.2.2.2.2.2
theorem wq_aret {rt9 : FieldType} (F : wq_Fr p s m args meth c cc nL (some rt9) own D Ar) (hrt : (∃ n, rt9 = .object n) ∨ ∃ t, rt9 = .array t) {x : Nat} (h : rv = some (.ref x)) (hS9 : S = S') (d : decode cc pc = .ok (.areturn, 1)) : wq_Z p l e R s m args below meth c D E b N nL (wq_Ab b N) (MQ below (wq_Qc D E b N rv S') args s cells slots (wq_Ab b N)) cells slots pc L [.ref x] S := by
  subst h
  subst hS9
  intro H locs ls hW hS hl
  exact W.aret (v := .ref x) F.1 F.2.1 F.2.2.2.2.2.2.1 hrt (Or.inr ⟨x, rfl⟩) (fun t ht hW9 => ⟨rfl, by rw [ht]; exact hW, hS.F ht⟩) hS.2.2 d F.2.2.2.2.2.2.2
theorem wq_vret (F : wq_Fr p s m args meth c cc nL none own D Ar) (h : rv = none) (hS9 : S = S') (d : decode cc pc = .ok (.return_, 1)) : wq_Z p l e R s m args below meth c D E b N nL (wq_Ab b N) (MQ below (wq_Qc D E b N rv S') args s cells slots (wq_Ab b N)) cells slots pc L [] S := by
  subst h
  subst hS9
  intro H locs ls hW hS hl
  exact W.vret F.1 F.2.1 F.2.2.2.2.2.2.1 (fun t ht hW9 => ⟨rfl, by rw [ht]; exact hW, hS.F ht⟩) hS.2.2 d F.2.2.2.2.2.2.2
end WQC
