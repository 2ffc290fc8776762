/-! THE LAW'S WORLD: the class's 284 cells, the model's 32, the law's own row of one long -/
def wq_EL (Ar : Nat → ClassId) (b : Nat) (r : Nat → Int) (k : Nat) : va_E :=
  if k < 284 then wq_EC Ar b r k else if k < 316 then wq_EM Ar (b + 284) r (k - 284) else .inl (Ar 7, 1, .inr (.inl fun j => wq_J (r j)))
def wq_cls (S : wq_St) : wq_St := fun k => if k < 284 then S k else fun _ => 0
def wq_mdl (S : wq_St) : wq_St := fun k => if k < 32 then S (284 + k) else fun _ => 0
def wq_emb (o n : Nat) (S S' : wq_St) : wq_St := fun k => if o ≤ k ∧ k < o + n then S' (k - o) else S k
section WQEMB
variable {D : va_G} {Ar : Nat → ClassId} {E1 E2 : (Nat → Int) → Nat → va_E} {b o n1 n2 : Nat} {S S1 S' : wq_St} {H H1 : Heap}
theorem wq_Wd_part (hW : wq_Wd D E2 b n2 S H) (ho : o + n1 ≤ n2) (hE : ∀ r k, k < n1 → E2 r (o + k) = E1 r k) (hS : ∀ k, k < n1 → S1 k = S (o + k)) : wq_Wd D E1 (b + o) n1 S1 H := by
  intro k hk
  have h := hW (o + k) (by omega)
  rw [hE _ _ hk, ← hS k hk] at h
  rw [Nat.add_assoc]
  exact h
theorem wq_Wd_emb (hW : wq_Wd D E2 b n2 S H) (ho : o + n1 ≤ n2) (hE : ∀ r k, k < n1 → E2 r (o + k) = E1 r k) (hW1 : wq_Wd D E1 (b + o) n1 S' H1) (hk : ∀ q : Nat, q < H.size → (q < b + o ∨ b + o + n1 ≤ q) → H1[q]? = H[q]?) : wq_Wd D E2 b n2 (wq_emb o n1 S S') H1 := by
  intro k hk2
  unfold wq_emb
  by_cases hc : o ≤ k ∧ k < o + n1
  · rw [if_pos hc]
    have h := hW1 (k - o) (by omega)
    have e1 : E2 (S' (k - o)) k = E1 (S' (k - o)) (k - o) := by
      have := hE (S' (k - o)) (k - o) (by omega)
      rw [show o + (k - o) = k by omega] at this
      exact this
    rw [e1]
    rw [show b + o + (k - o) = b + k by omega] at h
    exact h
  · rw [if_neg hc]
    exact (hW k hk2).kept (hk _ (hW k hk2).lt (by omega))
theorem wq_Ct_emb {l : Launch} {y : MethodName} {cd : Cond} {n : Nat} {av : List Value} {rv : Option Value} (h : wq_Ct l y cd n D Ar E1 (b + o) n1 av S1 rv S') (ho : o + n1 ≤ n2) (hE : ∀ r k, k < n1 → E2 r (o + k) = E1 r k) (hS : ∀ k, k < n1 → S1 k = S (o + k)) : wq_Ct l y cd n D Ar E2 b n2 av S rv (wq_emb o n1 S S') := by
  have hA : ∀ q, wq_Ab (b + o) n1 q → wq_Ab b n2 q := fun q hq => ⟨by have := hq.1; omega, by have := hq.2; omega⟩
  unfold wq_Ct Met at h ⊢
  refine MetFree.mono h (fun a s hp => ⟨hp.1, wq_Wd_part hp.2.1 ho hE hS, hp.2.2⟩) (fun _ _ _ _ _ h => h) ?_
  rintro a s oc t hp ⟨⟨h1, h2, h3⟩, L, hL, hf⟩
  refine ⟨⟨h1, wq_Wd_emb hp.2.1 ho hE h2 (fun q hq hc => h3.2 q hq (fun hz => ?_)), h3.1, fun q hq hn => h3.2 q hq (fun hz => hn (hA q hz))⟩, L, hL, fun q hq => hA _ (hf q hq)⟩
  have h4 := hz.1
  have h5 := hz.2
  omega
theorem wq_Kx_part {U : State} (ho : o + n1 ≤ n2) (h : wq_Kx b n2 U) : wq_Kx (b + o) n1 U := by
  have hA : ∀ q, wq_Ab (b + o) n1 q → wq_Ab b n2 q := fun q hq => ⟨by have := hq.1; omega, by have := hq.2; omega⟩
  exact ⟨h.1, h.2.1, vx_Zq.narrow h.2.2.1 hA, vx_Zq.narrow h.2.2.2 hA⟩
theorem wq_Cx_emb {l : Launch} {y : MethodName} {cd : Cond} {n mc ms k : Nat} {av : List Value} {rv : Option Value} (h : wq_Cx l y cd n mc ms D Ar E1 (b + o) n1 av S1 k rv S') (ho : o + n1 ≤ n2) (hE : ∀ r k, k < n1 → E2 r (o + k) = E1 r k) (hS : ∀ k, k < n1 → S1 k = S (o + k)) : wq_Cx l y cd n mc ms D Ar E2 b n2 av S k rv (wq_emb o n1 S S') := by
  intro sz
  have hA : ∀ q, wq_AX (b + o) n1 sz q → wq_AX b n2 sz q := fun q hq => hq.elim (fun hq => Or.inl ⟨by have := hq.1; omega, by have := hq.2; omega⟩) Or.inr
  refine MetFree.mono (h sz) (fun a s hp => ⟨hp.1, hp.2.1, wq_Wd_part hp.2.2.1 ho hE hS, hp.2.2.2.1, wq_Kx_part ho hp.2.2.2.2⟩) (fun _ _ _ _ _ h => h) ?_
  have key : ∀ (a : Array Value) (s t : State), wq_Px D Ar E2 b n2 av S sz a s → wq_Wd D E1 (b + o) n1 S' t.heap → va_F (wq_AX (b + o) n1 sz) s t → wq_Wd D E2 b n2 (wq_emb o n1 S S') t.heap ∧ va_F (wq_AX b n2 sz) s t := by
    intro a s t hp h2 h3
    refine ⟨wq_Wd_emb hp.2.2.1 ho hE h2 (fun q hq hc => h3.2 q hq (fun hz => ?_)), h3.1, fun q hq hn => h3.2 q hq (fun hz => hn (hA q hz))⟩
    have hsz := hp.2.1
    rcases hz with hz | hz
    · have h4 := hz.1
      have h5 := hz.2
      omega
    · omega
  rintro a s oc t hp hq
  rcases hq with ⟨⟨h0, h1, h2, h3⟩, L, hL, hf⟩ | ⟨q, hoc, En, ce, L, ⟨h0, h1, h2, h3⟩, g1, g2, g3, g4, g5, g6⟩
  · obtain ⟨k1, k2⟩ := key a s t hp h2 h3
    exact Or.inl ⟨⟨h0, h1, k1, k2⟩, L, hL, fun q hq => hA _ (hf q hq)⟩
  · obtain ⟨k1, k2⟩ := key a s t hp h2 h3
    exact Or.inr ⟨q, hoc, En, ce, L, ⟨h0, h1, k1, k2⟩, g1, g2, g3, g4, g5, fun z hz => hA _ (g6 z hz)⟩
end WQEMB
theorem wq_EL_c {Ar : Nat → ClassId} {b : Nat} : ∀ (r : Nat → Int) (k : Nat), k < 284 → wq_EL Ar b r (0 + k) = wq_EC Ar b r k := fun r k hk => by
  rw [Nat.zero_add]
  exact if_pos hk
theorem wq_EL_m {Ar : Nat → ClassId} {b : Nat} : ∀ (r : Nat → Int) (k : Nat), k < 32 → wq_EL Ar b r (284 + k) = wq_EM Ar (b + 284) r k := fun r k hk => by
  unfold wq_EL
  rw [if_neg (by omega), if_pos (by omega), Nat.add_sub_cancel_left]
theorem wq_cls_at (S : wq_St) : ∀ k, k < 284 → wq_cls S k = S (0 + k) := fun k hk => by
  rw [Nat.zero_add]
  exact if_pos hk
theorem wq_mdl_at (S : wq_St) : ∀ k, k < 32 → wq_mdl S k = S (284 + k) := fun _ hk => if_pos hk
/-- a callee of the law that returns, or throws and is caught -/
def wq_bh {α β : Type} (x : Option (Nat × β × wq_St)) (k : β → wq_St → Option α) (kt : Nat → wq_St → Option α) : Option α := match x with
  | none => none
  | some (0, r, S) => k r S
  | some (n + 1, _, S) => kt (n + 1) S
theorem wq_bh_some {α β : Type} {x : Option (Nat × β × wq_St)} {k : β → wq_St → Option α} {kt : Nat → wq_St → Option α} {o : α} (h : wq_bh x k kt = some o) :
    (∃ (r : β) (S : wq_St), x = some (0, r, S) ∧ k r S = some o) ∨ ∃ (n : Nat) (r : β) (S : wq_St), x = some (n + 1, r, S) ∧ kt (n + 1) S = some o := by
  cases x with
  | none => cases h
  | some q =>
    obtain ⟨n, r, S⟩ := q
    cases n with
    | zero => exact Or.inl ⟨r, S, rfl, h⟩
    | succ n => exact Or.inr ⟨n, r, S, rfl, h⟩
/-- what the wrappers take from the start beside: which exception is no other's -/
def wq_Nx (U : State) : Prop := va_Nc "java/lang/IllegalArgumentException" "java/lang/IndexOutOfBoundsException" U ∧ va_Nc "java/lang/IllegalStateException" "java/lang/IndexOutOfBoundsException" U ∧ va_Nc "java/lang/IllegalStateException" "java/lang/IllegalArgumentException" U
theorem wq_Nx.moved {u U : State} (hvm : u.vm.Alike U.vm) (h : wq_Nx u) : wq_Nx U := ⟨va_Nc.moved hvm h.1, va_Nc.moved hvm h.2.1, va_Nc.moved hvm h.2.2⟩
def wq_Pw (D : va_G) (Ar : Nat → ClassId) (E : (Nat → Int) → Nat → va_E) (b N : Nat) (av : List Value) (S : wq_St) (sz : Nat) : Array Value → State → Prop := va_Pc av (fun U => U.heap.size = sz ∧ wq_Wd D E b N S U.heap ∧ va_K D vwCl (wq_tys Ar) U ∧ wq_Kx b N U ∧ wq_Nx U)
def wq_Cw (l : Launch) (y : MethodName) (cd : Cond) (n mc ms : Nat) (D : va_G) (Ar : Nat → ClassId) (E : (Nat → Int) → Nat → va_E) (b N : Nat) (av : List Value) (S : wq_St) (rv : Option Value) (S' : wq_St) : Prop :=
  ∀ sz : Nat, vx_Met l y (wq_ws cd) (wq_rm n mc ms) (wq_Pw D Ar E b N av S sz) (wq_Qx D E b N 0 rv S' sz) (wq_Xx D E b N 0 S' sz) mc ms (wq_AX b N sz)
theorem wq_blindw (D : va_G) (Ar : Nat → ClassId) (E : (Nat → Int) → Nat → va_E) (b N : Nat) (av : List Value) (S : wq_St) (sz : Nat) : FrameBlind (wq_Pw D Ar E b N av S sz) := fun a U g mk h => ⟨h.1, h.2.1, h.2.2.1, va_K.moved (u := U) (U := U.calling g mk a) (Vm.Alike.refl U.vm) h.2.2.2.1, wq_Kx_same (s := U) (U := U.calling g mk a) rfl rfl h.2.2.2.2.1, wq_Nx.moved (u := U) (U := U.calling g mk a) (Vm.Alike.refl U.vm) h.2.2.2.2.2⟩
theorem wq_startw {l : Launch} {y : MethodName} {cc : ByteArray} {maxL n mc ms b N : Nat} {ret : Option FieldType} {hh : List (Nat × Nat × Nat × Nat)} {D : va_G} {Ar : Nat → ClassId} {E : (Nat → Int) → Nat → va_E} {av : List Value} {S S' : wq_St} {rv : Option Value} (own : String) (L0 : List (Option Value)) (hy : plainName y.cls = true) (hcls : y.cls = own) (hlen : (lg_sl av).length ≤ maxL) (hL0 : wq_args maxL av = L0)
    (body : ∀ p e s m args below meth c, wq_Fr p s m args meth c cc maxL ret own D Ar → wq_Kx b N s → wq_Nx s → c.exceptionTable.toList = tableOf hh → wq_Z p l e (wq_rm n mc ms) s m args below meth c D E b N maxL (wq_AX b N s.heap.size) (wq_MX below D E b N 0 rv S' args s mc ms) 0 0 0 L0 [] S) : wq_Cw l y (.codeWith y cc maxL ret hh) n mc ms D Ar E b N av S rv S' := by
  intro sz
  refine vx_ofWH (cc := cc) (maxL := maxL) (ret := ret) (hh := hh) hy rfl ?_
  intro p e s m args below meth c s₁ B hml hv
  obtain ⟨rfl, rfl, hW, hK, hKx, hNx⟩ := hv
  have hts := atoms_spec (ws := wq_ws (.codeWith y cc maxL ret hh)) B.pre
  have F : wq_Fr p s m av.toArray meth c cc maxL ret own D Ar := ⟨B.exec, B.bytes, hml, hcls ▸ findClass_of_methodNamed B.named, fun w h => hts w (List.mem_cons_of_mem _ h), hK, B.returns, B.notSynchronized⟩
  rw [lg_entry_eq]
  exact body p e s m _ below meth c F hKx hNx (vx_table (x := y) B (hts _ List.mem_cons_self)) s.heap [] _ hW va_S.rf (hL0 ▸ wq_entry av hlen)
def wq_LkW (own : String) (idx : Nat) (y : MethodName) (bytes : ByteArray) (maxL : Nat) (ret : Option FieldType) (hh : List (Nat × Nat × Nat × Nat)) (np : Nat) : Prop :=
  Cond.methodLink own idx y ∈ wq_aw ∧ Cond.static y ∈ wq_aw ∧ Cond.initialized y.cls ∈ wq_aw ∧ Cond.codeWith y bytes maxL ret hh ∈ wq_aw ∧ (y.cls ≠ "java/lang/invoke/MethodHandle" ∧ y.cls ≠ "java/lang/invoke/VarHandle" ∧ (parseMethodDescriptor y.desc).map (fun d => d.parameters.length) = some np)
section WQL
variable {p : Program} {l : Launch} {e : Env} {R : Room} {s : State} {m : MethodId} {args : Array Value} {below : List Frame} {meth : Method} {c : Code} {D : va_G} {Ar : Nat → ClassId} {E : (Nat → Int) → Nat → va_E} {b N nL : Nat} {A : Nat → Prop} {Q : State → Prop} {cells slots pc q : Nat} {L : List (Option Value)} {st : List Value} {S S' : wq_St}
variable {cc bytes : ByteArray} {own : String} {ret rt : Option FieldType} {H : Heap} {locs : List Loc} {y : MethodName} {idx maxL np n k : Nat} {As rest st0 : List Value} {rv : Option Value} {mc ms : Nat}
/-- a call that throws, caught here -/
theorem wq_callVc (F : wq_Fr p s m args meth c cc nL ret own D Ar) (K : wq_Kx b N s) {b9 ci nf : Nat} {T : u_T} {fs : List Value} (lk : wq_LkV own idx y bytes maxL rt np) (hM : wq_Cx l y (.code y bytes maxL rt) n mc ms D Ar E b N (.ref (b + b9) :: As) S (k + 1) rv S') (hR : n + 1 ≤ R.frames ∧ 8 + (maxL + 11) + 40 * n ≤ R.locals) (hc0 : cells + mc ≤ R.cells ∧ slots + ms ≤ R.slots) (hk0 : b9 < N) (hE : E (S b9) b9 = .inr (ci, fs)) (hcl : vwCl[ci]? = some (y.cls, T, nf)) (hn : As.length = np) (hst : st0 = As.reverse ++ .ref (b + b9) :: rest) (hcat : (rest.map fun v => v.category).sum ≤ 8) (d : decode cc pc = .ok (.invokevirtual idx, 3))
    {name : String} (hname : wq_ex (k + 1) = name) (pre : List ExceptionTableEntry) (x : ExceptionTableEntry) (suf : List ExceptionTableEntry) (hsplit : c.exceptionTable.toList = pre ++ x :: suf) (hpass : ∀ z ∈ pre, z.catchType ≠ 0 ∧ ∃ nm : String, Cond.classLink own z.catchType nm ∈ wq_aw ∧ va_Nc name nm s) (hx : covers x pc = true) (h0 : x.catchType ≠ 0) (hlink : Cond.classLink own x.catchType name ∈ wq_aw) (hcast : Cond.castable name name ∈ wq_nw)
    (kk : ∀ q9 : Nat, wq_Z p l e R s m args below meth c D E b N nL (wq_AX b N s.heap.size) Q (cells + mc) (slots + ms) x.handlerPc L [.ref q9] S') : wq_Z p l e R s m args below meth c D E b N nL (wq_AX b N s.heap.size) Q cells slots pc L st0 S := by
  subst hst
  subst hname
  intro H locs ls hW hS hl
  have hts := F.2.2.2.2.1
  have hP : va_P D vwCl [(b + b9, .inr (ci, fs))] H := by
    intro i x hx
    match i, hx with
    | 0, hx =>
      cases hx
      have h := hW b9 hk0
      rw [hE] at h
      exact h
  refine wq_gox (vx_runV (Ts := wq_aw) (C := y.cls) (n := np) (ws := wq_ws (.code y bytes maxL rt)) (As := As) (rest := rest) ⟨F.1, F.2.1, F.2.2.1, F.2.2.2.1, hts⟩ (hM H.size) ⟨wq_callB hts lk.1 rfl rfl hR, hts _ lk.2.1, hts _ lk.2.2⟩ ⟨wq_blindx _ _ _ _ _ _ _ _, va_recv F.2.2.2.2.2.1 hP hcl (q0 := 0) rfl, fun U hU hW9 => ⟨rfl, by rw [hU], by rw [hU]; exact hW, va_K.moved hW9.alike F.2.2.2.2.2.1, wq_Kx_at (locs := locs) hW9 (by rw [hU]; exact hS) K⟩⟩ rfl hn hl.1 rfl (by show 2 * 0 + _ ≤ 8; omega) d hc0) hS (fun h => absurd h (Nat.succ_ne_zero k)) (fun hk1 H1 locs1 q9 ce hW1 hS1 hce hcv hcl9 => ?_)
  have hcast9 : (Cond.castable (wq_ex (k + 1)) (wq_ex (k + 1))).before args s = true := va_Nw.use rfl (K.1 _ hcast)
  exact vx_catch F.2.2.2.1 pre x suf hsplit (fun z hz => by
    obtain ⟨h1, nm, h2, h3⟩ := hpass z hz
    exact Or.inr ⟨h1, nm, hts _ h2, h3⟩) hx h0 (hts _ hlink) hcast9 hce hcv hcl9 (kk q9 H1 locs1 ls hW1 hS1 hl)
/-- a call of a wrapper -/
theorem wq_callW (F : wq_Fr p s m args meth c cc nL ret own D Ar) (K : wq_Kx b N s) (Kn : wq_Nx s) {hh : List (Nat × Nat × Nat × Nat)} (lk : wq_LkW own idx y bytes maxL rt hh np) (hM : wq_Cw l y (.codeWith y bytes maxL rt hh) n mc ms D Ar E b N As S rv S') (hR : n + 1 ≤ R.frames ∧ 8 + (maxL + 11) + 40 * n ≤ R.locals) (hc0 : cells + mc ≤ R.cells ∧ slots + ms ≤ R.slots) (hn : As.length = np) (hst : st0 = As.reverse ++ rest) (hcat : (rest.map fun v => v.category).sum ≤ 8) (d : decode cc pc = .ok (.invokestatic idx, 3)) (hq : pc + 3 = q)
    (kk : wq_Z p l e R s m args below meth c D E b N nL (wq_AX b N s.heap.size) Q (cells + mc) (slots + ms) q L (rv.toList ++ rest) S') : wq_Z p l e R s m args below meth c D E b N nL (wq_AX b N s.heap.size) Q cells slots pc L st0 S := by
  subst hq
  subst hst
  intro H locs ls hW hS hl
  have hts := F.2.2.2.2.1
  obtain ⟨g1, g2, g3, g4, g5⟩ := lk
  have hws : ∀ w ∈ wq_ws (Cond.codeWith y bytes maxL rt hh), ∀ (a' : Array Value) (U : State), s.WarmedH U.vm → w.before a' U = true := pay_in (big := wq_aw) hts (fun w hw => by
    rcases List.mem_cons.mp hw with rfl | hw
    · exact ⟨g4, good_of_word (wq_aw_good _ g4)⟩
    · exact ⟨hw, good_of_word (wq_aw_good _ hw)⟩)
  refine wq_gox (vx_runSX (Ts := wq_aw) (n := np) (ws := wq_ws (.codeWith y bytes maxL rt hh)) (rm := wq_rm n mc ms) (As := As) (rest := rest) ⟨F.1, F.2.1, F.2.2.1, F.2.2.2.1, hts⟩ (hM H.size) ⟨⟨rfl, rfl, hR.1, hR.2, hws, List.mem_cons_self⟩, hts _ g4, hts _ g3, ⟨g5.1, g5.2.1⟩, fun sig h => ?_, hts _ g1, hts _ g2⟩ ⟨wq_blindw _ _ _ _ _ _ _ _, fun U hU hW9 => ⟨rfl, by rw [hU], by rw [hU]; exact hW, va_K.moved hW9.alike F.2.2.2.2.2.1, wq_Kx_at (locs := locs) hW9 (by rw [hU]; exact hS) K, wq_Nx.moved hW9.alike Kn⟩⟩ rfl hn hl.1 rfl (by show 2 * 0 + _ ≤ 8; omega) d hc0) hS (fun _ H1 locs1 hW1 hS1 => kk H1 locs1 ls hW1 hS1 hl) (fun h => absurd rfl h)
  have h2 := g5.2.2
  rw [h] at h2
  exact (Option.some.inj h2).symm
/-- the row of longs -/
theorem wq_lald (F : wq_Fr p s m args meth c cc nL ret own D Ar) {k n t : Nat} {i : Int} (hk : k < N) (hE : E (S k) k = .inl (Ar 7, n, .inr (.inl fun j => wq_J (S k j)))) (ht : t < n) (hi : wq_w i = (t : Int)) (d : decode cc pc = .ok (.laload, 1)) (hq : pc + 1 = q) (kk : wq_Z p l e R s m args below meth c D E b N nL A Q cells slots q L (.long (wq_J (S k t)) :: st) S) : wq_Z p l e R s m args below meth c D E b N nL A Q cells slots pc L (.int (wq_I i) :: .ref (b + k) :: st) S := by
  subst hq
  intro H locs ls hW hS hl
  have h0 := hW k hk
  rw [hE] at h0
  have hin : vp_in (wq_I i) n := vp_in_iff.mpr (by show 0 ≤ wq_w i ∧ wq_w i < (n : Int); omega)
  have et : (wq_I i).toNatClampNeg = t := by show (wq_w i).toNat = t; omega
  exact W.lald (v := .long (wq_J (S k t))) F.1 F.2.1 h0 ((F.2.2.2.2.2.1.2 7 _ rfl).1 n (fun j => .long (wq_J (S k j)))) (fun q => by cases q) (by show ¬ (wq_I i < 0 ∨ (arrV _ _ _).slots.size ≤ _); rw [arrV_size]; exact hin) (by show (arrV _ _ _).slots[_]? = _; rw [et, arrV_read _ _ ht]) rfl rfl d (kk H locs ls hW hS hl)
theorem wq_last (F : wq_Fr p s m args meth c cc nL ret own D Ar) {k n t : Nat} {i x : Int} (hk : k < N) (hE : E (S k) k = .inl (Ar 7, n, .inr (.inl fun j => wq_J (S k j)))) (hE' : E (wq_set S k t x k) k = .inl (Ar 7, n, .inr (.inl fun j => wq_J (wq_set S k t x k j)))) (ht : t < n) (hi : wq_w i = (t : Int)) (hA : A (b + k)) (d : decode cc pc = .ok (.lastore, 1)) (hq : pc + 1 = q) (kk : wq_Z p l e R s m args below meth c D E b N nL A Q cells slots q L st (wq_set S k t x)) : wq_Z p l e R s m args below meth c D E b N nL A Q cells slots pc L (.long (wq_J x) :: .int (wq_I i) :: .ref (b + k) :: st) S := by
  subst hq
  intro H locs ls hW hS hl
  have h0 := hW k hk
  rw [hE] at h0
  have hin : vp_in (wq_I i) n := vp_in_iff.mpr (by show 0 ≤ wq_w i ∧ wq_w i < (n : Int); omega)
  have et : (wq_I i).toNatClampNeg = t := by show (wq_w i).toNat = t; omega
  refine W.last F.1 F.2.1 h0 ((F.2.2.2.2.2.1.2 7 _ rfl).1 n (fun j => .long (wq_J (S k j)))) (fun q => by cases q) (by show ¬ (wq_I i < 0 ∨ (arrV _ _ _).slots.size ≤ _); rw [arrV_size]; exact hin) rfl rfl d fun H1 e1 z oq => ?_
  refine kk H1 _ ls (wq_Wd_set hW ?_ (wq_set_row S k t x) oq) (hS.put z oq hA) hl
  rw [hE']
  show H1[b + k]? = some (vp_cell _ _)
  rw [e1, et]
  rw [vp_cell_l, vp_cell_l, arrV_store]
  congr 2
  funext j
  rw [wq_set_eq]
  by_cases hj : j = t
  · subst hj
    simp [updV]
  · simp [updV, hj]
/-- the script -/
theorem wq_sld (F : wq_Fr p s m args meth c cc nL ret own D Ar) {b0 n t : Nat} {X : Nat → Int} {i : Int} (hX : va_X b0 n (fun j => wq_I (X j)) s s.heap) (hbl : b0 < s.heap.size) (hbA : ¬ A b0) (ht : t < n) (hi : wq_w i = (t : Int)) (d : decode cc pc = .ok (.iaload, 1)) (hq : pc + 1 = q) (kk : wq_Z p l e R s m args below meth c D E b N nL A Q cells slots q L (.int (wq_I (X t)) :: st) S) : wq_Z p l e R s m args below meth c D E b N nL A Q cells slots pc L (.int (wq_I i) :: .ref b0 :: st) S := by
  subst hq
  intro H locs ls hW hS hl
  have hin : vp_in (wq_I i) n := vp_in_iff.mpr (by show 0 ≤ wq_w i ∧ wq_w i < (n : Int); omega)
  have et : (wq_I i).toNatClampNeg = t := by show (wq_w i).toNat = t; omega
  refine va_sld F.1 F.2.1 hX hbl hbA hS hin d ?_
  rw [et]
  exact kk H locs ls hW hS hl
theorem wq_slen (F : wq_Fr p s m args meth c cc nL ret own D Ar) {b0 n : Nat} {X : Nat → Int} (hX : va_X b0 n (fun j => wq_I (X j)) s s.heap) (hbl : b0 < s.heap.size) (hbA : ¬ A b0) (d : decode cc pc = .ok (.arraylength, 1)) (hq : pc + 1 = q) (kk : wq_Z p l e R s m args below meth c D E b N nL A Q cells slots q L (.int (wq_I (n : Int)) :: st) S) : wq_Z p l e R s m args below meth c D E b N nL A Q cells slots pc L (.ref b0 :: st) S := by
  subst hq
  intro H locs ls hW hS hl
  exact va_slen F.1 F.2.1 hX hbl hbA hS d (kk H locs ls hW hS hl)
end WQL
