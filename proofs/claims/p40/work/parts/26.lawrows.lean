/-! THE LAW'S WORLD: the first store's 284 cells, the second's, the law's own two rows of ints -/
def wq_EL (Ar : Nat → ClassId) (b : Nat) (r : Nat → Int) (k : Nat) : va_E :=
  if k < 284 then wq_EC Ar b r k else if k < 568 then wq_EC Ar (b + 284) r (k - 284) else if k = 568 then .inl (Ar 0, 3, .inl fun j => wq_I (r j)) else .inl (Ar 0, 2, .inl fun j => wq_I (r j))
theorem wq_EL_col {Ar : Nat → ClassId} {b : Nat} {r : Nat → Int} : wq_EL Ar b r 568 = .inl (Ar 0, 3, .inl fun j => wq_I (r j)) := rfl
theorem wq_EL_cnt {Ar : Nat → ClassId} {b : Nat} {r : Nat → Int} : wq_EL Ar b r 569 = .inl (Ar 0, 2, .inl fun j => wq_I (r j)) := rfl
def wq_cls (S : wq_St) : wq_St := fun k => if k < 284 then S k else fun _ => 0
def wq_clt (S : wq_St) : wq_St := fun k => if k < 284 then S (284 + k) else fun _ => 0
def wq_emb (o n : Nat) (S S' : wq_St) : wq_St := fun k => if o ≤ k ∧ k < o + n then S' (k - o) else S k
section WQEMB
variable {D : va_G} {Ar : Nat → ClassId} {E1 E2 : (Nat → Int) → Nat → va_E} {b o n1 n2 : Nat} {S S1 S' : wq_St} {H H1 : Heap}
theorem wq_Wd_part (hW : wq_Wd D E2 b n2 S H) (ho : o + n1 ≤ n2) (hE : ∀ r k, k < n1 → E2 r (o + k) = E1 r k) (hS : ∀ k, k < n1 → S1 k = S (o + k)) : wq_Wd D E1 (b + o) n1 S1 H := by
  intro k hk
  have h := hW (o + k) (by omega)
  rw [hE _ _ hk, ← hS k hk] at h
  rw [Nat.add_assoc]
  exact h
theorem wq_Wd_emb (hW : wq_Wd D E2 b n2 S H) (ho : o + n1 ≤ n2) (hE : ∀ r k, k < n1 → E2 r (o + k) = E1 r k) (hW1 : wq_Wd D E1 (b + o) n1 S' H1) (hk : ∀ q : Nat, q < H.size → (q < b + o ∨ b + o + n1 ≤ q) → H1[q]? = H[q]?) : wq_Wd D E2 b n2 (wq_emb o n1 S S') H1 := by
  intro k hk2
  unfold wq_emb
  by_cases hc : o ≤ k ∧ k < o + n1
  · rw [if_pos hc]
    have h := hW1 (k - o) (by omega)
    have e1 : E2 (S' (k - o)) k = E1 (S' (k - o)) (k - o) := by
      have := hE (S' (k - o)) (k - o) (by omega)
      rw [show o + (k - o) = k by omega] at this
      exact this
    rw [e1]
    rw [show b + o + (k - o) = b + k by omega] at h
    exact h
  · rw [if_neg hc]
    exact (hW k hk2).kept (hk _ (hW k hk2).lt (by omega))
theorem wq_Ct_emb {l : Launch} {y : MethodName} {cd : Cond} {n : Nat} {av : List Value} {rv : Option Value} (h : wq_Ct l y cd n D Ar E1 (b + o) n1 av S1 rv S') (ho : o + n1 ≤ n2) (hE : ∀ r k, k < n1 → E2 r (o + k) = E1 r k) (hS : ∀ k, k < n1 → S1 k = S (o + k)) : wq_Ct l y cd n D Ar E2 b n2 av S rv (wq_emb o n1 S S') := by
  have hA : ∀ q, wq_Ab (b + o) n1 q → wq_Ab b n2 q := fun q hq => ⟨by have := hq.1; omega, by have := hq.2; omega⟩
  unfold wq_Ct Met at h ⊢
  refine MetFree.mono h (fun a s hp => ⟨hp.1, wq_Wd_part hp.2.1 ho hE hS, hp.2.2⟩) (fun _ _ _ _ _ h => h) ?_
  rintro a s oc t hp ⟨⟨h1, h2, h3⟩, L, hL, hf⟩
  refine ⟨⟨h1, wq_Wd_emb hp.2.1 ho hE h2 (fun q hq hc => h3.2 q hq (fun hz => ?_)), h3.1, fun q hq hn => h3.2 q hq (fun hz => hn (hA q hz))⟩, L, hL, fun q hq => hA _ (hf q hq)⟩
  have h4 := hz.1
  have h5 := hz.2
  omega
theorem wq_Kx_part {U : State} (ho : o + n1 ≤ n2) (h : wq_Kx b n2 U) : wq_Kx (b + o) n1 U := by
  have hA : ∀ q, wq_Ab (b + o) n1 q → wq_Ab b n2 q := fun q hq => ⟨by have := hq.1; omega, by have := hq.2; omega⟩
  exact ⟨h.1, h.2.1, vx_Zq.narrow h.2.2.1 hA, vx_Zq.narrow h.2.2.2 hA⟩
theorem wq_Cx_emb {l : Launch} {y : MethodName} {cd : Cond} {n mc ms k : Nat} {av : List Value} {rv : Option Value} (h : wq_Cx l y cd n mc ms D Ar E1 (b + o) n1 av S1 k rv S') (ho : o + n1 ≤ n2) (hE : ∀ r k, k < n1 → E2 r (o + k) = E1 r k) (hS : ∀ k, k < n1 → S1 k = S (o + k)) : wq_Cx l y cd n mc ms D Ar E2 b n2 av S k rv (wq_emb o n1 S S') := by
  intro sz
  have hA : ∀ q, wq_AX (b + o) n1 sz q → wq_AX b n2 sz q := fun q hq => hq.elim (fun hq => Or.inl ⟨by have := hq.1; omega, by have := hq.2; omega⟩) Or.inr
  refine MetFree.mono (h sz) (fun a s hp => ⟨hp.1, hp.2.1, wq_Wd_part hp.2.2.1 ho hE hS, hp.2.2.2.1, wq_Kx_part ho hp.2.2.2.2⟩) (fun _ _ _ _ _ h => h) ?_
  have key : ∀ (a : Array Value) (s t : State), wq_Px D Ar E2 b n2 av S sz a s → wq_Wd D E1 (b + o) n1 S' t.heap → va_F (wq_AX (b + o) n1 sz) s t → wq_Wd D E2 b n2 (wq_emb o n1 S S') t.heap ∧ va_F (wq_AX b n2 sz) s t := by
    intro a s t hp h2 h3
    refine ⟨wq_Wd_emb hp.2.2.1 ho hE h2 (fun q hq hc => h3.2 q hq (fun hz => ?_)), h3.1, fun q hq hn => h3.2 q hq (fun hz => hn (hA q hz))⟩
    have hsz := hp.2.1
    rcases hz with hz | hz
    · have h4 := hz.1
      have h5 := hz.2
      omega
    · omega
  rintro a s oc t hp hq
  rcases hq with ⟨⟨h0, h1, h2, h3⟩, L, hL, hf⟩ | ⟨q, hoc, En, ce, L, ⟨h0, h1, h2, h3⟩, g1, g2, g3, g4, g5, g6⟩
  · obtain ⟨k1, k2⟩ := key a s t hp h2 h3
    exact Or.inl ⟨⟨h0, h1, k1, k2⟩, L, hL, fun q hq => hA _ (hf q hq)⟩
  · obtain ⟨k1, k2⟩ := key a s t hp h2 h3
    exact Or.inr ⟨q, hoc, En, ce, L, ⟨h0, h1, k1, k2⟩, g1, g2, g3, g4, g5, fun z hz => hA _ (g6 z hz)⟩
end WQEMB
theorem wq_EL_a {Ar : Nat → ClassId} {b : Nat} : ∀ (r : Nat → Int) (k : Nat), k < 284 → wq_EL Ar b r (0 + k) = wq_EC Ar b r k := fun r k hk => by
  rw [Nat.zero_add]
  exact if_pos hk
theorem wq_EL_b {Ar : Nat → ClassId} {b : Nat} : ∀ (r : Nat → Int) (k : Nat), k < 284 → wq_EL Ar b r (284 + k) = wq_EC Ar (b + 284) r k := fun r k hk => by
  unfold wq_EL
  rw [if_neg (by omega), if_pos (by omega), Nat.add_sub_cancel_left]
theorem wq_cls_at (S : wq_St) : ∀ k, k < 284 → wq_cls S k = S (0 + k) := fun k hk => by
  rw [Nat.zero_add]
  exact if_pos hk
theorem wq_clt_at (S : wq_St) : ∀ k, k < 284 → wq_clt S k = S (284 + k) := fun _ hk => if_pos hk
/-- a callee of the law that returns, or throws and is caught -/
def wq_bh {α β : Type} (x : Option (Nat × β × wq_St)) (k : β → wq_St → Option α) (kt : Nat → wq_St → Option α) : Option α := match x with
  | none => none
  | some (0, r, S) => k r S
  | some (n + 1, _, S) => kt (n + 1) S
theorem wq_bh_some {α β : Type} {x : Option (Nat × β × wq_St)} {k : β → wq_St → Option α} {kt : Nat → wq_St → Option α} {o : α} (h : wq_bh x k kt = some o) :
    (∃ (r : β) (S : wq_St), x = some (0, r, S) ∧ k r S = some o) ∨ ∃ (n : Nat) (r : β) (S : wq_St), x = some (n + 1, r, S) ∧ kt (n + 1) S = some o := by
  cases x with
  | none => cases h
  | some q =>
    obtain ⟨n, r, S⟩ := q
    cases n with
    | zero => exact Or.inl ⟨r, S, rfl, h⟩
    | succ n => exact Or.inr ⟨n, r, S, rfl, h⟩
/-- what the wrappers take from the start beside: which exception is no other's -/
def wq_Nx (U : State) : Prop := va_Nc "java/lang/IllegalArgumentException" "java/lang/IndexOutOfBoundsException" U ∧ va_Nc "java/lang/IllegalStateException" "java/lang/IndexOutOfBoundsException" U ∧ va_Nc "java/lang/IllegalStateException" "java/lang/IllegalArgumentException" U
theorem wq_Nx.moved {u U : State} (hvm : u.vm.Alike U.vm) (h : wq_Nx u) : wq_Nx U := ⟨va_Nc.moved hvm h.1, va_Nc.moved hvm h.2.1, va_Nc.moved hvm h.2.2⟩
def wq_Pw (D : va_G) (Ar : Nat → ClassId) (E : (Nat → Int) → Nat → va_E) (b N : Nat) (av : List Value) (S : wq_St) (sz : Nat) : Array Value → State → Prop := va_Pc av (fun U => U.heap.size = sz ∧ wq_Wd D E b N S U.heap ∧ va_K D vwCl (wq_tys Ar) U ∧ wq_Kx b N U ∧ wq_Nx U)
def wq_Cw (l : Launch) (y : MethodName) (cd : Cond) (n mc ms : Nat) (D : va_G) (Ar : Nat → ClassId) (E : (Nat → Int) → Nat → va_E) (b N : Nat) (av : List Value) (S : wq_St) (rv : Option Value) (S' : wq_St) : Prop :=
  ∀ sz : Nat, vx_Met l y (wq_ws cd) (wq_rm n mc ms) (wq_Pw D Ar E b N av S sz) (wq_Qx D E b N 0 rv S' sz) (wq_Xx D E b N 0 S' sz) mc ms (wq_AX b N sz)
theorem wq_blindw (D : va_G) (Ar : Nat → ClassId) (E : (Nat → Int) → Nat → va_E) (b N : Nat) (av : List Value) (S : wq_St) (sz : Nat) : FrameBlind (wq_Pw D Ar E b N av S sz) := fun a U g mk h => ⟨h.1, h.2.1, h.2.2.1, va_K.moved (u := U) (U := U.calling g mk a) (Vm.Alike.refl U.vm) h.2.2.2.1, wq_Kx_same (s := U) (U := U.calling g mk a) rfl rfl h.2.2.2.2.1, wq_Nx.moved (u := U) (U := U.calling g mk a) (Vm.Alike.refl U.vm) h.2.2.2.2.2⟩
theorem wq_startw {l : Launch} {y : MethodName} {cc : ByteArray} {maxL n mc ms b N : Nat} {ret : Option FieldType} {hh : List (Nat × Nat × Nat × Nat)} {D : va_G} {Ar : Nat → ClassId} {E : (Nat → Int) → Nat → va_E} {av : List Value} {S S' : wq_St} {rv : Option Value} (own : String) (L0 : List (Option Value)) (hy : plainName y.cls = true) (hcls : y.cls = own) (hlen : (lg_sl av).length ≤ maxL) (hL0 : wq_args maxL av = L0)
    (body : ∀ p e s m args below meth c, wq_Fr p s m args meth c cc maxL ret own D Ar → wq_Kx b N s → wq_Nx s → c.exceptionTable.toList = tableOf hh → wq_Z p l e (wq_rm n mc ms) s m args below meth c D E b N maxL (wq_AX b N s.heap.size) (wq_MX below D E b N 0 rv S' args s mc ms) 0 0 0 L0 [] S) : wq_Cw l y (.codeWith y cc maxL ret hh) n mc ms D Ar E b N av S rv S' := by
  intro sz
  refine vx_ofWH (cc := cc) (maxL := maxL) (ret := ret) (hh := hh) hy rfl ?_
  intro p e s m args below meth c s₁ B hml hv
  obtain ⟨rfl, rfl, hW, hK, hKx, hNx⟩ := hv
  have hts := atoms_spec (ws := wq_ws (.codeWith y cc maxL ret hh)) B.pre
  have F : wq_Fr p s m av.toArray meth c cc maxL ret own D Ar := ⟨B.exec, B.bytes, hml, hcls ▸ findClass_of_methodNamed B.named, fun w h => hts w (List.mem_cons_of_mem _ h), hK, B.returns, B.notSynchronized⟩
  rw [lg_entry_eq]
  exact body p e s m _ below meth c F hKx hNx (vx_table (x := y) B (hts _ List.mem_cons_self)) s.heap [] _ hW va_S.rf (hL0 ▸ wq_entry av hlen)
theorem wq_Cw_emb {D : va_G} {Ar : Nat → ClassId} {E1 E2 : (Nat → Int) → Nat → va_E} {b o n1 n2 : Nat} {S S1 S' : wq_St} {l : Launch} {y : MethodName} {cd : Cond} {n mc ms : Nat} {av : List Value} {rv : Option Value} (h : wq_Cw l y cd n mc ms D Ar E1 (b + o) n1 av S1 rv S') (ho : o + n1 ≤ n2) (hE : ∀ r k, k < n1 → E2 r (o + k) = E1 r k) (hS : ∀ k, k < n1 → S1 k = S (o + k)) : wq_Cw l y cd n mc ms D Ar E2 b n2 av S rv (wq_emb o n1 S S') := by
  intro sz
  have hA : ∀ q, wq_AX (b + o) n1 sz q → wq_AX b n2 sz q := fun q hq => hq.elim (fun hq => Or.inl ⟨by have := hq.1; omega, by have := hq.2; omega⟩) Or.inr
  refine MetFree.mono (h sz) (fun a s hp => ⟨hp.1, hp.2.1, wq_Wd_part hp.2.2.1 ho hE hS, hp.2.2.2.1, wq_Kx_part ho hp.2.2.2.2.1, hp.2.2.2.2.2⟩) (fun _ _ _ _ _ h => h) ?_
  have key : ∀ (a : Array Value) (s t : State), wq_Pw D Ar E2 b n2 av S sz a s → wq_Wd D E1 (b + o) n1 S' t.heap → va_F (wq_AX (b + o) n1 sz) s t → wq_Wd D E2 b n2 (wq_emb o n1 S S') t.heap ∧ va_F (wq_AX b n2 sz) s t := by
    intro a s t hp h2 h3
    refine ⟨wq_Wd_emb hp.2.2.1 ho hE h2 (fun q hq hc => h3.2 q hq (fun hz => ?_)), h3.1, fun q hq hn => h3.2 q hq (fun hz => hn (hA q hz))⟩
    have hsz := hp.2.1
    rcases hz with hz | hz
    · have h4 := hz.1
      have h5 := hz.2
      omega
    · omega
  rintro a s oc t hp hq
  rcases hq with ⟨⟨h0, h1, h2, h3⟩, L, hL, hf⟩ | ⟨q, hoc, En, ce, L, ⟨h0, h1, h2, h3⟩, g1, g2, g3, g4, g5, g6⟩
  · obtain ⟨k1, k2⟩ := key a s t hp h2 h3
    exact Or.inl ⟨⟨h0, h1, k1, k2⟩, L, hL, fun q hq => hA _ (hf q hq)⟩
  · obtain ⟨k1, k2⟩ := key a s t hp h2 h3
    exact Or.inr ⟨q, hoc, En, ce, L, ⟨h0, h1, k1, k2⟩, g1, g2, g3, g4, g5, fun z hz => hA _ (g6 z hz)⟩
theorem wq_startw0 {l : Launch} {y : MethodName} {cc : ByteArray} {maxL n mc ms b N : Nat} {ret : Option FieldType} {D : va_G} {Ar : Nat → ClassId} {E : (Nat → Int) → Nat → va_E} {av : List Value} {S S' : wq_St} {rv : Option Value} (own : String) (L0 : List (Option Value)) (hy : plainName y.cls = true) (hcls : y.cls = own) (hlen : (lg_sl av).length ≤ maxL) (hL0 : wq_args maxL av = L0)
    (body : ∀ p e s m args below meth c, wq_Fr p s m args meth c cc maxL ret own D Ar → wq_Kx b N s → wq_Nx s → (∀ x ∈ c.exceptionTable.toList, False) → wq_Z p l e (wq_rm n mc ms) s m args below meth c D E b N maxL (wq_AX b N s.heap.size) (wq_MX below D E b N 0 rv S' args s mc ms) 0 0 0 L0 [] S) : wq_Cw l y (.code y cc maxL ret) n mc ms D Ar E b N av S rv S' := by
  intro sz
  refine vx_ofW (cc := cc) (maxL := maxL) (ret := ret) hy rfl ?_
  intro p e s m args below meth c s₁ B hml htab hv
  obtain ⟨rfl, rfl, hW, hK, hKx, hNx⟩ := hv
  have hts := atoms_spec (ws := wq_ws (.code y cc maxL ret)) B.pre
  have F : wq_Fr p s m av.toArray meth c cc maxL ret own D Ar := ⟨B.exec, B.bytes, hml, hcls ▸ findClass_of_methodNamed B.named, fun w h => hts w (List.mem_cons_of_mem _ h), hK, B.returns, B.notSynchronized⟩
  rw [lg_entry_eq]
  exact body p e s m _ below meth c F hKx hNx htab s.heap [] _ hW va_S.rf (hL0 ▸ wq_entry av hlen)
/-- the draw of the script's number: its world is the script alone -/
def wq_Pd (D : va_G) (Ar : Nat → ClassId) (b0 LL : Nat) (X : Nat → Int) (k : Int) : Array Value → State → Prop := va_Pc [.ref b0, .int (wq_I k)] (fun U => va_X b0 LL (fun j => wq_I (X j)) U U.heap ∧ b0 < U.heap.size ∧ va_K D vwCl (wq_tys Ar) U)
def wq_Cd (l : Launch) (D : va_G) (Ar : Nat → ClassId) (b0 LL : Nat) (X : Nat → Int) (k r : Int) (S0 : wq_St) : Prop :=
  Met l yL_drawn (wq_ws (.code yL_drawn cL_drawn 3 (some .int))) (wq_rm 1 0 0) (wq_Pd D Ar b0 LL X k) (wq_Qc D (wq_EC Ar 0) 0 0 (some (.int (wq_I r))) S0) 0 0 (wq_Ab 0 0)
theorem wq_blindd (D : va_G) (Ar : Nat → ClassId) (b0 LL : Nat) (X : Nat → Int) (k : Int) : FrameBlind (wq_Pd D Ar b0 LL X k) := fun a U g mk h => ⟨h.1, va_X.moved (u := U) (U := U.calling g mk a) (Vm.Alike.refl U.vm) h.2.1, h.2.2.1, va_K.moved (u := U) (U := U.calling g mk a) (Vm.Alike.refl U.vm) h.2.2.2⟩
theorem wq_startd {l : Launch} {D : va_G} {Ar : Nat → ClassId} {b0 LL : Nat} {X : Nat → Int} {k r : Int} {S S0 : wq_St} (L0 : List (Option Value)) (hL0 : wq_args 3 [.ref b0, .int (wq_I k)] = L0)
    (body : ∀ p e s m args below meth c, wq_Fr p s m args meth c cL_drawn 3 (some .int) "WharfQueryLaw" D Ar → va_X b0 LL (fun j => wq_I (X j)) s s.heap → b0 < s.heap.size → wq_Z p l e (wq_rm 1 0 0) s m args below meth c D (wq_EC Ar 0) 0 0 3 (wq_Ab 0 0) (MQ below (wq_Qc D (wq_EC Ar 0) 0 0 (some (.int (wq_I r))) S0) args s 0 0 (wq_Ab 0 0)) 0 0 0 L0 [] S) : wq_Cd l D Ar b0 LL X k r S0 := by
  refine Met.ofW (cc := cL_drawn) (maxL := 3) (ret := some .int) (by decide +kernel) rfl ?_
  intro p e s m args below meth c s₁ B hml hv
  obtain ⟨rfl, hX, hbl, hK⟩ := hv
  have hts := atoms_spec (ws := wq_ws (.code yL_drawn cL_drawn 3 (some .int))) B.pre
  have F : wq_Fr p s m ([.ref b0, .int (wq_I k)] : List Value).toArray meth c cL_drawn 3 (some .int) "WharfQueryLaw" D Ar := ⟨B.exec, B.bytes, hml, findClass_of_methodNamed B.named, fun w h => hts w (List.mem_cons_of_mem _ h), hK, B.returns, B.notSynchronized⟩
  rw [lg_entry_eq]
  exact body p e s m _ below meth c F hX hbl s.heap [] _ (fun k h => absurd h (Nat.not_lt_zero k)) va_S.rf (hL0 ▸ wq_entry [.ref b0, .int (wq_I k)] (Nat.le_of_ble_eq_true rfl))
def wq_LkW (own : String) (idx : Nat) (y : MethodName) (bytes : ByteArray) (maxL : Nat) (ret : Option FieldType) (hh : List (Nat × Nat × Nat × Nat)) (np : Nat) : Prop :=
  Cond.methodLink own idx y ∈ wq_aw ∧ Cond.static y ∈ wq_aw ∧ Cond.initialized y.cls ∈ wq_aw ∧ Cond.codeWith y bytes maxL ret hh ∈ wq_aw ∧ (y.cls ≠ "java/lang/invoke/MethodHandle" ∧ y.cls ≠ "java/lang/invoke/VarHandle" ∧ (parseMethodDescriptor y.desc).map (fun d => d.parameters.length) = some np)
section WQL
variable {p : Program} {l : Launch} {e : Env} {R : Room} {s : State} {m : MethodId} {args : Array Value} {below : List Frame} {meth : Method} {c : Code} {D : va_G} {Ar : Nat → ClassId} {E : (Nat → Int) → Nat → va_E} {b N nL : Nat} {A : Nat → Prop} {Q : State → Prop} {cells slots pc q : Nat} {L : List (Option Value)} {st : List Value} {S S' : wq_St}
variable {cc bytes : ByteArray} {own : String} {ret rt : Option FieldType} {H : Heap} {locs : List Loc} {y : MethodName} {idx maxL np n k : Nat} {As rest st0 : List Value} {rv : Option Value} {mc ms : Nat}
/-- a call that throws, caught here -/
theorem wq_callVc (F : wq_Fr p s m args meth c cc nL ret own D Ar) (K : wq_Kx b N s) {b9 ci nf : Nat} {T : u_T} {fs : List Value} (lk : wq_LkV own idx y bytes maxL rt np) (hM : wq_Cx l y (.code y bytes maxL rt) n mc ms D Ar E b N (.ref (b + b9) :: As) S (k + 1) rv S') (hR : n + 1 ≤ R.frames ∧ 8 + (maxL + 11) + 40 * n ≤ R.locals) (hc0 : cells + mc ≤ R.cells ∧ slots + ms ≤ R.slots) (hk0 : b9 < N) (hE : E (S b9) b9 = .inr (ci, fs)) (hcl : vwCl[ci]? = some (y.cls, T, nf)) (hn : As.length = np) (hst : st0 = As.reverse ++ .ref (b + b9) :: rest) (hcat : (rest.map fun v => v.category).sum ≤ 8) (d : decode cc pc = .ok (.invokevirtual idx, 3))
    {name : String} (hname : wq_ex (k + 1) = name) (pre : List ExceptionTableEntry) (x : ExceptionTableEntry) (suf : List ExceptionTableEntry) (hsplit : c.exceptionTable.toList = pre ++ x :: suf) (hpass : ∀ z ∈ pre, z.catchType ≠ 0 ∧ ∃ nm : String, Cond.classLink own z.catchType nm ∈ wq_aw ∧ va_Nc name nm s) (hx : covers x pc = true) (h0 : x.catchType ≠ 0) (hlink : Cond.classLink own x.catchType name ∈ wq_aw) (hcast : Cond.castable name name ∈ wq_nw)
    (kk : ∀ q9 : Nat, wq_Z p l e R s m args below meth c D E b N nL (wq_AX b N s.heap.size) Q (cells + mc) (slots + ms) x.handlerPc L [.ref q9] S') : wq_Z p l e R s m args below meth c D E b N nL (wq_AX b N s.heap.size) Q cells slots pc L st0 S := by
  subst hst
  subst hname
  intro H locs ls hW hS hl
  have hts := F.2.2.2.2.1
  have hP : va_P D vwCl [(b + b9, .inr (ci, fs))] H := by
    intro i x hx
    match i, hx with
    | 0, hx =>
      cases hx
      have h := hW b9 hk0
      rw [hE] at h
      exact h
  refine wq_gox (vx_runV (Ts := wq_aw) (C := y.cls) (n := np) (ws := wq_ws (.code y bytes maxL rt)) (As := As) (rest := rest) ⟨F.1, F.2.1, F.2.2.1, F.2.2.2.1, hts⟩ (hM H.size) ⟨wq_callB hts lk.1 rfl rfl hR, hts _ lk.2.1, hts _ lk.2.2⟩ ⟨wq_blindx _ _ _ _ _ _ _ _, va_recv F.2.2.2.2.2.1 hP hcl (q0 := 0) rfl, fun U hU hW9 => ⟨rfl, by rw [hU], by rw [hU]; exact hW, va_K.moved hW9.alike F.2.2.2.2.2.1, wq_Kx_at (locs := locs) hW9 (by rw [hU]; exact hS) K⟩⟩ rfl hn hl.1 rfl (by show 2 * 0 + _ ≤ 8; omega) d hc0) hS (fun h => absurd h (Nat.succ_ne_zero k)) (fun hk1 H1 locs1 q9 ce hW1 hS1 hce hcv hcl9 => ?_)
  have hcast9 : (Cond.castable (wq_ex (k + 1)) (wq_ex (k + 1))).before args s = true := va_Nw.use rfl (K.1 _ hcast)
  exact vx_catch F.2.2.2.1 pre x suf hsplit (fun z hz => by
    obtain ⟨h1, nm, h2, h3⟩ := hpass z hz
    exact Or.inr ⟨h1, nm, hts _ h2, h3⟩) hx h0 (hts _ hlink) hcast9 hce hcv hcl9 (kk q9 H1 locs1 ls hW1 hS1 hl)
/-- a call of a wrapper -/
theorem wq_callW (F : wq_Fr p s m args meth c cc nL ret own D Ar) (K : wq_Kx b N s) (Kn : wq_Nx s) {hh : List (Nat × Nat × Nat × Nat)} (lk : wq_LkW own idx y bytes maxL rt hh np) (hM : wq_Cw l y (.codeWith y bytes maxL rt hh) n mc ms D Ar E b N As S rv S') (hR : n + 1 ≤ R.frames ∧ 8 + (maxL + 11) + 40 * n ≤ R.locals) (hc0 : cells + mc ≤ R.cells ∧ slots + ms ≤ R.slots) (hn : As.length = np) (hst : st0 = As.reverse ++ rest) (hcat : (rest.map fun v => v.category).sum ≤ 8) (d : decode cc pc = .ok (.invokestatic idx, 3)) (hq : pc + 3 = q)
    (kk : wq_Z p l e R s m args below meth c D E b N nL (wq_AX b N s.heap.size) Q (cells + mc) (slots + ms) q L (rv.toList ++ rest) S') : wq_Z p l e R s m args below meth c D E b N nL (wq_AX b N s.heap.size) Q cells slots pc L st0 S := by
  subst hq
  subst hst
  intro H locs ls hW hS hl
  have hts := F.2.2.2.2.1
  obtain ⟨g1, g2, g3, g4, g5⟩ := lk
  have hws : ∀ w ∈ wq_ws (Cond.codeWith y bytes maxL rt hh), ∀ (a' : Array Value) (U : State), s.WarmedH U.vm → w.before a' U = true := pay_in (big := wq_aw) hts (fun w hw => by
    rcases List.mem_cons.mp hw with rfl | hw
    · exact ⟨g4, good_of_word (wq_aw_good _ g4)⟩
    · exact ⟨hw, good_of_word (wq_aw_good _ hw)⟩)
  refine wq_gox (vx_runSX (Ts := wq_aw) (n := np) (ws := wq_ws (.codeWith y bytes maxL rt hh)) (rm := wq_rm n mc ms) (As := As) (rest := rest) ⟨F.1, F.2.1, F.2.2.1, F.2.2.2.1, hts⟩ (hM H.size) ⟨⟨rfl, rfl, hR.1, hR.2, hws, List.mem_cons_self⟩, hts _ g4, hts _ g3, ⟨g5.1, g5.2.1⟩, fun sig h => ?_, hts _ g1, hts _ g2⟩ ⟨wq_blindw _ _ _ _ _ _ _ _, fun U hU hW9 => ⟨rfl, by rw [hU], by rw [hU]; exact hW, va_K.moved hW9.alike F.2.2.2.2.2.1, wq_Kx_at (locs := locs) hW9 (by rw [hU]; exact hS) K, wq_Nx.moved hW9.alike Kn⟩⟩ rfl hn hl.1 rfl (by show 2 * 0 + _ ≤ 8; omega) d hc0) hS (fun _ H1 locs1 hW1 hS1 => kk H1 locs1 ls hW1 hS1 hl) (fun h => absurd rfl h)
  have h2 := g5.2.2
  rw [h] at h2
  exact (Option.some.inj h2).symm
theorem wq_callW0 (F : wq_Fr p s m args meth c cc nL ret own D Ar) (K : wq_Kx b N s) (Kn : wq_Nx s) (lk : wq_LkS own idx y bytes maxL rt np) (hM : wq_Cw l y (.code y bytes maxL rt) n mc ms D Ar E b N As S rv S') (hR : n + 1 ≤ R.frames ∧ 8 + (maxL + 11) + 40 * n ≤ R.locals) (hc0 : cells + mc ≤ R.cells ∧ slots + ms ≤ R.slots) (hn : As.length = np) (hst : st0 = As.reverse ++ rest) (hcat : (rest.map fun v => v.category).sum ≤ 8) (d : decode cc pc = .ok (.invokestatic idx, 3)) (hq : pc + 3 = q)
    (kk : wq_Z p l e R s m args below meth c D E b N nL (wq_AX b N s.heap.size) Q (cells + mc) (slots + ms) q L (rv.toList ++ rest) S') : wq_Z p l e R s m args below meth c D E b N nL (wq_AX b N s.heap.size) Q cells slots pc L st0 S := by
  subst hq
  subst hst
  intro H locs ls hW hS hl
  have hts := F.2.2.2.2.1
  exact wq_gox (vx_runS (Ts := wq_aw) (n := np) (ws := wq_ws (.code y bytes maxL rt)) (As := As) (rest := rest) ⟨F.1, F.2.1, F.2.2.1, F.2.2.2.1, hts⟩ (hM H.size) ⟨wq_callB hts lk.1 rfl rfl hR, hts _ lk.2⟩ ⟨wq_blindw _ _ _ _ _ _ _ _, fun U hU hW9 => ⟨rfl, by rw [hU], by rw [hU]; exact hW, va_K.moved hW9.alike F.2.2.2.2.2.1, wq_Kx_at (locs := locs) hW9 (by rw [hU]; exact hS) K, wq_Nx.moved hW9.alike Kn⟩⟩ rfl hn hl.1 rfl (by show 2 * 0 + _ ≤ 8; omega) d hc0) hS (fun _ H1 locs1 hW1 hS1 => kk H1 locs1 ls hW1 hS1 hl) (fun h => absurd rfl h)
theorem wq_rund (F : wq_Fr p s m args meth c cc nL ret own D Ar) {b0 LL : Nat} {X : Nat → Int} {k9 r9 : Int} {S9 : wq_St} (hX : va_X b0 LL (fun j => wq_I (X j)) s s.heap) (hbl : b0 < s.heap.size) (hbA : ¬ A b0) (lk : wq_LkS own idx yL_drawn cL_drawn 3 (some .int) 2) (hM : wq_Cd l D Ar b0 LL X k9 r9 S9) (hR : 1 + 1 ≤ R.frames ∧ 8 + (3 + 11) + 40 * 1 ≤ R.locals) (hc0 : cells ≤ R.cells ∧ slots ≤ R.slots) (hst : st0 = .int (wq_I k9) :: .ref b0 :: rest) (hcat : (rest.map fun v => v.category).sum ≤ 8) (d : decode cc pc = .ok (.invokestatic idx, 3)) {ls : Array Slot} (hS : va_S A s.heap H locs) (hl : wq_has ls nL L)
    (kk : ∀ (H1 : Heap) (L1 : List Loc) (T1 : State), T1.heap = H1 → Stand p l e R s m args below meth c T1 L1 cells slots → (∀ q : Nat, q < H.size → H1[q]? = H[q]?) → H.size ≤ H1.size → va_S A s.heap H1 L1 → W p l e R s m args below meth c H1 L1 cells slots Q (F0 m (pc + 3) ls (.int (wq_I r9) :: rest))) : W p l e R s m args below meth c H locs cells slots Q (F0 m pc ls st0) := by
  subst hst
  have hts := F.2.2.2.2.1
  have hr := va_runS (p := p) (l := l) (e := e) (below := below) (meth := meth) (H := H) (locs := locs) (cells := cells) (slots := slots) (g := F0 m pc ls (.int (wq_I k9) :: .ref b0 :: rest)) (Ts := wq_aw) (n := 2) (ws := wq_ws (.code yL_drawn cL_drawn 3 (some .int))) (As := [.ref b0, .int (wq_I k9)]) (rest := rest) ⟨F.1, F.2.1, F.2.2.1, F.2.2.2.1, hts⟩ hM ⟨wq_callB hts lk.1 rfl rfl hR, hts _ lk.2⟩ ⟨wq_blindd _ _ _ _ _ _, fun U hU hW9 => ⟨rfl, va_X.moved hW9.alike (va_X.kept hX (by rw [hU]; exact hS.2.1 b0 hbl hbA)), by rw [hU]; exact Nat.lt_of_lt_of_le hbl hS.1, va_K.moved hW9.alike F.2.2.2.2.2.1⟩⟩ rfl rfl hl.1 rfl (by show 2 * 0 + _ ≤ 8; omega) d ⟨hc0.1, hc0.2⟩
  intro T hT X9
  obtain ⟨v, st₀, t, T', Lx, h0, X', hL, e1, e2, ⟨hv, -, hz, hk⟩, st⟩ := hr T hT X9
  cases hv
  rw [h0] at hz hk
  have hz' : H.size ≤ T'.heap.size := by rw [e1]; exact hz
  have hk' : ∀ q : Nat, q < H.size → T'.heap[q]? = H[q]? := fun q hq => by
    rw [e1]
    exact hk q hq (fun h => absurd h.2 (by omega))
  obtain ⟨t2, a1, b1⟩ := kk T'.heap (locs ++ Lx) T' rfl X' hk' hz'
    ⟨Nat.le_trans hS.1 hz', fun q h1 h2 => by rw [hk' q (Nat.lt_of_lt_of_le h1 hS.1)]; exact hS.2.1 q h1 h2, fun q hq => by
      rcases List.mem_append.mp hq with h | h
      · exact hS.2.2 q h
      · exact absurd (hL q h).2 (by omega)⟩ T' rfl X'
  exact ⟨t2, st t2 a1, b1⟩
theorem wq_callD (F : wq_Fr p s m args meth c cc nL ret own D Ar) {b0 LL : Nat} {X : Nat → Int} {k9 r9 : Int} {S9 : wq_St} (hX : va_X b0 LL (fun j => wq_I (X j)) s s.heap) (hbl : b0 < s.heap.size) (hbA : ¬ A b0) (lk : wq_LkS own idx yL_drawn cL_drawn 3 (some .int) 2) (hM : wq_Cd l D Ar b0 LL X k9 r9 S9) (hR : 1 + 1 ≤ R.frames ∧ 8 + (3 + 11) + 40 * 1 ≤ R.locals) (hc0 : cells ≤ R.cells ∧ slots ≤ R.slots) (hst : st0 = .int (wq_I k9) :: .ref b0 :: rest) (hcat : (rest.map fun v => v.category).sum ≤ 8) (d : decode cc pc = .ok (.invokestatic idx, 3)) (hq : pc + 3 = q)
    (kk : wq_Z p l e R s m args below meth c D E b N nL A Q cells slots q L (.int (wq_I r9) :: rest) S) : wq_Z p l e R s m args below meth c D E b N nL A Q cells slots pc L st0 S := by
  subst hq
  intro H locs ls hW hS hl
  exact wq_rund F hX hbl hbA lk hM hR hc0 hst hcat d hS hl (fun H1 L1 T1 _ _ hk _ hS1 => kk H1 L1 ls (wq_Wd_keep hW hk) hS1 hl)
theorem wq_ldcI (F : wq_Fr p s m args meth c cc nL ret own D Ar) {index : Nat} {v : Int} {v9 : Int32} (d : decode cc pc = .ok (.ldc index, 2)) (hw : Cond.constant own index v9 ∈ wq_aw) (hv : v9 = wq_I v) (hq : pc + 2 = q) (kk : wq_Z p l e R s m args below meth c D E b N nL A Q cells slots q L (.int (wq_I v) :: st) S) : wq_Z p l e R s m args below meth c D E b N nL A Q cells slots pc L st S := by
  subst hq
  intro H locs ls hW hS hl
  subst hv
  exact lv_ldc F.1 F.2.1 F.2.2.2.1 (F.2.2.2.2.1 _ hw) d (kk H locs ls hW hS hl)
/-- the script -/
theorem wq_sld (F : wq_Fr p s m args meth c cc nL ret own D Ar) {b0 n t : Nat} {X : Nat → Int} {i : Int} (hX : va_X b0 n (fun j => wq_I (X j)) s s.heap) (hbl : b0 < s.heap.size) (hbA : ¬ A b0) (ht : t < n) (hi : wq_w i = (t : Int)) (d : decode cc pc = .ok (.iaload, 1)) (hq : pc + 1 = q) (kk : wq_Z p l e R s m args below meth c D E b N nL A Q cells slots q L (.int (wq_I (X t)) :: st) S) : wq_Z p l e R s m args below meth c D E b N nL A Q cells slots pc L (.int (wq_I i) :: .ref b0 :: st) S := by
  subst hq
  intro H locs ls hW hS hl
  have hin : vp_in (wq_I i) n := vp_in_iff.mpr (by show 0 ≤ wq_w i ∧ wq_w i < (n : Int); omega)
  have et : (wq_I i).toNatClampNeg = t := by show (wq_w i).toNat = t; omega
  refine va_sld F.1 F.2.1 hX hbl hbA hS hin d ?_
  rw [et]
  exact kk H locs ls hW hS hl
theorem wq_slen (F : wq_Fr p s m args meth c cc nL ret own D Ar) {b0 n : Nat} {X : Nat → Int} (hX : va_X b0 n (fun j => wq_I (X j)) s s.heap) (hbl : b0 < s.heap.size) (hbA : ¬ A b0) (d : decode cc pc = .ok (.arraylength, 1)) (hq : pc + 1 = q) (kk : wq_Z p l e R s m args below meth c D E b N nL A Q cells slots q L (.int (wq_I (n : Int)) :: st) S) : wq_Z p l e R s m args below meth c D E b N nL A Q cells slots pc L (.ref b0 :: st) S := by
  subst hq
  intro H locs ls hW hS hl
  exact va_slen F.1 F.2.1 hX hbl hbA hS d (kk H locs ls hW hS hl)
end WQL
