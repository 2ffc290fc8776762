/-! THE STATE AS NUMBERS. A cell of the world stands at base + offset; what it holds of numbers is a row of Int, read as 32 or 64 bits where the machine looks. -/
abbrev wq_St : Type := Nat → Nat → Int
def wq_set (S : wq_St) (k j : Nat) (v : Int) : wq_St := fun a i => if a = k ∧ i = j then v else S a i
def wq_I (x : Int) : Int32 := Int32.ofInt x
def wq_J (x : Int) : Int64 := Int64.ofInt x
/-- the number that the machine sees of it: 32 bits, 64 bits -/
def wq_w (x : Int) : Int := (wq_I x).toInt
def wq_v (x : Int) : Int := (wq_J x).toInt
theorem wq_bmod {z : Int} (h1 : -2147483648 ≤ z) (h2 : z < 2147483648) : z.bmod (2 ^ 32) = z := by
  rw [Int.bmod_def]
  split <;> omega
theorem wq_bmodL {z : Int} (h1 : -9223372036854775808 ≤ z) (h2 : z < 9223372036854775808) : z.bmod (2 ^ 64) = z := by
  rw [Int.bmod_def]
  split <;> omega
theorem wq_w_id {x : Int} (h1 : -2147483648 ≤ x) (h2 : x < 2147483648) : wq_w x = x := by
  unfold wq_w wq_I
  rw [Int32.toInt_ofInt]
  exact wq_bmod h1 h2
theorem wq_v_id {x : Int} (h1 : -9223372036854775808 ≤ x) (h2 : x < 9223372036854775808) : wq_v x = x := by
  unfold wq_v wq_J
  rw [Int64.toInt_ofInt]
  exact wq_bmodL h1 h2
theorem wq_w_rng (x : Int) : -2147483648 ≤ wq_w x ∧ wq_w x < 2147483648 := by
  have h1 := Int32.le_toInt (wq_I x)
  have h2 := Int32.toInt_lt (wq_I x)
  unfold wq_w
  omega
theorem wq_v_rng (x : Int) : -9223372036854775808 ≤ wq_v x ∧ wq_v x < 9223372036854775808 := by
  have h1 := Int64.le_toInt (wq_J x)
  have h2 := Int64.toInt_lt (wq_J x)
  unfold wq_v
  omega
theorem wq_I_w (x : Int) : wq_I (wq_w x) = wq_I x := Int32.ofInt_toInt _
theorem wq_J_v (x : Int) : wq_J (wq_v x) = wq_J x := Int64.ofInt_toInt _
theorem wq_I_of (x : Int32) : wq_I x.toInt = x := Int32.ofInt_toInt _
theorem wq_J_of (x : Int64) : wq_J x.toInt = x := Int64.ofInt_toInt _
theorem wq_I_add (a b : Int) : wq_I a + wq_I b = wq_I (a + b) := (Int32.ofInt_add a b).symm
theorem wq_I_sub (a b : Int) : wq_I a - wq_I b = wq_I (a - b) := (Int32.ofInt_sub a b).symm
theorem wq_I_mul (a b : Int) : wq_I a * wq_I b = wq_I (a * b) := (Int32.ofInt_mul a b).symm
theorem wq_J_add (a b : Int) : wq_J a + wq_J b = wq_J (a + b) := (Int64.ofInt_add a b).symm
theorem wq_J_sub (a b : Int) : wq_J a - wq_J b = wq_J (a - b) := (Int64.ofInt_sub a b).symm
theorem wq_J_mul (a b : Int) : wq_J a * wq_J b = wq_J (a * b) := (Int64.ofInt_mul a b).symm
theorem wq_I_div (a b : Int) : wq_I a / wq_I b = wq_I (Int.tdiv (wq_w a) (wq_w b)) := by
  apply Int32.toInt_inj.mp
  rw [Int32.toInt_div]
  unfold wq_w
  conv => rhs; unfold wq_I
  rw [Int32.toInt_ofInt]
  rfl
theorem wq_J_div (a b : Int) : wq_J a / wq_J b = wq_J (Int.tdiv (wq_v a) (wq_v b)) := by
  apply Int64.toInt_inj.mp
  rw [Int64.toInt_div]
  unfold wq_v
  conv => rhs; unfold wq_J
  rw [Int64.toInt_ofInt]
  rfl
theorem wq_I_eq (a b : Int) : wq_I a = wq_I b ↔ wq_w a = wq_w b := Int32.toInt_inj.symm
theorem wq_I_lt (a b : Int) : wq_I a < wq_I b ↔ wq_w a < wq_w b := Int32.lt_iff_toInt_lt
theorem wq_I_le (a b : Int) : wq_I a ≤ wq_I b ↔ wq_w a ≤ wq_w b := Int32.le_iff_toInt_le
theorem wq_J_eq (a b : Int) : wq_J a = wq_J b ↔ wq_v a = wq_v b := Int64.toInt_inj.symm
theorem wq_J_lt (a b : Int) : wq_J a < wq_J b ↔ wq_v a < wq_v b := Int64.lt_iff_toInt_lt
theorem wq_I_0 : wq_I 0 = 0 := rfl
theorem wq_J_0 : wq_J 0 = 0 := rfl
theorem wq_w_0 : wq_w 0 = 0 := rfl
theorem wq_i2l (a : Int) : (wq_I a).toInt64 = wq_J (wq_w a) := by
  apply Int64.toInt_inj.mp
  rw [Int32.toInt_toInt64]
  show (wq_I a).toInt = wq_v (wq_w a)
  have h := wq_w_rng a
  rw [wq_v_id (by omega) (by omega)]
  rfl
theorem wq_l2i (a : Int) : (wq_J a).toInt32 = wq_I a := Int64.toInt32_ofInt
def wq_and (a b : Int) : Int := (wq_I a &&& wq_I b).toInt
def wq_or (a b : Int) : Int := (wq_I a ||| wq_I b).toInt
def wq_shl (a b : Int) : Int := (wq_I a <<< (wq_I b &&& 31)).toInt
def wq_shr (a b : Int) : Int := (wq_I a >>> (wq_I b &&& 31)).toInt
def wq_div (a b : Int) : Int := Int.tdiv (wq_w a) (wq_w b)
def wq_rem (a b : Int) : Int := a - wq_div a b * b
def wq_divL (a b : Int) : Int := Int.tdiv (wq_v a) (wq_v b)
def wq_cmp (a b : Int) : Int := if wq_v a < wq_v b then -1 else if wq_v a = wq_v b then 0 else 1
def wq_max (a b : Int) : Int := if wq_w a < wq_w b then b else a
def wq_min (a b : Int) : Int := if wq_w b < wq_w a then b else a
/-! GUARDED STEPS of the pictures of methods: none where the machine would throw -/
def wq_gd {α : Type} (c : Prop) [Decidable c] (x : Option α) : Option α := if c then x else none
theorem wq_gd_some {α : Type} {c : Prop} [Decidable c] {x : Option α} {o : α} (h : wq_gd c x = some o) : c ∧ x = some o := by
  unfold wq_gd at h
  split at h
  · exact ⟨by assumption, h⟩
  · cases h
theorem wq_gd_t {α : Type} {c : Prop} [Decidable c] {x : Option α} (h : c) : wq_gd c x = x := if_pos h
def wq_ix {α : Type} (i : Int) (n : Nat) (k : Nat → Option α) : Option α := if 0 ≤ wq_w i ∧ wq_w i < (n : Int) then k (wq_w i).toNat else none
theorem wq_ix_some {α : Type} {i : Int} {n : Nat} {k : Nat → Option α} {o : α} (h : wq_ix i n k = some o) : ∃ t : Nat, t < n ∧ wq_w i = (t : Int) ∧ k t = some o := by
  unfold wq_ix at h
  split at h
  · rename_i hc
    exact ⟨(wq_w i).toNat, by omega, by omega, h⟩
  · cases h
theorem wq_ix_t {α : Type} {i : Int} {n : Nat} {k : Nat → Option α} (t : Nat) (h : i = (t : Int)) (ht : t < n) (hn : n < 2147483648) : wq_ix i n k = k t := by
  have e : wq_w i = (t : Int) := by rw [h]; exact wq_w_id (by omega) (by omega)
  unfold wq_ix
  rw [if_pos (by omega), e]
  rfl
def wq_lt {α β : Type} (e : β) (k : β → Option α) : Option α := k e
theorem wq_lt_some {α β : Type} {e : β} {k : β → Option α} {o : α} (h : wq_lt e k = some o) : ∃ x, x = e ∧ k x = some o := ⟨e, rfl, h⟩
/-- a callee that returns: its answer, and the state behind it -/
def wq_bd {α β : Type} (x : Option (β × wq_St)) (k : β → wq_St → Option α) : Option α := match x with
  | none => none
  | some (r, S) => k r S
theorem wq_bd_some {α β : Type} {x : Option (β × wq_St)} {k : β → wq_St → Option α} {o : α} (h : wq_bd x k = some o) : ∃ (r : β) (S : wq_St), x = some (r, S) ∧ k r S = some o := by
  cases x with
  | none => cases h
  | some q => exact ⟨q.1, q.2, rfl, h⟩
/-- a callee that returns (0), or throws (1 IndexOutOfBounds, 2 IllegalArgument, 3 IllegalState) -/
def wq_bx {α β : Type} (z : α) (x : Option (Nat × β × wq_St)) (k : β → wq_St → Option (Nat × α × wq_St)) : Option (Nat × α × wq_St) := match x with
  | none => none
  | some (0, r, S) => k r S
  | some (n + 1, _, S) => some (n + 1, z, S)
theorem wq_bx_some {α β : Type} {z : α} {x : Option (Nat × β × wq_St)} {k : β → wq_St → Option (Nat × α × wq_St)} {o : Nat × α × wq_St} (h : wq_bx z x k = some o) :
    (∃ (r : β) (S : wq_St), x = some (0, r, S) ∧ k r S = some o) ∨ ∃ (n : Nat) (r : β) (S : wq_St), x = some (n + 1, r, S) ∧ o = (n + 1, z, S) := by
  cases x with
  | none => cases h
  | some q =>
    obtain ⟨n, r, S⟩ := q
    cases n with
    | zero => exact Or.inl ⟨r, S, rfl, h⟩
    | succ n => exact Or.inr ⟨n, r, S, rfl, (Option.some.inj h).symm⟩
/-! loops: a body over what goes on, unrolled n times at most -/
def wq_loop {σ ρ : Type} (f : (σ → Option ρ) → σ → Option ρ) : Nat → σ → Option ρ
  | 0, _ => none
  | n + 1, x => f (wq_loop f n) x
theorem wq_loop_ind {σ ρ : Type} {f : (σ → Option ρ) → σ → Option ρ} {o : ρ} {P : σ → Prop} (h : ∀ rec : σ → Option ρ, (∀ x, rec x = some o → P x) → ∀ x, f rec x = some o → P x) : ∀ (n : Nat) (x : σ), wq_loop f n x = some o → P x
  | 0, _, e => by cases e
  | n + 1, x, e => h (wq_loop f n) (wq_loop_ind h n) x e
def wq_fu : Nat := 10000000
/-! THE MACHINE OVER SUCH A STATE -/
def wq_Wd (D : va_G) (E : (Nat → Int) → Nat → va_E) (b N : Nat) (S : wq_St) (H : Heap) : Prop := ∀ k : Nat, k < N → va_at D vwCl (b + k, E (S k) k) H
def wq_Ab (b N : Nat) : Nat → Prop := fun q => b ≤ q ∧ q < b + N
def wq_tys (Ar : Nat → ClassId) : List (ClassId × FieldType) := [(Ar 0, .int), (Ar 1, .boolean), (Ar 2, .array .int), (Ar 3, .object "WharfQuery$Column"), (Ar 4, .object "WharfQuery$Condition"), (Ar 5, .object "WharfQuery$Report"), (Ar 6, .object "WharfQuery$Table")]
def wq_rm (n mc ms : Nat) : Room := { frames := n, cells := mc, slots := ms, locals := 40 * n }
/-- locals by their places -/
def wq_has (ls : Array Slot) (nL : Nat) (L : List (Option Value)) : Prop := ls.size = nL ∧ lv_wf ls ∧ ∀ (i : Nat) (v : Value), L[i]? = some (some v) → ls[i]? = some (.val v)
def wq_pos : Nat → List (Option Value) → List (Nat × Value)
  | _, [] => []
  | i, none :: l => wq_pos (i + 1) l
  | i, some v :: l => (i, v) :: wq_pos (i + 1) l
theorem wq_pos_in : ∀ (l : List (Option Value)) (i j : Nat) (v : Value), (j, v) ∈ wq_pos i l → i ≤ j ∧ l[j - i]? = some (some v)
  | [], i, j, v, h => by simp [wq_pos] at h
  | none :: l, i, j, v, h => by
    obtain ⟨h1, h2⟩ := wq_pos_in l (i + 1) j v h
    refine ⟨by omega, ?_⟩
    rw [show j - i = (j - (i + 1)) + 1 by omega]
    exact h2
  | some w :: l, i, j, v, h => by
    rcases List.mem_cons.mp h with h | h
    · cases h
      exact ⟨Nat.le_refl _, by rw [Nat.sub_self]; rfl⟩
    · obtain ⟨h1, h2⟩ := wq_pos_in l (i + 1) j v h
      refine ⟨by omega, ?_⟩
      rw [show j - i = (j - (i + 1)) + 1 by omega]
      exact h2
theorem wq_in_pos : ∀ (l : List (Option Value)) (i j : Nat) (v : Value), l[j]? = some (some v) → (i + j, v) ∈ wq_pos i l
  | [], i, j, v, h => by simp at h
  | none :: l, i, 0, v, h => by simp at h
  | none :: l, i, j + 1, v, h => by
    have h2 := wq_in_pos l (i + 1) j v (by simpa using h)
    rw [show i + (j + 1) = i + 1 + j by omega]
    exact h2
  | some w :: l, i, 0, v, h => by
    have e : w = v := by simpa using h
    subst e
    exact List.mem_cons_self
  | some w :: l, i, j + 1, v, h => by
    have h2 := wq_in_pos l (i + 1) j v (by simpa using h)
    rw [show i + (j + 1) = i + 1 + j by omega]
    exact List.mem_cons_of_mem _ h2
theorem wq_has_lv {ls : Array Slot} {nL : Nat} {L : List (Option Value)} (h : wq_has ls nL L) : lv_has ls nL (wq_pos 0 L) := by
  refine ⟨h.1, h.2.1, fun q hq => ?_⟩
  obtain ⟨-, h2⟩ := wq_pos_in L 0 q.1 q.2 hq
  exact h.2.2 _ _ h2
/-- no long stands right before the place i -/
def wq_ok (L : List (Option Value)) : Nat → Bool
  | 0 => true
  | i + 1 => match L[i]? with
    | some (some v) => v.category == 1
    | _ => true
theorem wq_ok_ne {L : List (Option Value)} {i j : Nat} {v : Value} (h : wq_ok L i = true) (e : j + 1 = i) (hv : L[j]? = some (some v)) : ¬ v.category = 2 := by
  subst e
  simp only [wq_ok, hv] at h
  have h2 : v.category = 1 := by simpa using h
  omega
theorem wq_has1 {ls' : Array Slot} {nL i : Nat} {L : List (Option Value)} {v : Value} (hok : wq_ok L i = true) (h : lv_has ls' nL ((i, v) :: (wq_pos 0 L).filter (fun q => !(q.1 == i) && !(q.1 + 1 == i && q.2.category == 2)))) : wq_has ls' nL (L.set i (some v)) := by
  refine ⟨h.1, h.2.1, fun j u hj => ?_⟩
  by_cases e : j = i
  · subst e
    by_cases hlt : j < L.length
    · rw [List.getElem?_set_self hlt] at hj
      cases hj
      exact h.2.2 (j, v) List.mem_cons_self
    · rw [List.getElem?_eq_none (by simp; omega)] at hj
      cases hj
  · rw [List.getElem?_set_ne (Ne.symm e)] at hj
    refine h.2.2 (j, u) (List.mem_cons_of_mem _ (List.mem_filter.mpr ⟨?_, ?_⟩))
    · have := wq_in_pos L 0 j u hj
      simpa using this
    · by_cases e2 : j + 1 = i
      · have := wq_ok_ne hok e2 hj
        simp [e, this]
      · simp [e, e2]
theorem wq_has2 {ls' : Array Slot} {nL i : Nat} {L : List (Option Value)} {v : Value} (hok : wq_ok L i = true) (h : lv_has ls' nL ((i, v) :: (wq_pos 0 L).filter (fun q => !(q.1 == i) && (!(q.1 == i + 1) && !(q.1 + 1 == i && q.2.category == 2))))) : wq_has ls' nL ((L.set i (some v)).set (i + 1) none) := by
  refine ⟨h.1, h.2.1, fun j u hj => ?_⟩
  by_cases e : j = i
  · subst e
    rw [List.getElem?_set_ne (by omega)] at hj
    by_cases hlt : j < L.length
    · rw [List.getElem?_set_self hlt] at hj
      cases hj
      exact h.2.2 (j, v) List.mem_cons_self
    · rw [List.getElem?_eq_none (by simp; omega)] at hj
      cases hj
  · by_cases e1 : j = i + 1
    · subst e1
      by_cases hlt : i + 1 < (L.set i (some v)).length
      · rw [List.getElem?_set_self hlt] at hj
        cases hj
      · rw [List.getElem?_eq_none (by rw [List.length_set]; omega)] at hj
        cases hj
    · rw [List.getElem?_set_ne (by omega), List.getElem?_set_ne (Ne.symm e)] at hj
      refine h.2.2 (j, u) (List.mem_cons_of_mem _ (List.mem_filter.mpr ⟨?_, ?_⟩))
      · have := wq_in_pos L 0 j u hj
        simpa using this
      · by_cases e2 : j + 1 = i
        · have := wq_ok_ne hok e2 hj
          simp [e, e1, this]
        · simp [e, e1, e2]
/-- fewer known locals -/
theorem wq_less {ls : Array Slot} {nL : Nat} {L L' : List (Option Value)} (h : wq_has ls nL L) (hs : ∀ (i : Nat) (v : Value), L'[i]? = some (some v) → L[i]? = some (some v)) : wq_has ls nL L' := ⟨h.1, h.2.1, fun i v hi => h.2.2 i v (hs i v hi)⟩
def wq_sub : List (Option Value) → List (Option Value) → Prop
  | [], _ => True
  | none :: l', _ :: l => wq_sub l' l
  | none :: l', [] => wq_sub l' []
  | some v :: l', w :: l => w = some v ∧ wq_sub l' l
  | some _ :: _, [] => False
theorem wq_sub_at : ∀ (l' l : List (Option Value)), wq_sub l' l → ∀ (i : Nat) (v : Value), l'[i]? = some (some v) → l[i]? = some (some v)
  | [], _, _, i, v, hi => by simp at hi
  | none :: l', _ :: l, h, 0, v, hi => by simp at hi
  | none :: l', _ :: l, h, i + 1, v, hi => by
    rw [List.getElem?_cons_succ] at hi ⊢
    exact wq_sub_at l' l h i v hi
  | none :: l', [], h, 0, v, hi => by simp at hi
  | none :: l', [], h, i + 1, v, hi => by
    rw [List.getElem?_cons_succ] at hi
    have := wq_sub_at l' [] h i v hi
    simp at this
  | some w :: l', u :: l, h, 0, v, hi => by
    rw [List.getElem?_cons_zero] at hi ⊢
    cases hi
    rw [h.1]
  | some w :: l', u :: l, h, i + 1, v, hi => by
    rw [List.getElem?_cons_succ] at hi ⊢
    exact wq_sub_at l' l h.2 i v hi
  | some _ :: _, [], h, _, _, _ => h.elim
/-- the locals of a method's start -/
def wq_args (n : Nat) (vs : List Value) : List (Option Value) := (vs.flatMap fun v => if v.category = 2 then [some v, none] else [some v]) ++ List.replicate (n - (lg_sl vs).length) none
theorem wq_args_lv : ∀ (vs : List Value) (i j : Nat) (v : Value), (vs.flatMap fun v => if v.category = 2 then [some v, none] else [some v])[j]? = some (some v) → (i + j, v) ∈ lv_args i vs
  | [], i, j, v, h => by simp at h
  | w :: vs, i, j, v, h => by
    rw [List.flatMap_cons] at h
    by_cases hc : w.category = 2
    · rw [if_pos hc] at h
      match j, h with
      | 0, h =>
        have e : w = v := by simpa using h
        subst e
        exact List.mem_cons_self
      | 1, h => simp at h
      | j + 2, h =>
        have h2 := wq_args_lv vs (i + 2) j v (by simpa using h)
        refine List.mem_cons_of_mem _ ?_
        rw [if_pos hc, show i + (j + 2) = i + 2 + j by omega]
        exact h2
    · rw [if_neg hc] at h
      match j, h with
      | 0, h =>
        have e : w = v := by simpa using h
        subst e
        exact List.mem_cons_self
      | j + 1, h =>
        have h2 := wq_args_lv vs (i + 1) j v (by simpa using h)
        refine List.mem_cons_of_mem _ ?_
        rw [if_neg hc, show i + (j + 1) = i + 1 + j by omega]
        exact h2
theorem wq_entry (vs : List Value) {n : Nat} (h : (lg_sl vs).length ≤ n) : wq_has ((lg_sl vs ++ List.replicate (n - (lg_sl vs).length) Slot.unset).toArray) n (wq_args n vs) := by
  have h0 := lv_entry vs h
  refine ⟨h0.1, h0.2.1, fun i v hi => ?_⟩
  refine h0.2.2 (i, v) ?_
  unfold wq_args at hi
  by_cases hl : i < (vs.flatMap fun v => if v.category = 2 then [some v, none] else [some v]).length
  · rw [List.getElem?_append_left hl] at hi
    have := wq_args_lv vs 0 i v hi
    simpa using this
  · rw [List.getElem?_append_right (by omega)] at hi
    rw [List.getElem?_replicate] at hi
    split at hi <;> cases hi
theorem wq_ift {α : Type} {c : Prop} [Decidable c] {a b o : α} (hc : c) (h : (if c then a else b) = o) : a = o := by rw [if_pos hc] at h; exact h
theorem wq_iff {α : Type} {c : Prop} [Decidable c] {a b o : α} (hc : ¬ c) (h : (if c then a else b) = o) : b = o := by rw [if_neg hc] at h; exact h
def wq_dp : Nat := 6
