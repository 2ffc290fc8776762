/-! THE MATHEMATICS. Tools for evaluating pictures -/
theorem wy_ix {α : Type} {i : Int} {n : Nat} {k : Nat → Option α} (h0 : 0 ≤ i) (h1 : i < (n : Int)) (h2 : n < 2147483648) : wq_ix i n k = k i.toNat :=
  wq_ix_t i.toNat (by omega) (by omega) h2
theorem wy_set_ne {S : wq_St} {k j a i : Nat} {v : Int} (h : ¬(a = k ∧ i = j)) : wq_set S k j v a i = S a i := if_neg h
theorem wy_set_at {S : wq_St} {k j a i : Nat} {v : Int} (h : a = k) (h' : i = j) : wq_set S k j v a i = v := if_pos ⟨h, h'⟩
theorem wy_bd {α β : Type} {x : Option (β × wq_St)} {k : β → wq_St → Option α} {r : β} {S : wq_St} (h : x = some (r, S)) : wq_bd x k = k r S := by rw [h]; rfl
theorem wy_bx {α β : Type} {z : α} {x : Option (Nat × β × wq_St)} {k : β → wq_St → Option (Nat × α × wq_St)} {r : β} {S : wq_St} (h : x = some (0, r, S)) : wq_bx z x k = k r S := by rw [h]; rfl
theorem wy_bx1 {α β : Type} {z : α} {x : Option (Nat × β × wq_St)} {k : β → wq_St → Option (Nat × α × wq_St)} {n : Nat} {r : β} {S : wq_St} (h : x = some (n + 1, r, S)) : wq_bx z x k = some (n + 1, z, S) := by rw [h]; rfl
/-- a loop that goes up: from i to N, fuel left over -/
theorem wy_up {σ : Type} (G : Nat → Nat → σ → Prop) (N : Nat) (Iv : Nat → σ → Prop)
    (step : ∀ n i s, i < N → Iv i s → (∀ s', Iv (i + 1) s' → G n (i + 1) s') → G (n + 1) i s)
    (last : ∀ n s, Iv N s → G (n + 1) N s) : ∀ n i s, i ≤ N → N < n + i → Iv i s → G n i s
  | 0, i, s, h1, h2, _ => by omega
  | n + 1, i, s, h1, h2, h3 => by
    by_cases h : i = N
    · subst h
      exact last n s h3
    · exact step n i s (by omega) h3 fun s' h' => wy_up G N Iv step last n (i + 1) s' (by omega) (by omega) h'
/-! P: the state that both hold, cell by cell -/
def wy_ka (f i : Nat) : Nat := match f with
  | 0 => if i = 5 ∨ i = 28 then 0 else 282
  | 1 => 6 + 48 * i
  | 2 => 6 + 48 * i
  | 3 => 6 + 48 * (i / 40) + 43
  | 4 => 6 + 48 * (i / 120) + 3 + i / 3 % 40
  | 5 => 6 + 48 * (i / 3) + 45 + i % 3
  | 6 => 6 + 48 * i
  | 7 => 6 + 48 * (i / 3) + 45 + i % 3
  | 8 => 6 + 48 * (i / 3) + 45 + i % 3
  | 9 => 6 + 48 * (i / 3) + 45 + i % 3
  | 10 => 6 + 48 * i
  | 11 => 199 + 9 * i
  | 12 => 199 + 9 * i
  | 13 => 199 + 9 * i
  | 14 => 199 + 9 * (i / 3) + 1
  | 15 => 199 + 9 * i
  | 16 => 199 + 9 * (i / 6) + 3 + i % 6
  | 17 => 199 + 9 * (i / 6) + 3 + i % 6
  | 18 => 199 + 9 * (i / 6) + 3 + i % 6
  | 19 => 199 + 9 * (i / 6) + 3 + i % 6
  | 20 => 199 + 9 * (i / 6) + 3 + i % 6
  | 21 => 199 + 9 * (i / 6) + 3 + i % 6
  | 22 => 199 + 9 * i
  | 24 => 199 + 9 * i
  | 25 => 199 + 9 * i
  | 26 => 199 + 9 * i
  | 27 => 6 + 48 * i
  | 28 => 199 + 9 * i
  | _ => 0
def wy_io (f i : Nat) : Nat := match f with
  | 0 => if i = 5 then 6 else if i = 28 then 7 else if i = 11 then 5 else i - 23
  | 1 => 4
  | 2 => 5
  | 3 => i % 40
  | 4 => i % 3
  | 5 => 0
  | 6 => 7
  | 7 => 1
  | 8 => 2
  | 9 => 3
  | 10 => 8
  | 11 => 2
  | 12 => 7
  | 13 => 3
  | 14 => i % 3
  | 15 => 4
  | 16 => 0
  | 17 => 1
  | 18 => 2
  | 19 => 3
  | 20 => 4
  | 21 => 5
  | 22 => 5
  | 24 => 8
  | 25 => 9
  | 26 => 10
  | 27 => 6
  | 28 => 6
  | _ => 0
def wy_nb (f : Nat) : Nat := match f with
  | 0 => 33
  | 1 => 4
  | 2 => 4
  | 3 => 160
  | 4 => 480
  | 5 => 12
  | 6 => 4
  | 7 => 12
  | 8 => 12
  | 9 => 12
  | 10 => 4
  | 11 => 8
  | 12 => 8
  | 13 => 8
  | 14 => 24
  | 15 => 8
  | 16 => 48
  | 17 => 48
  | 18 => 48
  | 19 => 48
  | 20 => 48
  | 21 => 48
  | 22 => 8
  | 24 => 8
  | 25 => 8
  | 26 => 8
  | 27 => 4
  | 28 => 8
  | _ => 0
def wy_in (f i : Nat) : Prop := i < wy_nb f ∧ (f = 0 → i = 5 ∨ i = 11 ∨ 28 ≤ i)
def wy_inb (f i : Nat) : Bool := decide (i < wy_nb f) && decide (f = 0 → i = 5 ∨ i = 11 ∨ 28 ≤ i)
theorem wy_inb_t {f i : Nat} (h : wy_in f i) : wy_inb f i = true := by
  unfold wy_inb
  rw [decide_eq_true h.1, decide_eq_true h.2]
  rfl
/-- back from a cell of the class -/
def wy_nu (k j : Nat) : Nat × Nat :=
  if k = 0 then (0, if j = 6 then 5 else 28)
  else if k = 282 then (0, if j = 5 then 11 else j + 23)
  else if k < 199 then
    if (k - 6) % 48 = 0 then ((if j = 4 then 1 else if j = 5 then 2 else if j = 6 then 27 else if j = 7 then 6 else 10), (k - 6) / 48)
    else if (k - 6) % 48 < 43 then (4, 3 * (40 * ((k - 6) / 48) + ((k - 6) % 48 - 3)) + j)
    else if (k - 6) % 48 = 43 then (3, 40 * ((k - 6) / 48) + j)
    else ((if j = 0 then 5 else j + 6), 3 * ((k - 6) / 48) + ((k - 6) % 48 - 45))
  else
    if (k - 199) % 9 = 0 then ((match j with | 2 => 11 | 3 => 13 | 4 => 15 | 5 => 22 | 6 => 28 | 7 => 12 | 8 => 24 | 9 => 25 | _ => 26), (k - 199) / 9)
    else if (k - 199) % 9 = 1 then (14, 3 * ((k - 199) / 9) + j)
    else (16 + j, 6 * ((k - 199) / 9) + ((k - 199) % 9 - 3))
/-- cells that only the class has, and of which nothing is promised -/
def wy_scr (k : Nat) : Prop := k = 1 ∨ k = 2 ∨ k = 3 ∨ k = 4 ∨ (272 ≤ k ∧ k ≤ 281) ∨ k = 283 ∨ k = 50 ∨ k = 98 ∨ k = 146 ∨ k = 194
def wy_scrb (k : Nat) : Bool := decide (k = 1 ∨ k = 2 ∨ k = 3 ∨ k = 4 ∨ (272 ≤ k ∧ k ≤ 281) ∨ k = 283 ∨ k = 50 ∨ k = 98 ∨ k = 146 ∨ k = 194)
theorem wy_scrb_t {k : Nat} (h : wy_scr k) : wy_scrb k = true := decide_eq_true h
def wy_okb (f i : Nat) : Bool := !(wy_inb f i) || (Nat.beq (wy_nu (wy_ka f i) (wy_io f i)).1 f && Nat.beq (wy_nu (wy_ka f i) (wy_io f i)).2 i && !(wy_scrb (wy_ka f i)))
def wy_allb (p : Nat → Bool) : Nat → Bool
  | 0 => true
  | n + 1 => p n && wy_allb p n
theorem wy_allb_t {p : Nat → Bool} : ∀ {n : Nat}, wy_allb p n = true → ∀ i, i < n → p i = true
  | 0, _, i, h => by omega
  | n + 1, h, i, hi => by
    simp [wy_allb] at h
    by_cases e : i = n
    · subst e; exact h.1
    · exact wy_allb_t h.2 i (by omega)
theorem wy_ok_all : wy_allb (fun f => wy_allb (fun i => wy_okb f i) 480) 29 = true := by decide +kernel
theorem wy_nb_le (f : Nat) : wy_nb f ≤ 480 := by unfold wy_nb; split <;> omega
theorem wy_nb_hi {f : Nat} (h : 29 ≤ f) : wy_nb f = 0 := by unfold wy_nb; split <;> omega
theorem wy_ok {f i : Nat} (h : wy_in f i) : wy_nu (wy_ka f i) (wy_io f i) = (f, i) ∧ ¬wy_scr (wy_ka f i) := by
  have hi := Nat.lt_of_lt_of_le h.1 (wy_nb_le f)
  have hf : f < 29 := Nat.lt_of_not_le fun hh => by
    have h1 := h.1
    rw [wy_nb_hi hh] at h1
    omega
  have h1 := wy_allb_t (wy_allb_t wy_ok_all f hf) i hi
  unfold wy_okb at h1
  rw [wy_inb_t h] at h1
  simp [Nat.beq_eq] at h1
  refine ⟨Prod.ext h1.1.1 h1.1.2, fun hs => ?_⟩
  rw [wy_scrb_t hs] at h1
  exact absurd h1.2 (by decide)
/-- S holds P, of the fields C -/
def wy_R (C : Nat → Prop) (S P : wq_St) : Prop := ∀ f i, C f → wy_in f i → S (wy_ka f i) (wy_io f i) = P f i
theorem wy_R_mono {C C' : Nat → Prop} {S P : wq_St} (h : wy_R C S P) (hc : ∀ f, C' f → C f) : wy_R C' S P := fun f i hf hi => h f i (hc f hf) hi
theorem wy_R_scr {C : Nat → Prop} {S P : wq_St} (h : wy_R C S P) {k j : Nat} {v : Int} (hk : wy_scr k) : wy_R C (wq_set S k j v) P := fun f i hf hi => by
  have e : ¬(wy_ka f i = k ∧ wy_io f i = j) := fun e => (wy_ok hi).2 (by rw [e.1]; exact hk)
  rw [wy_set_ne e]
  exact h f i hf hi
theorem wy_R_set {C : Nat → Prop} {S P : wq_St} (h : wy_R C S P) {f₀ i₀ k j : Nat} (v : Int) (h0 : wy_in f₀ i₀) (hk : k = wy_ka f₀ i₀) (hj : j = wy_io f₀ i₀) : wy_R C (wq_set S k j v) (wq_set P f₀ i₀ v) := fun f i hf hi => by
  subst hk hj
  by_cases e : f = f₀ ∧ i = i₀
  · obtain ⟨rfl, rfl⟩ := e
    rw [wy_set_at rfl rfl, wy_set_at rfl rfl]
  · rw [wy_set_ne e, wy_set_ne (fun e' => e ?_)]
    · exact h f i hf hi
    · have h1 := (wy_ok hi).1
      have h2 := (wy_ok h0).1
      rw [e'.1, e'.2, h2] at h1
      exact ⟨(Prod.mk.inj h1).1.symm, (Prod.mk.inj h1).2.symm⟩
/-- a write to a cell of a field that C does not name -/
theorem wy_R_off {C : Nat → Prop} {S P : wq_St} (h : wy_R C S P) {f₀ i₀ k j : Nat} {v : Int} (h0 : wy_in f₀ i₀) (hk : k = wy_ka f₀ i₀) (hj : j = wy_io f₀ i₀) (hc : ¬C f₀) : wy_R C (wq_set S k j v) P := fun f i hf hi => by
  subst hk hj
  rw [wy_set_ne (fun e' => ?_)]
  · exact h f i hf hi
  · have h1 := (wy_ok hi).1
    have h2 := (wy_ok h0).1
    rw [e'.1, e'.2, h2] at h1
    have := (Prod.mk.inj h1).1
    subst this
    exact hc hf
