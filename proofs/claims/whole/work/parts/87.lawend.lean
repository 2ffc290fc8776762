/-! THE LAW: all rounds -/
theorem wy_law_loop {X : Nat → Int} (hX : ∀ j, wy_rg (X j)) {LL : Nat} (hLL : LL ≤ 3072) : ∀ (n i : Nat) (P S : wq_St), LL + 6 ≤ 6 * n + i → i ≤ LL → wy_LI P S → ∃ S0, l_L_law X LL (fun S => some (1, S)) n (i : Int) S = some (1, S0)
  | 0, i, P, S, h1, h2, _ => by omega
  | n + 1, i, P, S, h1, h2, hL => by
    show ∃ S0, b_L_law X LL (fun S => some (1, S)) (l_L_law X LL (fun S => some (1, S)) n) (i : Int) S = some (1, S0)
    by_cases hi : i + 6 ≤ LL
    · obtain ⟨P', S', hL', e⟩ := wy_law_step hX hLL hi hL (fun S => some (1, S)) (l_L_law X LL (fun S => some (1, S)) n)
      rw [e]
      have e6 : (i : Int) + 6 = ((i + 6 : Nat) : Int) := by omega
      rw [e6]
      exact wy_law_loop hX hLL n (i + 6) P' S' (by omega) (by omega) hL'
    · unfold b_L_law
      rw [wq_w_id (x := (LL : Int) - 6) (by omega) (by omega), wq_w_id (x := (i : Int)) (by omega) (by omega), if_pos (by omega)]
      exact ⟨S, rfl⟩
def wy_P0 : wq_St := fun f i => if f = 0 ∧ i = 11 then 1 else if f = 22 ∨ f = 24 ∨ f = 25 ∨ f = 26 then -1 else 0
def wy_p0b (f i : Nat) : Bool := !(wy_inb f i) || decide (wq_S0 (wy_ka f i) (wy_io f i) = wy_P0 f i)
theorem wy_p0_all : wy_allb (fun f => wy_allb (fun i => wy_p0b f i) 480) 29 = true := by decide +kernel
theorem wy_R0 : wy_R wy_al (wq_cls wq_SL0) wy_P0 := fun f i _ h => by
  have hi := Nat.lt_of_lt_of_le h.1 (wy_nb_le f)
  have hf : f < 29 := Nat.lt_of_not_le fun hh => by
    have h1 := h.1
    rw [wy_nb_hi hh] at h1
    omega
  have h1 := wy_allb_t (wy_allb_t wy_p0_all f hf) i hi
  unfold wy_p0b at h1
  rw [wy_inb_t h] at h1
  have h2 : wq_S0 (wy_ka f i) (wy_io f i) = wy_P0 f i := by simpa using h1
  unfold wq_cls wq_SL0
  rw [if_pos (wy_ka_lt h), if_pos (wy_ka_lt h)]
  exact h2
theorem wy_M0 : wy_M wy_al (wq_mdl wq_SL0) wy_P0 := fun f i _ h2 h3 h4 => by
  have e : wq_mdl wq_SL0 f i = if f = 0 ∧ i = 11 then 1 else 0 := by
    unfold wq_mdl wq_SL0
    rw [if_pos (by omega), if_neg (by omega), if_pos (by omega), Nat.add_sub_cancel_left]
    rfl
  rw [e]
  unfold wy_P0 at h4 ⊢
  rw [if_neg (c := 0 = 0 ∧ 28 = 11) (by omega), if_neg (by omega)] at h4
  by_cases c : f = 0 ∧ i = 11
  · rw [if_pos c, if_pos c]
  · rw [if_neg c, if_neg c, if_neg (fun h => by have := h4 (by omega); omega)]
theorem wy_p0_o {f i : Nat} (h : ¬(f = 0 ∧ i = 11) ∧ ¬(f = 22 ∨ f = 24 ∨ f = 25 ∨ f = 26)) : wy_P0 f i = 0 := by
  unfold wy_P0
  rw [if_neg h.1, if_neg h.2]
theorem wy_p0_n {f i : Nat} (h : f = 22 ∨ f = 24 ∨ f = 25 ∨ f = 26) : wy_P0 f i = -1 := by
  unfold wy_P0
  rw [if_neg (by omega), if_pos h]
theorem wy_ct_0 (t : Nat) : ∀ n, wy_ct wy_P0 t n = 0
  | 0 => rfl
  | n + 1 => by
    simp only [wy_ct]
    rw [wy_ct_0 t n, if_pos (wy_p0_o (by omega))]
    rfl
theorem wy_lohi0 : ∀ f, f < 24 → wy_lo f ≤ 0 ∧ 0 ≤ wy_hi f := by decide
theorem wy_iv0 : wy_iv wy_P0 := by
  refine ⟨fun f i h1 h2 => ?_, ?_, fun t ht => wy_p0_o (by omega), fun r hr => wy_p0_o (by omega), fun i => ?_, fun r j hj => ?_, fun r k hk => ?_, fun r hr => absurd (wy_p0_n (by omega)) hr, fun r h1 h2 => ⟨wy_p0_n (by omega), wy_p0_n (by omega), wy_p0_n (by omega), wy_p0_n (by omega)⟩, fun t ht => ?_⟩
  · by_cases e : f = 22
    · subst e
      rw [wy_p0_n (by omega)]
      exact ⟨by show (-1 : Int) ≤ -1; omega, by show (-1 : Int) ≤ 2; omega⟩
    · rw [wy_p0_o (by omega)]
      exact wy_lohi0 f (by omega)
  · unfold wy_iO
    rw [wy_p0_o (i := 5) (by omega), wy_p0_o (i := 28) (by omega), show wy_P0 0 11 = 1 from rfl]
    omega
  · rw [wy_p0_o (by omega), wy_p0_o (by omega)]
    omega
  · rw [wy_p0_o (by omega)] at hj
    omega
  · rw [wy_p0_o (by omega)] at hk
    omega
  · rw [wy_p0_o (by omega), wy_ct_0]
theorem wy_LI0 : wy_LI wy_P0 wq_SL0 := ⟨wy_iv0, fun t ht => by
  rw [wy_p0_o (by omega)] at ht
  omega, wy_R0, wy_M0⟩
theorem wq_pure (X : Nat → Int) (hX : ∀ j, -2147483648 ≤ X j ∧ X j < 2147483648) (LL : Nat) (hL : LL ≤ 3072) : ∃ S0 : wq_St, l_L_law X LL (fun S => some (1, S)) 600 0 wq_SL0 = some (1, S0) :=
  wy_law_loop (X := X) hX hL 600 0 wy_P0 wq_SL0 (by omega) (by omega) wy_LI0
