/-! the answer does not hang on the order -/
def wy_tv (P : wq_St) (r : Nat) (g : Nat → Nat) : Nat → Bool
  | 0 => true
  | x + 1 => wy_tv P r g x && decide (P 3 (40 * wy_tb P r (x : Int) + g x) ≠ 0)
def wy_hk (P : wq_St) (r : Nat) (g : Nat → Nat) : Nat → Bool
  | 0 => true
  | k + 1 => wy_hk P r g k && decide (wy_ho P r g k)
def wy_A (f : (Nat → Nat) → Int) (P : wq_St) (r : Nat) (g : Nat → Nat) : Int := if wy_tv P r g (P 13 r).toNat = true ∧ wy_hk P r g (P 15 r).toNat = true then f g else 0
def wy_NS (f : (Nat → Nat) → Int) (P : wq_St) (r : Nat) (o : Nat → Int) : Nat → Nat → (Nat → Nat) → Int
  | 0, _, g => wy_A f P r g
  | d + 1, s, g => wy_su (fun i => wy_NS f P r o d (s + 1) (wy_gu g (o s) i)) (wy_is P r o s)
section
variable {P : wq_St} {r s : Nat} {o w : Nat → Int} {g g' : Nat → Nat} {f : (Nat → Nat) → Int}
theorem wy_su_congr {a b : Nat → Int} : ∀ {n : Nat}, (∀ i, i < n → a i = b i) → wy_su a n = wy_su b n
  | 0, _ => rfl
  | n + 1, h => by
    simp only [wy_su]
    rw [h n (by omega), wy_su_congr fun i hi => h i (by omega)]
theorem wy_su_0 : ∀ n : Nat, wy_su (fun _ => 0) n = 0
  | 0 => rfl
  | n + 1 => by
    simp only [wy_su]
    rw [wy_su_0 n]
    rfl
theorem wy_su_add (a b : Nat → Int) : ∀ n : Nat, wy_su (fun i => a i + b i) n = wy_su a n + wy_su b n
  | 0 => rfl
  | n + 1 => by
    simp only [wy_su]
    rw [wy_su_add a b n]
    omega
theorem wy_su_swap (a : Nat → Nat → Int) (n : Nat) : ∀ m : Nat, wy_su (fun i => wy_su (fun j => a i j) n) m = wy_su (fun j => wy_su (fun i => a i j) m) n
  | 0 => by
    simp only [wy_su]
    exact (wy_su_0 n).symm
  | m + 1 => by
    simp only [wy_su]
    rw [wy_su_swap a n m, wy_su_add]
theorem wy_tv_t {x : Nat} : ∀ {n : Nat}, wy_tv P r g n = true → x < n → P 3 (40 * wy_tb P r (x : Int) + g x) ≠ 0
  | 0, _, h => by omega
  | n + 1, h, hx => by
    simp only [wy_tv, Bool.and_eq_true] at h
    by_cases e : x = n
    · subst e
      exact of_decide_eq_true h.2
    · exact wy_tv_t h.1 (by omega)
theorem wy_tv_i : ∀ {n : Nat}, (∀ x : Nat, x < n → P 3 (40 * wy_tb P r (x : Int) + g x) ≠ 0) → wy_tv P r g n = true
  | 0, _ => rfl
  | n + 1, h => by
    simp only [wy_tv, Bool.and_eq_true]
    exact ⟨wy_tv_i fun x hx => h x (by omega), decide_eq_true (h n (by omega))⟩
theorem wy_hk_t {k : Nat} : ∀ {n : Nat}, wy_hk P r g n = true → k < n → wy_ho P r g k
  | 0, _, h => by omega
  | n + 1, h, hk => by
    rw [wy_hk, Bool.and_eq_true] at h
    by_cases e : k = n
    · subst e
      exact of_decide_eq_true h.2
    · exact wy_hk_t h.1 (by omega)
theorem wy_hk_i : ∀ {n : Nat}, (∀ k : Nat, k < n → wy_ho P r g k) → wy_hk P r g n = true
  | 0, _ => rfl
  | n + 1, h => by
    rw [wy_hk, Bool.and_eq_true]
    exact ⟨wy_hk_i fun k hk => h k (by omega), decide_eq_true (h n (by omega))⟩
theorem wy_ha_i : ∀ {n : Nat}, (∀ k : Nat, k < n → wy_as P r o s k → wy_ho P r g k) → wy_ha P r o s g n = true
  | 0, _ => rfl
  | n + 1, h => by
    rw [wy_ha_s, Bool.and_eq_true]
    exact ⟨wy_ha_i fun k hk => h k (by omega), decide_eq_true (h n (by omega))⟩
/-- sums of nothing -/
theorem wy_NS_0 : ∀ (d s : Nat) (g : Nat → Nat), (∀ g' : Nat → Nat, (∀ y : Nat, (∀ j : Nat, s ≤ j → j < s + d → y ≠ (o j).toNat) → g' y = g y) → wy_A f P r g' = 0) → wy_NS f P r o d s g = 0
  | 0, s, g, h => h g fun _ _ => rfl
  | d + 1, s, g, h => by
    simp only [wy_NS]
    rw [wy_su_congr (b := fun _ => 0), wy_su_0]
    intro i _
    refine wy_NS_0 d (s + 1) _ fun g' hg => h g' fun y hy => ?_
    rw [hg y fun j h1 h2 => hy j (by omega) (by omega)]
    exact if_neg (hy s (by omega) (by omega))
theorem wy_ho_congr (hI : wy_iv P) {k : Nat} (h17 : g (P 17 (6 * r + k)).toNat = g' (P 17 (6 * r + k)).toNat) (h20 : P 16 (6 * r + k) = 3 → g (P 20 (6 * r + k)).toNat = g' (P 20 (6 * r + k)).toNat) : wy_ho P r g k ↔ wy_ho P r g' k := by
  unfold wy_ho wy_gv
  rw [h17]
  by_cases h3 : P 16 (6 * r + k) = 3
  · rw [h20 h3]
  · constructor
    · intro h
      exact ⟨h.1, h.2.1, h.2.2.1, fun e => absurd e h3⟩
    · intro h
      exact ⟨h.1, h.2.1, h.2.2.1, fun e => absurd e h3⟩
end
