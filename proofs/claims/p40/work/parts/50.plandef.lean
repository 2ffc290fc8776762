/-! PLANS: at which step a condition is asked -/
/-- the step of a source in an order; 3 if it has none -/
def wy_ps (o : Nat → Int) (x : Int) : Int := if o 0 = x then 0 else if o 1 = x then 1 else if o 2 = x then 2 else 3
def wy_cs (p : Int → Int) (P : wq_St) (r k : Nat) : Int := if P 16 (6 * r + k) = 3 ∧ p (P 17 (6 * r + k)) < p (P 20 (6 * r + k)) then p (P 20 (6 * r + k)) else p (P 17 (6 * r + k))
abbrev wy_as (P : wq_St) (r : Nat) (o : Nat → Int) (s k : Nat) : Prop := wy_cs (wy_ps o) P r k = (s : Int)
/-- the index of column c can be used at step s by condition k -/
abbrev wy_us (P : wq_St) (r : Nat) (o : Nat → Int) (s : Nat) (c : Int) (k : Nat) : Prop := (P 16 (6 * r + k) = 0 ∨ P 16 (6 * r + k) = 3) ∧ wy_as P r o s k ∧ (if P 17 (6 * r + k) = o s then P 18 (6 * r + k) else P 21 (6 * r + k)) = c
def wy_uo (P : wq_St) (r : Nat) (o : Nat → Int) (s : Nat) (c : Int) : Nat → Int
  | 0 => -1
  | n + 1 => if wy_uo P r o s c n ≠ -1 then wy_uo P r o s c n else if wy_us P r o s c n then (n : Int) else -1
/-- the table of a source -/
def wy_tb (P : wq_St) (r : Nat) (x : Int) : Nat := (P 14 (3 * r + x.toNat)).toNat
def wy_u1 (u : Int) : Int := if u < 1 then 1 else u
def wy_mx (a b : Int) : Int := if a < b then b else a
def wy_cl (part span : Int) : Int := if part < 0 then 0 else if span < part then span else part
abbrev wy_ce (P : wq_St) (r k : Nat) : Nat := 3 * wy_tb P r (P 17 (6 * r + k)) + (P 18 (6 * r + k)).toNat
abbrev wy_ce2 (P : wq_St) (r k : Nat) : Nat := 3 * wy_tb P r (P 20 (6 * r + k)) + (P 21 (6 * r + k)).toNat
/-- what is left of choices by a condition -/
def wy_cg (P : wq_St) (r k : Nat) (ch : Int) : Int :=
  if P 16 (6 * r + k) = 0 then Int.tdiv ch (wy_u1 (P 7 (wy_ce P r k)))
  else if P 16 (6 * r + k) = 1 then Int.tdiv (ch * wy_cl (P 19 (6 * r + k) - P 8 (wy_ce P r k)) (P 9 (wy_ce P r k) - P 8 (wy_ce P r k) + 1)) (P 9 (wy_ce P r k) - P 8 (wy_ce P r k) + 1)
  else if P 16 (6 * r + k) = 2 then Int.tdiv (ch * wy_cl (P 9 (wy_ce P r k) - P 19 (6 * r + k)) (P 9 (wy_ce P r k) - P 8 (wy_ce P r k) + 1)) (P 9 (wy_ce P r k) - P 8 (wy_ce P r k) + 1)
  else Int.tdiv ch (wy_mx (wy_u1 (P 7 (wy_ce P r k))) (P 7 (wy_ce2 P r k)))
def wy_bh (P : wq_St) (r : Nat) (o : Nat → Int) (s : Nat) : Nat → Int → Int
  | 0, ch => ch
  | k + 1, ch => if wy_as P r o s k then wy_cg P r k (wy_bh P r o s k ch) else wy_bh P r o s k ch
section
variable {P : wq_St} {r : Nat}
theorem wy_ps_b (o : Nat → Int) (x : Int) : 0 ≤ wy_ps o x ∧ wy_ps o x ≤ 3 := by
  unfold wy_ps
  repeat' split
  all_goals omega
theorem wy_ps_o {o : Nat → Int} {x : Int} {s : Nat} (hs : s < 3) (h : wy_ps o x = (s : Int)) : o s = x := by
  unfold wy_ps at h
  have : s = 0 ∨ s = 1 ∨ s = 2 := by omega
  rcases this with rfl | rfl | rfl <;> (repeat' split at h) <;> first | assumption | omega
theorem wy_ps_lt {o o' : Nat → Int} {s : Nat} (hs : s < 3) (h : ∀ j, j ≤ s → o j = o' j) (x : Int) : (wy_ps o x ≤ (s : Int) ∧ wy_ps o' x = wy_ps o x) ∨ ((s : Int) < wy_ps o x ∧ (s : Int) < wy_ps o' x) := by
  unfold wy_ps
  have : s = 0 ∨ s = 1 ∨ s = 2 := by omega
  rcases this with rfl | rfl | rfl
  · rw [← h 0 (by omega)]
    repeat' split
    all_goals omega
  · rw [← h 0 (by omega), ← h 1 (by omega)]
    repeat' split
    all_goals omega
  · rw [← h 0 (by omega), ← h 1 (by omega), ← h 2 (by omega)]
    repeat' split
    all_goals omega
theorem wy_cs_two {p p' : Int → Int} {s : Nat} (k : Nat) (h17 : (p (P 17 (6 * r + k)) ≤ (s : Int) ∧ p' (P 17 (6 * r + k)) = p (P 17 (6 * r + k))) ∨ ((s : Int) < p (P 17 (6 * r + k)) ∧ (s : Int) < p' (P 17 (6 * r + k)))) (h20 : P 16 (6 * r + k) = 3 → (p (P 20 (6 * r + k)) ≤ (s : Int) ∧ p' (P 20 (6 * r + k)) = p (P 20 (6 * r + k))) ∨ ((s : Int) < p (P 20 (6 * r + k)) ∧ (s : Int) < p' (P 20 (6 * r + k)))) : wy_cs p' P r k = (s : Int) ↔ wy_cs p P r k = (s : Int) := by
  unfold wy_cs
  by_cases hk : P 16 (6 * r + k) = 3
  · have h20 := h20 hk
    repeat' split
    all_goals omega
  · rw [if_neg (fun h => hk h.1), if_neg (fun h => hk h.1)]
    omega
theorem wy_as_congr {o o' : Nat → Int} {s : Nat} (hs : s < 3) (h : ∀ j, j ≤ s → o j = o' j) (k : Nat) : wy_as P r o' s k ↔ wy_as P r o s k :=
  wy_cs_two k (wy_ps_lt hs h _) fun _ => wy_ps_lt hs h _
theorem wy_us_congr {o o' : Nat → Int} {s : Nat} (hs : s < 3) (h : ∀ j, j ≤ s → o j = o' j) (c : Int) (k : Nat) : wy_us P r o' s c k ↔ wy_us P r o s c k := by
  unfold wy_us
  rw [wy_as_congr hs h k, h s (Nat.le_refl s)]
theorem wy_uo_congr {o o' : Nat → Int} {s : Nat} (hs : s < 3) (h : ∀ j, j ≤ s → o j = o' j) (c : Int) : ∀ n, wy_uo P r o' s c n = wy_uo P r o s c n
  | 0 => rfl
  | n + 1 => by
    simp only [wy_uo]
    rw [wy_uo_congr hs h c n]
    by_cases hu : wy_us P r o s c n
    · rw [if_pos hu, if_pos ((wy_us_congr hs h c n).mpr hu)]
    · rw [if_neg hu, if_neg (fun hh => hu ((wy_us_congr hs h c n).mp hh))]
theorem wy_bh_congr {o o' : Nat → Int} {s : Nat} (hs : s < 3) (h : ∀ j, j ≤ s → o j = o' j) (ch : Int) : ∀ n, wy_bh P r o' s n ch = wy_bh P r o s n ch
  | 0 => rfl
  | n + 1 => by
    simp only [wy_bh]
    rw [wy_bh_congr hs h ch n]
    by_cases hu : wy_as P r o s n
    · rw [if_pos hu, if_pos ((wy_as_congr hs h n).mpr hu)]
    · rw [if_neg hu, if_neg (fun hh => hu ((wy_as_congr hs h n).mp hh))]
theorem wy_uo_b (o : Nat → Int) (s : Nat) (c : Int) : ∀ n : Nat, -1 ≤ wy_uo P r o s c n ∧ wy_uo P r o s c n < (n : Int)
  | 0 => by simp [wy_uo]
  | n + 1 => by
    have h := wy_uo_b o s c n
    simp only [wy_uo]
    repeat' split
    all_goals omega
theorem wy_uo_hit {o : Nat → Int} {s : Nat} {c : Int} {i : Nat} (h0 : wy_uo P r o s c i = -1) (h1 : wy_us P r o s c i) : ∀ {n : Nat}, i < n → wy_uo P r o s c n = (i : Int)
  | 0, h => by omega
  | n + 1, h => by
    simp only [wy_uo]
    by_cases e : i = n
    · subst e
      rw [if_neg (fun hh => hh h0), if_pos h1]
    · rw [wy_uo_hit h0 h1 (by omega), if_pos (by omega)]
theorem wy_uo_is {o : Nat → Int} {s : Nat} {c : Int} : ∀ {n : Nat}, wy_uo P r o s c n ≠ -1 → ∃ k, k < n ∧ wy_us P r o s c k ∧ wy_uo P r o s c n = (k : Int)
  | 0, h => absurd rfl h
  | n + 1, h => by
    simp only [wy_uo] at h ⊢
    by_cases h0 : wy_uo P r o s c n ≠ -1
    · rw [if_pos h0]
      obtain ⟨k, h1, h2⟩ := wy_uo_is h0
      exact ⟨k, by omega, h2⟩
    · rw [if_neg h0] at h ⊢
      by_cases hu : wy_us P r o s c n
      · rw [if_pos hu]
        exact ⟨n, by omega, hu, rfl⟩
      · rw [if_neg hu] at h
        exact absurd rfl h
/-! bounds -/
theorem wy_tdiv_b {a b : Int} (ha : 0 ≤ a) (hb : 1 ≤ b) : 0 ≤ Int.tdiv a b ∧ Int.tdiv a b ≤ a := by
  rw [Int.tdiv_eq_ediv_of_nonneg ha]
  refine ⟨Int.ediv_nonneg ha (by omega), Int.ediv_le_self b ha⟩
theorem wy_mul_le {a b n : Int} (ha : 0 ≤ a) (hb : 0 ≤ b) (hn : b ≤ n) : 0 ≤ a * b ∧ a * b ≤ a * n :=
  ⟨Int.mul_nonneg ha hb, Int.mul_le_mul_of_nonneg_left hn ha⟩
theorem wy_cl_b {p s : Int} (hs : 1 ≤ s) : 0 ≤ wy_cl p s ∧ wy_cl p s ≤ s := by
  unfold wy_cl
  repeat' split
  all_goals omega
theorem wy_sh_b {a p s : Int} (ha : 0 ≤ a) (hs : 1 ≤ s) : 0 ≤ Int.tdiv (a * wy_cl p s) s ∧ Int.tdiv (a * wy_cl p s) s ≤ a := by
  have h := @wy_cl_b p s hs
  have h2 := wy_mul_le ha h.1 h.2
  rw [Int.tdiv_eq_ediv_of_nonneg h2.1]
  exact ⟨Int.ediv_nonneg h2.1 (by omega), Int.ediv_le_of_le_mul (by omega) h2.2⟩
theorem wy_u1_b (u : Int) : 1 ≤ wy_u1 u := by unfold wy_u1; split <;> omega
theorem wy_mx_b {a b : Int} (h : 1 ≤ a) : 1 ≤ wy_mx a b := by unfold wy_mx; split <;> omega
theorem wy_cg_b (hI : wy_iv P) {k : Nat} {ch : Int} (h : 0 ≤ ch) : 0 ≤ wy_cg P r k ch ∧ wy_cg P r k ch ≤ ch := by
  have hL := hI.2.2.2.2.1 (wy_ce P r k)
  unfold wy_cg
  split
  · exact wy_tdiv_b h (wy_u1_b _)
  · split
    · exact wy_sh_b h (by omega)
    · split
      · exact wy_sh_b h (by omega)
      · exact wy_tdiv_b h (wy_mx_b (wy_u1_b _))
theorem wy_bh_b (hI : wy_iv P) {o : Nat → Int} {s : Nat} {ch : Int} (h : 0 ≤ ch) : ∀ n, 0 ≤ wy_bh P r o s n ch ∧ wy_bh P r o s n ch ≤ ch
  | 0 => ⟨h, Int.le_refl _⟩
  | n + 1 => by
    have h1 := wy_bh_b hI h (o := o) (s := s) n
    have h2 := wy_cg_b hI h1.1 (k := n) (r := r)
    simp only [wy_bh]
    split <;> omega
end
