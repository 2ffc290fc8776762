/-! samples and counts -/
abbrev wy_sm (P : wq_St) (t : Nat) (by_ : Int) (i : Nat) : Prop := P 3 (40 * t + i) ≠ 0 ∧ wy_ct P t i % by_ = 0
def wy_ns (P : wq_St) (t : Nat) (by_ : Int) : Nat → Nat
  | 0 => 0
  | i + 1 => wy_ns P t by_ i + (if wy_sm P t by_ i then 1 else 0)
def wy_va (P : wq_St) (t c i : Nat) : Int := P 4 (3 * (40 * t + i) + c)
def wy_nx (P : wq_St) (t : Nat) (by_ : Int) (c : Nat) (v : Int) : Nat → Int
  | 0 => 1
  | k + 1 => if wy_nx P t by_ c v k = 0 then 0 else if wy_sm P t by_ k ∧ wy_va P t c k = v then 0 else 1
def wy_un (P : wq_St) (t : Nat) (by_ : Int) (c : Nat) : Nat → Int
  | 0 => 0
  | i + 1 => wy_un P t by_ c i + (if wy_sm P t by_ i ∧ wy_nx P t by_ c (wy_va P t c i) i ≠ 0 then 1 else 0)
def wy_le (P : wq_St) (t : Nat) (by_ : Int) (c : Nat) : Nat → Int
  | 0 => 0
  | i + 1 => if wy_sm P t by_ i then (if wy_ns P t by_ i = 0 ∨ wy_va P t c i < wy_le P t by_ c i then wy_va P t c i else wy_le P t by_ c i) else wy_le P t by_ c i
def wy_gr (P : wq_St) (t : Nat) (by_ : Int) (c : Nat) : Nat → Int
  | 0 => 0
  | i + 1 => if wy_sm P t by_ i then (if wy_ns P t by_ i = 0 ∨ wy_gr P t by_ c i < wy_va P t c i then wy_va P t c i else wy_gr P t by_ c i) else wy_gr P t by_ c i
section
variable {P : wq_St} {t : Nat} {by_ : Int}
theorem wy_ns_s1 {i : Nat} (h : wy_sm P t by_ i) : wy_ns P t by_ (i + 1) = wy_ns P t by_ i + 1 := by simp only [wy_ns]; rw [if_pos h]
theorem wy_ns_s0 {i : Nat} (h : ¬wy_sm P t by_ i) : wy_ns P t by_ (i + 1) = wy_ns P t by_ i := by simp only [wy_ns]; rw [if_neg h]; omega
theorem wy_ns_le : ∀ i : Nat, wy_ns P t by_ i ≤ i
  | 0 => Nat.le_refl 0
  | i + 1 => by
    have h := wy_ns_le i
    by_cases hs : wy_sm P t by_ i
    · rw [wy_ns_s1 hs]; omega
    · rw [wy_ns_s0 hs]; omega
theorem wy_ns_mono {i : Nat} : ∀ {j : Nat}, i ≤ j → wy_ns P t by_ i ≤ wy_ns P t by_ j
  | 0, h => by rw [Nat.le_zero.mp h]; exact Nat.le_refl _
  | j + 1, h => by
    by_cases e : i = j + 1
    · rw [e]; exact Nat.le_refl _
    · have h1 := @wy_ns_mono i j (by omega)
      by_cases hs : wy_sm P t by_ j
      · rw [wy_ns_s1 hs]; omega
      · rw [wy_ns_s0 hs]; omega
theorem wy_ns_ex {q : Nat} : ∀ {i : Nat}, q < wy_ns P t by_ i → ∃ k, k < i ∧ wy_sm P t by_ k ∧ wy_ns P t by_ k = q
  | 0, h => by simp [wy_ns] at h
  | i + 1, h => by
    by_cases hq : q < wy_ns P t by_ i
    · obtain ⟨k, h1, h2⟩ := wy_ns_ex hq
      exact ⟨k, by omega, h2⟩
    · by_cases hs : wy_sm P t by_ i
      · rw [wy_ns_s1 hs] at h
        exact ⟨i, by omega, hs, by omega⟩
      · rw [wy_ns_s0 hs] at h
        exact absurd h hq
theorem wy_const {i : Nat} (c : Nat) (v : Int) : ∀ {j : Nat}, i ≤ j → wy_ns P t by_ i = wy_ns P t by_ j → wy_un P t by_ c i = wy_un P t by_ c j ∧ wy_le P t by_ c i = wy_le P t by_ c j ∧ wy_gr P t by_ c i = wy_gr P t by_ c j
  | 0, h, _ => by rw [Nat.le_zero.mp h]; exact ⟨rfl, rfl, rfl⟩
  | j + 1, h, h2 => by
    by_cases e : i = j + 1
    · rw [e]; exact ⟨rfl, rfl, rfl⟩
    · have hm := @wy_ns_mono P t by_ i j (by omega)
      by_cases hs : wy_sm P t by_ j
      · rw [wy_ns_s1 hs] at h2; omega
      · rw [wy_ns_s0 hs] at h2
        obtain ⟨h3, h4, h5⟩ := @wy_const i c v j (by omega) h2
        simp only [wy_un, wy_le, wy_gr]
        rw [if_neg (fun h => hs h.1), if_neg hs, if_neg hs]
        exact ⟨by omega, h4, h5⟩
theorem wy_nx_b (c : Nat) (v : Int) : ∀ k : Nat, wy_nx P t by_ c v k = 0 ∨ wy_nx P t by_ c v k = 1
  | 0 => Or.inr rfl
  | k + 1 => by
    simp only [wy_nx]
    split
    · exact Or.inl rfl
    · split
      · exact Or.inl rfl
      · exact Or.inr rfl
theorem wy_nx_0 {c : Nat} {v : Int} {k : Nat} (h1 : wy_sm P t by_ k) (h2 : wy_va P t c k = v) : ∀ {j : Nat}, k < j → wy_nx P t by_ c v j = 0
  | 0, h => by omega
  | j + 1, h => by
    simp only [wy_nx]
    by_cases e : k = j
    · subst e
      split
      · rfl
      · rw [if_pos ⟨h1, h2⟩]
    · rw [if_pos (wy_nx_0 h1 h2 (by omega))]
theorem wy_nx_1 {c : Nat} {v : Int} : ∀ {j : Nat}, (∀ k, k < j → wy_sm P t by_ k → wy_va P t c k ≠ v) → wy_nx P t by_ c v j = 1
  | 0, _ => rfl
  | j + 1, h => by
    have h1 := @wy_nx_1 c v j (fun k hk => h k (by omega))
    simp only [wy_nx]
    rw [if_neg (by omega), if_neg (fun hh => h j (by omega) hh.1 hh.2)]
theorem wy_step {x : Int} (h1 : 1 ≤ x) (h2 : x ≤ 10) : x = 1 ∨ x = 2 ∨ x = 3 ∨ x = 4 ∨ x = 5 ∨ x = 6 ∨ x = 7 ∨ x = 8 ∨ x = 9 ∨ x = 10 := by omega
theorem wy_ceil {c x : Int} (hc : 0 ≤ c) (h1 : 1 ≤ x) (h2 : x ≤ 10) : (c + 1 + x - 1) / x = (c + x - 1) / x + (if c % x = 0 then 1 else 0) := by
  rcases wy_step h1 h2 with rfl | rfl | rfl | rfl | rfl | rfl | rfl | rfl | rfl | rfl <;> split <;> omega
theorem wy_ns_ceil (hI : wy_iv P) (h1 : 1 ≤ by_) (h2 : by_ ≤ 10) : ∀ i : Nat, (wy_ns P t by_ i : Int) = (wy_ct P t i + by_ - 1) / by_
  | 0 => by
    simp only [wy_ns, wy_ct]
    rcases wy_step h1 h2 with rfl | rfl | rfl | rfl | rfl | rfl | rfl | rfl | rfl | rfl <;> decide
  | i + 1 => by
    have h := wy_ns_ceil hI h1 h2 i
    have hc := wy_ct_b P t i
    have b3 := wy_b3 hI (40 * t + i)
    simp only [wy_ct]
    by_cases h0 : P 3 (40 * t + i) = 0
    · rw [wy_ns_s0 (fun hs => hs.1 h0), if_pos h0, h]
      congr 2
      omega
    · rw [if_neg h0, wy_ceil hc.1 h1 h2]
      by_cases hm : wy_ct P t i % by_ = 0
      · rw [wy_ns_s1 ⟨h0, hm⟩, if_pos hm]; omega
      · rw [wy_ns_s0 (fun hs => hm hs.2), if_neg hm]; omega
theorem wy_ns_mul (hI : wy_iv P) (h1 : 1 ≤ by_) (h2 : by_ ≤ 10) (i : Nat) : wy_ct P t i = by_ * (wy_ns P t by_ i : Int) ↔ wy_ct P t i % by_ = 0 := by
  have h := @wy_ns_ceil P t by_ hI h1 h2 i
  have hc := wy_ct_b P t i
  rw [h]
  rcases wy_step h1 h2 with rfl | rfl | rfl | rfl | rfl | rfl | rfl | rfl | rfl | rfl <;> omega
theorem wy_mul_b {x y : Int} (h1 : 1 ≤ x) (h2 : x ≤ 10) (h3 : 0 ≤ y) (h4 : y ≤ 100) : 0 ≤ x * y ∧ x * y ≤ 1000 := by
  rcases wy_step h1 h2 with rfl | rfl | rfl | rfl | rfl | rfl | rfl | rfl | rfl | rfl <;> omega
/-! the class takes a sample -/
variable {S : wq_St}
theorem wy_x_takeSample (hI : wy_iv P) (hR : wy_R wy_co S P) (ht : t < 4) (h1 : 1 ≤ by_) (h2 : by_ ≤ 10) : ∃ S', f_X7_takeSample (6 + 48 * t) by_ S = some ((wy_ns P t by_ (P 2 t).toNat : Int), S') ∧ (∀ k j, k ≠ 6 + 48 * t + 44 → S' k j = S k j) ∧ (∀ k, k < (P 2 t).toNat → wy_sm P t by_ k → S' (6 + 48 * t + 44) (wy_ns P t by_ k) = (k : Int)) := by
  have b2 := wy_b2 hI t
  unfold f_X7_takeSample
  have key := wy_up (fun n i (S1 : wq_St) => ∃ S', l_X7_takeSample_10 (6 + 48 * t) by_ (fun u4 S5 => some (u4, S5)) n (wy_ns P t by_ i : Int) (wy_ct P t i) (by_ * (wy_ns P t by_ i : Int)) (i : Int) S1 = some ((wy_ns P t by_ (P 2 t).toNat : Int), S') ∧ (∀ k j, k ≠ 6 + 48 * t + 44 → S' k j = S k j) ∧ (∀ k, k < (P 2 t).toNat → wy_sm P t by_ k → S' (6 + 48 * t + 44) (wy_ns P t by_ k) = (k : Int))) (P 2 t).toNat (fun i S1 => (∀ k j, k ≠ 6 + 48 * t + 44 → S1 k j = S k j) ∧ (∀ k, k < i → wy_sm P t by_ k → S1 (6 + 48 * t + 44) (wy_ns P t by_ k) = (k : Int))) ?_ ?_ wq_fu 0 S (by omega) (wy_fu' (by omega)) ⟨fun _ _ _ => rfl, fun k hk => by omega⟩
  · simpa [wy_ct, wy_ns] using key
  · intro n i S1 hi ⟨hf, hs⟩ ih
    have b3 := wy_b3 hI (40 * t + i)
    have hn := @wy_ns_le P t by_ i
    have hc := wy_ct_b P t i
    have hb := wy_mul_b h1 h2 (y := (wy_ns P t by_ i : Int)) (by omega) (by omega)
    have r5 : S1 (6 + 48 * t) 5 = P 2 t := by rw [hf _ _ (by omega)]; exact wy_c2 hR ht
    have r3 : S1 (6 + 48 * t + 43) i = P 3 (40 * t + i) := by rw [hf _ _ (by omega)]; exact wy_c3 hR ht (by omega)
    rw [l_X7_takeSample_10_s]
    unfold b_X7_takeSample_10
    simp (disch := omega) only [wy_ix, Int.toNat_natCast, r5, r3, wq_w_id]
    rw [if_neg (by omega)]
    have e : ((i : Int) + 1) = ((i + 1 : Nat) : Int) := by omega
    rw [e]
    by_cases h0 : P 3 (40 * t + i) = 0
    · rw [if_pos h0]
      have ih := ih S1 ⟨hf, fun k hk hm => by
        by_cases ek : k = i
        · subst ek; exact absurd h0 hm.1
        · exact hs k (by omega) hm⟩
      rw [wy_ns_s0 (fun hm => hm.1 h0)] at ih
      simp only [wy_ct] at ih
      rw [if_pos h0, Int.add_zero] at ih
      exact ih
    · rw [if_neg h0]
      have hm := @wy_ns_mul P t by_ hI h1 h2 i
      by_cases hq : wy_ct P t i = by_ * (wy_ns P t by_ i : Int)
      · rw [if_pos hq]
        have hsm : wy_sm P t by_ i := ⟨h0, hm.mp hq⟩
        have ih := ih (wq_set S1 (6 + 48 * t + 44) (wy_ns P t by_ i) (i : Int)) ⟨fun k j hk => by
          rw [wy_set_ne (fun e => hk e.1)]
          exact hf k j hk, fun k hk hm' => by
          by_cases ek : k = i
          · subst ek
            exact wy_set_at rfl rfl
          · have hlt : k + 1 ≤ i := by omega
            have h3 := @wy_ns_mono P t by_ _ _ hlt
            rw [wy_ns_s1 hm'] at h3
            rw [wy_set_ne (fun e => by omega)]
            exact hs k (by omega) hm'⟩
        rw [wy_ns_s1 hsm] at ih
        simp only [wy_ct] at ih
        rw [if_neg h0] at ih
        have e2 : by_ * ((wy_ns P t by_ i + 1 : Nat) : Int) = by_ * (wy_ns P t by_ i : Int) + by_ := by
          rw [Int.natCast_add, Int.mul_add]; simp
        rw [e2, Int.natCast_add] at ih
        exact ih
      · rw [if_neg hq]
        have hsm : ¬wy_sm P t by_ i := fun hs => hq (hm.mpr hs.2)
        have ih := ih S1 ⟨hf, fun k hk hm2 => by
          by_cases ek : k = i
          · subst ek; exact absurd hm2 hsm
          · exact hs k (by omega) hm2⟩
        rw [wy_ns_s0 hsm] at ih
        simp only [wy_ct] at ih
        rw [if_neg h0] at ih
        exact ih
  · intro n S1 ⟨hf, hs⟩
    have r5 : S1 (6 + 48 * t) 5 = P 2 t := by rw [hf _ _ (by omega)]; exact wy_c2 hR ht
    rw [l_X7_takeSample_10_s]
    unfold b_X7_takeSample_10
    simp (disch := omega) only [Int.toNat_natCast, r5, wq_w_id]
    rw [if_pos (by omega)]
    exact ⟨S1, rfl, hf, hs⟩
end
