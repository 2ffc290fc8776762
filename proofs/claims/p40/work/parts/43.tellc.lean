/-! the class tells a column -/
/-- P with the counts of table t told, of its first n columns -/
def wy_rn (P : wq_St) (t : Nat) (by_ : Int) (n : Nat) : wq_St := fun f j =>
  if f = 6 ∧ j = t then wy_ct P t (P 2 t).toNat
  else if 3 * t ≤ j ∧ j < 3 * t + n then
    if f = 7 then (if wy_ct P t (P 2 t).toNat < by_ * wy_un P t by_ (j - 3 * t) (P 2 t).toNat then wy_ct P t (P 2 t).toNat else by_ * wy_un P t by_ (j - 3 * t) (P 2 t).toNat)
    else if f = 8 then wy_le P t by_ (j - 3 * t) (P 2 t).toNat
    else if f = 9 then wy_gr P t by_ (j - 3 * t) (P 2 t).toNat
    else P f j
  else P f j
section
variable {P : wq_St} {t : Nat} {by_ : Int} {S : wq_St}
theorem wy_un_b (c : Nat) : ∀ i : Nat, 0 ≤ wy_un P t by_ c i ∧ wy_un P t by_ c i ≤ (i : Int)
  | 0 => by simp [wy_un]
  | i + 1 => by
    have h := wy_un_b c i
    simp only [wy_un]
    split <;> omega
theorem wy_legr (hI : wy_iv P) (c : Nat) : ∀ i : Nat, 0 ≤ wy_le P t by_ c i ∧ wy_le P t by_ c i ≤ wy_gr P t by_ c i ∧ wy_gr P t by_ c i ≤ 999
  | 0 => by simp [wy_le, wy_gr]
  | i + 1 => by
    have h := wy_legr hI c i
    have b4 : 0 ≤ wy_va P t c i ∧ wy_va P t c i ≤ 999 := wy_b4 hI (3 * (40 * t + i) + c)
    simp only [wy_le, wy_gr]
    split
    · split
      · split <;> omega
      · split <;> omega
    · exact h
theorem wy_rn_0 (P : wq_St) (t : Nat) (by_ : Int) : wy_rn P t by_ 0 = wq_set P 6 t (wy_ct P t (P 2 t).toNat) := by
  funext f j
  unfold wy_rn wq_set
  by_cases h : f = 6 ∧ j = t
  · rw [if_pos h, if_pos h]
  · rw [if_neg h, if_neg (by omega), if_neg h]
theorem wy_rn_s (P : wq_St) (t : Nat) (by_ : Int) (n : Nat) : wy_rn P t by_ (n + 1) = wq_set (wq_set (wq_set (wy_rn P t by_ n) 7 (3 * t + n) (if wy_ct P t (P 2 t).toNat < by_ * wy_un P t by_ n (P 2 t).toNat then wy_ct P t (P 2 t).toNat else by_ * wy_un P t by_ n (P 2 t).toNat)) 8 (3 * t + n) (wy_le P t by_ n (P 2 t).toNat)) 9 (3 * t + n) (wy_gr P t by_ n (P 2 t).toNat) := by
  funext f j
  by_cases hj : j = 3 * t + n
  · subst hj
    have e : 3 * t + n - 3 * t = n := by omega
    by_cases h7 : f = 7
    · subst h7
      rw [wy_set_ne (by omega), wy_set_ne (by omega), wy_set_at rfl rfl]
      unfold wy_rn
      rw [if_neg (by omega), if_pos (by omega), if_pos rfl, e]
    · by_cases h8 : f = 8
      · subst h8
        rw [wy_set_ne (by omega), wy_set_at rfl rfl]
        unfold wy_rn
        rw [if_neg (by omega), if_pos (by omega), if_neg (by omega), if_pos rfl, e]
      · by_cases h9 : f = 9
        · subst h9
          rw [wy_set_at rfl rfl]
          unfold wy_rn
          rw [if_neg (by omega), if_pos (by omega), if_neg (by omega), if_neg (by omega), if_pos rfl, e]
        · rw [wy_set_ne (by omega), wy_set_ne (by omega), wy_set_ne (by omega)]
          unfold wy_rn
          by_cases h6 : f = 6 ∧ 3 * t + n = t
          · rw [if_pos h6, if_pos h6]
          · rw [if_neg h6, if_neg h6, if_pos (by omega), if_neg h7, if_neg h8, if_neg h9, if_neg (by omega)]
  · rw [wy_set_ne (by omega), wy_set_ne (by omega), wy_set_ne (by omega)]
    unfold wy_rn
    by_cases h6 : f = 6 ∧ j = t
    · rw [if_pos h6, if_pos h6]
    · rw [if_neg h6, if_neg h6]
      by_cases hr : 3 * t ≤ j ∧ j < 3 * t + n
      · rw [if_pos hr, if_pos (by omega)]
      · rw [if_neg hr, if_neg (by omega)]
/-- what the sample array holds -/
def wy_sa (P : wq_St) (t : Nat) (by_ : Int) (S : wq_St) : Prop := ∀ k, k < (P 2 t).toNat → wy_sm P t by_ k → S (6 + 48 * t + 44) (wy_ns P t by_ k) = (k : Int)
theorem wy_x_isNew (hI : wy_iv P) (ht : t < 4) (hsa : wy_sa P t by_ S) (h4 : ∀ i c, i < 40 → c < 3 → S (6 + 48 * t + 3 + i) c = wy_va P t c i) {c ρ : Nat} (hc : c < 3) (hρ : ρ < (P 2 t).toNat) (hm : wy_sm P t by_ ρ) : f_X7_isNewInSample (6 + 48 * t) (c : Int) (wy_ns P t by_ ρ : Int) S = some (wy_nx P t by_ c (wy_va P t c ρ) ρ, S) := by
  have b2 := wy_b2 hI t
  have hn := @wy_ns_le P t by_ ρ
  have b4 : 0 ≤ wy_va P t c ρ ∧ wy_va P t c ρ ≤ 999 := wy_b4 hI (3 * (40 * t + ρ) + c)
  unfold f_X7_isNewInSample
  have key := wy_up (fun n q (_ : Unit) => l_X7_isNewInSample_2 (6 + 48 * t) (c : Int) (wy_ns P t by_ ρ : Int) (fun S7 => some (1, S7)) n (q : Int) S = some (wy_nx P t by_ c (wy_va P t c ρ) ρ, S)) (wy_ns P t by_ ρ) (fun q _ => ∀ k, k < ρ → wy_sm P t by_ k → wy_ns P t by_ k < q → wy_va P t c k ≠ wy_va P t c ρ) ?_ ?_ wq_fu 0 () (by omega) (wy_fu' (by omega)) (fun k _ _ h => by omega)
  · simpa using key
  · intro n q s hq hv ih
    obtain ⟨k, hk, hkm, hkq⟩ := wy_ns_ex hq
    have hk2 := hsa k (by omega) hkm
    have hr2 := hsa ρ hρ hm
    have b4k : 0 ≤ wy_va P t c k ∧ wy_va P t c k ≤ 999 := wy_b4 hI (3 * (40 * t + k) + c)
    have e4k := h4 k c (by omega) hc
    have e4r := h4 ρ c (by omega) hc
    rw [hkq] at hk2
    rw [l_X7_isNewInSample_2_s]
    unfold b_X7_isNewInSample_2
    simp (disch := omega) only [wy_ix, Int.toNat_natCast, hk2, hr2, wq_w_id, e4k, e4r]
    rw [if_neg (by omega)]
    by_cases he : wy_va P t c k = wy_va P t c ρ
    · rw [if_pos he, wy_nx_0 hkm he hk]
    · rw [if_neg he]
      have e : ((q : Int) + 1) = ((q + 1 : Nat) : Int) := by omega
      rw [e]
      refine ih () fun k' h1 h2 h3 => ?_
      by_cases e' : wy_ns P t by_ k' = q
      · have : k' = k := by
          rcases Nat.lt_trichotomy k' k with h | h | h
          · have h5 := @wy_ns_mono P t by_ (k' + 1) k h
            rw [wy_ns_s1 h2] at h5; omega
          · exact h
          · have h5 := @wy_ns_mono P t by_ (k + 1) k' h
            rw [wy_ns_s1 hkm] at h5; omega
        rw [this]; exact he
      · exact hv k' h1 h2 (by omega)
  · intro n s hv
    rw [l_X7_isNewInSample_2_s]
    unfold b_X7_isNewInSample_2
    simp (disch := omega) only [wq_w_id]
    rw [if_pos (by omega), wy_nx_1 (fun k hk hkm => hv k hk hkm ?_)]
    have h5 := @wy_ns_mono P t by_ (k + 1) ρ hk
    rw [wy_ns_s1 hkm] at h5; omega
theorem wy_x_tell (hI : wy_iv P) (ht : t < 4) (h1 : 1 ≤ by_) (h2 : by_ ≤ 10) (hsa : wy_sa P t by_ S) (h4 : ∀ i c, i < 40 → c < 3 → S (6 + 48 * t + 3 + i) c = wy_va P t c i) (h6 : S (6 + 48 * t) 6 = wy_ct P t (P 2 t).toNat) {c : Nat} (hc : c < 3) :
    f_X7_tellColumn (6 + 48 * t) (c : Int) (wy_ns P t by_ (P 2 t).toNat : Int) by_ S = some (0, wq_set (wq_set (wq_set S (6 + 48 * t + 45 + c) 1 (if wy_ct P t (P 2 t).toNat < by_ * wy_un P t by_ c (P 2 t).toNat then wy_ct P t (P 2 t).toNat else by_ * wy_un P t by_ c (P 2 t).toNat)) (6 + 48 * t + 45 + c) 2 (wy_le P t by_ c (P 2 t).toNat)) (6 + 48 * t + 45 + c) 3 (wy_gr P t by_ c (P 2 t).toNat)) := by
  have b2 := wy_b2 hI t
  have hnN := @wy_ns_le P t by_ (P 2 t).toNat
  unfold f_X7_tellColumn
  generalize hkx : (fun u10 u11 u12 S13 => wq_ix (c : Int) 3 fun t14 => wq_lt (wq_set S13 ((6 + 48 * t) + 45 + t14) 1 (wq_min (u10 * by_) (S13 (6 + 48 * t) 6))) fun S15 => wq_ix (c : Int) 3 fun t16 => wq_lt (wq_set S15 ((6 + 48 * t) + 45 + t16) 2 u11) fun S17 => wq_ix (c : Int) 3 fun t18 => some ((0 : Int), wq_set S17 ((6 + 48 * t) + 45 + t18) 3 u12)) = kx
  have key := wy_up (fun n q (s : Int × Int × Int) => l_X7_tellColumn_12 (6 + 48 * t) (c : Int) (wy_ns P t by_ (P 2 t).toNat : Int) by_ kx n s.1 s.2.1 s.2.2 (q : Int) S = kx (wy_un P t by_ c (P 2 t).toNat) (wy_le P t by_ c (P 2 t).toNat) (wy_gr P t by_ c (P 2 t).toNat) S) (wy_ns P t by_ (P 2 t).toNat) (fun q s => ∀ i, i ≤ (P 2 t).toNat → wy_ns P t by_ i = q → s.1 = wy_un P t by_ c i ∧ s.2.1 = wy_le P t by_ c i ∧ s.2.2 = wy_gr P t by_ c i) ?_ ?_ wq_fu 0 (0, 0, 0) (by omega) (wy_fu' (by omega)) (fun i _ hi => by
    have h := @wy_const P t by_ 0 c 0 i (by omega) (by rw [hi]; rfl)
    exact ⟨h.1, h.2.1, h.2.2⟩)
  · refine Eq.trans key ?_
    subst hkx
    have hu := @wy_un_b P t by_ c (P 2 t).toNat
    have hcb := wy_ct_b P t (P 2 t).toNat
    have hmb := wy_mul_b h1 h2 (y := wy_un P t by_ c (P 2 t).toNat) (by omega) (by omega)
    simp (disch := omega) only [wy_ix, Int.toNat_natCast, wq_lt, wq_min, h6]
    rw [Int.mul_comm (wy_un P t by_ c (P 2 t).toNat) by_]
    simp (disch := omega) only [wq_w_id]
  · intro n q s hq hv ih
    obtain ⟨ρ, hρ, hm, hρq⟩ := wy_ns_ex hq
    obtain ⟨v1, v2, v3⟩ := hv ρ (by omega) hρq
    have hr2 := hsa ρ hρ hm
    have b4 : 0 ≤ wy_va P t c ρ ∧ wy_va P t c ρ ≤ 999 := wy_b4 hI (3 * (40 * t + ρ) + c)
    have e4 := h4 ρ c (by omega) hc
    have hlg := @wy_legr P t by_ hI c ρ
    have hnew := wy_x_isNew hI ht hsa h4 hc hρ hm
    have hnb := @wy_nx_b P t by_ c (wy_va P t c ρ) ρ
    rw [hρq] at hr2 hnew
    have nxt : ∀ s' : Int × Int × Int, s'.1 = wy_un P t by_ c (ρ + 1) → s'.2.1 = wy_le P t by_ c (ρ + 1) → s'.2.2 = wy_gr P t by_ c (ρ + 1) → ∀ i, i ≤ (P 2 t).toNat → wy_ns P t by_ i = q + 1 → s'.1 = wy_un P t by_ c i ∧ s'.2.1 = wy_le P t by_ c i ∧ s'.2.2 = wy_gr P t by_ c i := by
      intro s' g1 g2 g3 i hi hiq
      have e1 : wy_ns P t by_ (ρ + 1) = q + 1 := by rw [wy_ns_s1 hm, hρq]
      have hge : ρ + 1 ≤ i := by
        rcases Nat.lt_or_ge ρ i with h | h
        · exact h
        · have := @wy_ns_mono P t by_ i ρ h
          omega
      have h := @wy_const P t by_ (ρ + 1) c 0 i hge (by omega)
      rw [g1, g2, g3]
      exact h
    simp only [wy_un, wy_le, wy_gr] at nxt
    rw [if_pos hm, if_pos hm, hρq] at nxt
    rw [l_X7_tellColumn_12_s]
    unfold b_X7_tellColumn_12 j_X7_tellColumn_46
    have e : ((q : Int) + 1) = ((q + 1 : Nat) : Int) := by omega
    simp (disch := omega) only [wy_ix, Int.toNat_natCast, hr2, e4, wq_w_id, v1, v2, v3]
    rw [if_neg (by omega)]
    have fin : ∀ l g, l = (if q = 0 ∨ wy_va P t c ρ < wy_le P t by_ c ρ then wy_va P t c ρ else wy_le P t by_ c ρ) → g = (if q = 0 ∨ wy_gr P t by_ c ρ < wy_va P t c ρ then wy_va P t c ρ else wy_gr P t by_ c ρ) → (wq_bd (f_X7_isNewInSample (6 + 48 * t) (c : Int) (q : Int) S) fun r4 S5 => if wq_w r4 = 0 then l_X7_tellColumn_12 (6 + 48 * t) (c : Int) (wy_ns P t by_ (P 2 t).toNat : Int) by_ kx n (wy_un P t by_ c ρ) l g ((q : Int) + 1) S5 else l_X7_tellColumn_12 (6 + 48 * t) (c : Int) (wy_ns P t by_ (P 2 t).toNat : Int) by_ kx n (wy_un P t by_ c ρ + 1) l g ((q : Int) + 1) S5) = kx (wy_un P t by_ c (P 2 t).toNat) (wy_le P t by_ c (P 2 t).toNat) (wy_gr P t by_ c (P 2 t).toNat) S := by
      intro l g hl hg
      rw [wy_bd hnew, e]
      rcases hnb with hz | hz
      · rw [hz] at nxt ⊢
        rw [if_pos wq_w_0]
        exact ih (wy_un P t by_ c ρ, l, g) (nxt _ (by rw [if_neg (fun h => h.2 rfl)]; omega) hl hg)
      · rw [hz] at nxt ⊢
        rw [if_neg (by decide)]
        exact ih (wy_un P t by_ c ρ + 1, l, g) (nxt _ (by rw [if_pos ⟨hm, by omega⟩]) hl hg)
    have h50 : ∀ l j5, l = (if q = 0 ∨ wy_va P t c ρ < wy_le P t by_ c ρ then wy_va P t c ρ else wy_le P t by_ c ρ) → (j5 = wy_va P t c ρ) → j_X7_tellColumn_50 kx (l_X7_tellColumn_12 (6 + 48 * t) (c : Int) (wy_ns P t by_ (P 2 t).toNat : Int) by_ kx n) (6 + 48 * t) (c : Int) (wy_ns P t by_ (P 2 t).toNat : Int) by_ (wy_un P t by_ c ρ) l (wy_gr P t by_ c ρ) (q : Int) j5 S = kx (wy_un P t by_ c (P 2 t).toNat) (wy_le P t by_ c (P 2 t).toNat) (wy_gr P t by_ c (P 2 t).toNat) S := by
      intro l j5 hl hj5
      subst hj5
      unfold j_X7_tellColumn_50
      simp (disch := omega) only [wq_w_id]
      by_cases hq0 : (q : Int) = 0
      · rw [if_pos hq0]
        refine Eq.trans ?_ (fin l (wy_va P t c ρ) hl (by rw [if_pos (Or.inl (by omega))]))
        rfl
      · rw [if_neg hq0]
        by_cases hg : wy_va P t c ρ ≤ wy_gr P t by_ c ρ
        · rw [if_pos hg]
          exact fin l (wy_gr P t by_ c ρ) hl (by rw [if_neg (by omega)])
        · rw [if_neg hg]
          exact fin l (wy_va P t c ρ) hl (by rw [if_pos (by omega)])
    by_cases hq0 : (q : Int) = 0
    · rw [if_pos hq0]
      exact h50 _ _ (by rw [if_pos (Or.inl (by omega))]) rfl
    · rw [if_neg hq0]
      by_cases hg : wy_le P t by_ c ρ ≤ wy_va P t c ρ
      · rw [if_pos hg]
        exact h50 _ _ (by rw [if_neg (by omega)]) rfl
      · rw [if_neg hg]
        exact h50 _ _ (by rw [if_pos (by omega)]) rfl
  · intro n s hv
    obtain ⟨v1, v2, v3⟩ := hv _ (Nat.le_refl _) rfl
    rw [l_X7_tellColumn_12_s]
    unfold b_X7_tellColumn_12
    simp (disch := omega) only [wq_w_id, v1, v2, v3]
    rw [if_pos (by omega)]
end
