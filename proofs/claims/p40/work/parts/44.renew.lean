/-! counts are renewed -/
section
variable {P : wq_St} {t : Nat} {by_ : Int} {S M : wq_St}
theorem wy_rn_o {n f j : Nat} (h : f ≠ 6 ∧ f ≠ 7 ∧ f ≠ 8 ∧ f ≠ 9) : wy_rn P t by_ n f j = P f j := by
  unfold wy_rn
  rw [if_neg (by omega)]
  split
  · rw [if_neg h.2.1, if_neg h.2.2.1, if_neg h.2.2.2]
  · rfl
theorem wy_x_renew (hI : wy_iv P) (hR : wy_R wy_al S P) (ht : t < 4) (h1 : 1 ≤ by_) (h2 : by_ ≤ 10) : ∃ S', f_X7_renewCounts (6 + 48 * t) by_ S = some ((wy_ns P t by_ (P 2 t).toNat : Int), S') ∧ wy_R wy_al S' (wy_rn P t by_ (P 1 t).toNat) := by
  have b1 := wy_b1 hI t
  have b2 := wy_b2 hI t
  obtain ⟨S2, e2, hf, hsa⟩ := wy_x_takeSample hI (wy_R_co hR) ht h1 h2
  have hR2 : wy_R wy_al S2 P := fun f i hc hi => by
    have h := (wy_ok hi).2
    rw [hf _ _ (fun e => h (by unfold wy_scr; omega))]
    exact hR f i hc hi
  have hp := hI.2.2.2.2.2.2.2.2.2 t ht
  unfold f_X7_renewCounts
  rw [wy_bd e2]
  simp only [wq_lt]
  have r6 : S2 (6 + 48 * t) 6 = wy_ct P t (P 2 t).toNat := by rw [wy_c27 (wy_R_co hR2) ht, hp]
  rw [r6]
  have key := wy_up (fun n i (S1 : wq_St) => ∃ S', l_X7_renewCounts_16 (6 + 48 * t) by_ (wy_ns P t by_ (P 2 t).toNat : Int) (fun S6 => some ((wy_ns P t by_ (P 2 t).toNat : Int), S6)) n (i : Int) S1 = some ((wy_ns P t by_ (P 2 t).toNat : Int), S') ∧ wy_R wy_al S' (wy_rn P t by_ (P 1 t).toNat)) (P 1 t).toNat (fun i S1 => wy_R wy_al S1 (wy_rn P t by_ i) ∧ wy_sa P t by_ S1) ?_ ?_ wq_fu 0 (wq_set S2 (6 + 48 * t) 7 (wy_ct P t (P 2 t).toNat)) (by omega) (wy_fu' (by omega)) ⟨?_, ?_⟩
  · exact key
  · intro n i S1 hi ⟨hr, hs⟩ ih
    have hr' := wy_R_co hr
    rw [l_X7_renewCounts_16_s]
    unfold b_X7_renewCounts_16
    have r4 : S1 (6 + 48 * t) 4 = P 1 t := by rw [wy_c1 hr' ht, wy_rn_o (by omega)]
    simp (disch := omega) only [r4, wq_w_id]
    rw [if_neg (by omega)]
    have htl := wy_x_tell (S := S1) hI ht h1 h2 hs (fun i' c' hi' hc' => by rw [wy_c4 hr' ht hi' hc', wy_rn_o (by omega)]; rfl) (by rw [wy_c27 hr' ht, wy_rn_o (by omega), hp]) (c := i) (by omega)
    rw [wy_bd htl]
    have e : ((i : Int) + 1) = ((i + 1 : Nat) : Int) := by omega
    rw [e]
    have hin : ∀ f, f = 7 ∨ f = 8 ∨ f = 9 → wy_in f (3 * t + i) := fun f hf => by
      refine ⟨?_, fun e => by omega⟩
      rcases hf with rfl | rfl | rfl <;> (show 3 * t + i < 12; omega)
    refine ih _ ⟨?_, ?_⟩
    · rw [wy_rn_s]
      exact wy_R_set (wy_R_set (wy_R_set hr _ (hin 7 (by omega)) (wy_k3 (by omega)).symm rfl) _ (hin 8 (by omega)) (wy_k3 (by omega)).symm rfl) _ (hin 9 (by omega)) (wy_k3 (by omega)).symm rfl
    · intro k hk hm
      rw [wy_set_ne (by omega), wy_set_ne (by omega), wy_set_ne (by omega)]
      exact hs k hk hm
  · intro n S1 ⟨hr, hs⟩
    have hr' := wy_R_co hr
    rw [l_X7_renewCounts_16_s]
    unfold b_X7_renewCounts_16
    have r4 : S1 (6 + 48 * t) 4 = P 1 t := by rw [wy_c1 hr' ht, wy_rn_o (by omega)]
    simp (disch := omega) only [r4, wq_w_id]
    rw [if_pos (by omega)]
    exact ⟨S1, rfl, hr⟩
  · rw [wy_rn_0]
    exact wy_R_set hR2 _ (f₀ := 6) (i₀ := t) ⟨ht, fun e => by omega⟩ rfl rfl
  · intro k hk hm
    rw [wy_set_ne (by omega)]
    exact hsa k hk hm
/-! the model -/
theorem wy_m_valueAt (h4 : ∀ j, M 4 j = P 4 j) (ht : t < 4) {i c : Nat} (hi : i < 40) (hc : c < 3) : f_X9_valueAt (t : Int) (i : Int) (c : Int) M = some (wy_va P t c i, M) := by
  unfold f_X9_valueAt
  simp (disch := omega) only [wy_ix, wy_n34, h4]
  rfl
theorem wy_rem {a b : Int} (h0 : 0 ≤ a) (h1 : a < 2147483648) (h2 : 1 ≤ b) (h3 : b ≤ 10) : wq_rem a b = a % b := by
  unfold wq_rem wq_div
  rw [wq_w_id (by omega) h1, wq_w_id (by omega) (by omega), Int.tdiv_eq_ediv_of_nonneg h0]
  rcases wy_step h2 h3 with rfl | rfl | rfl | rfl | rfl | rfl | rfl | rfl | rfl | rfl <;> omega
theorem wy_m_isSampled (hI : wy_iv P) (h3 : ∀ j, M 3 j = P 3 j) (ht : t < 4) (h1 : 1 ≤ by_) (h2 : by_ ≤ 10) {i : Nat} (hi : i < 40) : f_X9_isSampled (t : Int) (i : Int) by_ M = some ((if wy_sm P t by_ i then 1 else 0), M) := by
  unfold f_X9_isSampled
  generalize hkx : (fun (u2 : Int) (S3 : wq_St) => wq_ix ((40 * (t : Int)) + (i : Int)) 160 fun t4 => if wq_w (S3 3 t4) = 0 then some ((0 : Int), S3) else wq_gd (¬ wq_w by_ = 0) <| if wq_w (wq_rem u2 by_) = 0 then some (1, S3) else some (0, S3)) = kx
  have key := wy_up (fun n k (_ : Unit) => l_X9_isSampled_6 (t : Int) (i : Int) by_ kx n (wy_ct P t k) (k : Int) M = kx (wy_ct P t i) M) i (fun _ _ => True) ?_ ?_ wq_fu 0 () (by omega) (wy_fu' (by omega)) trivial
  · refine Eq.trans key ?_
    subst hkx
    have b3 := wy_b3 hI (40 * t + i)
    have hc := wy_ct_b P t i
    simp (disch := omega) only [wy_ix, wy_n40, h3, wq_w_id, wy_rem]
    by_cases h0 : P 3 (40 * t + i) = 0
    · rw [if_pos h0, if_neg (fun h => h.1 h0)]
    · rw [if_neg h0, wq_gd_t (by omega)]
      have hm : 0 ≤ wy_ct P t i % by_ ∧ wy_ct P t i % by_ < by_ := ⟨Int.emod_nonneg _ (by omega), Int.emod_lt_of_pos _ (by omega)⟩
      rw [wq_w_id (by omega) (by omega)]
      by_cases hz : wy_ct P t i % by_ = 0
      · rw [if_pos hz, if_pos ⟨h0, hz⟩]
      · rw [if_neg hz, if_neg (fun h => hz h.2)]
  · intro n k s hk _ ih
    have b3 := wy_b3 hI (40 * t + k)
    have ih := ih () trivial
    rw [l_X9_isSampled_6_s]
    unfold b_X9_isSampled_6
    simp (disch := omega) only [wy_ix, wy_n40, h3, wq_w_id]
    rw [if_neg (by omega)]
    have e : ((k : Int) + 1) = ((k + 1 : Nat) : Int) := by omega
    simp only [wy_ct] at ih
    rw [e]
    by_cases hc : P 3 (40 * t + k) = 0
    · rw [if_pos hc] at ih ⊢
      exact ih
    · rw [if_neg hc] at ih ⊢
      exact ih
  · intro n s _
    rw [l_X9_isSampled_6_s]
    unfold b_X9_isSampled_6
    rw [if_pos (Int.le_refl _)]
theorem wy_m_sample (hI : wy_iv P) (h2' : ∀ i, M 2 i = P 2 i) (h3 : ∀ j, M 3 j = P 3 j) (ht : t < 4) (h1 : 1 ≤ by_) (h2 : by_ ≤ 10) : f_X9_sample (t : Int) by_ M = some ((wy_ns P t by_ (P 2 t).toNat : Int), M) := by
  have b2 := wy_b2 hI t
  have hc := wy_ct_b P t (P 2 t).toNat
  unfold f_X9_sample
  rw [wy_bd (wy_m_rowsOf hI h2' h3 ht), wq_w_id (by omega) (by omega), wq_gd_t (by omega), wy_ns_ceil hI h1 h2]
  unfold wq_div
  rw [wq_w_id (by omega) (by omega), wq_w_id (by omega) (by omega), Int.tdiv_eq_ediv_of_nonneg (by omega)]
theorem wy_m_nx (hI : wy_iv P) (h3 : ∀ j, M 3 j = P 3 j) (h4 : ∀ j, M 4 j = P 4 j) (ht : t < 4) (h1 : 1 ≤ by_) (h2 : by_ ≤ 10) {c ρ : Nat} {v at_ y : Int} (hc : c < 3) (hρ : ρ < 40) (hv : 0 ≤ v ∧ v ≤ 999) (kx : Int → wq_St → Option (Int × wq_St)) : l_X9_renews_173 (t : Int) by_ (c : Int) at_ y (ρ : Int) v kx wq_fu 1 0 M = kx (wy_nx P t by_ c v ρ) M := by
  have key := wy_up (fun n k (_ : Unit) => l_X9_renews_173 (t : Int) by_ (c : Int) at_ y (ρ : Int) v kx n (wy_nx P t by_ c v k) (k : Int) M = kx (wy_nx P t by_ c v ρ) M) ρ (fun _ _ => True) ?_ ?_ wq_fu 0 () (by omega) (wy_fu' (by omega)) trivial
  · exact key
  · intro n k s hk _ ih
    have ih := ih () trivial
    have b4 : 0 ≤ wy_va P t c k ∧ wy_va P t c k ≤ 999 := wy_b4 hI _
    have hb := @wy_nx_b P t by_ c v k
    simp only [wy_nx] at ih
    have e : ((k : Int) + 1) = ((k + 1 : Nat) : Int) := by omega
    rw [l_X9_renews_173_s]
    unfold b_X9_renews_173
    rw [e]
    simp (disch := omega) only [wq_w_id]
    rw [if_neg (by omega)]
    by_cases h0 : wy_nx P t by_ c v k = 0
    · rw [if_pos h0] at ih ⊢
      exact ih
    · rw [if_neg h0] at ih ⊢
      rw [wy_bd (wy_m_isSampled hI h3 ht h1 h2 (by omega))]
      by_cases hm : wy_sm P t by_ k
      · rw [if_pos hm, if_neg (by decide), wy_bd (wy_m_valueAt h4 ht (by omega) hc), wq_w_id (by omega) (by omega)]
        by_cases hva : wy_va P t c k = v
        · rw [if_pos ⟨hm, hva⟩] at ih
          rw [if_pos hva]
          exact ih
        · rw [if_neg (fun h => hva h.2)] at ih
          rw [if_neg hva]
          exact ih
      · rw [if_neg (fun h => hm h.1)] at ih
        rw [if_neg hm, if_pos wq_w_0]
        exact ih
  · intro n s _
    rw [l_X9_renews_173_s]
    unfold b_X9_renews_173
    rw [if_pos (Int.le_refl _)]
def wy_m3 (M : wq_St) (a : Nat) (u l g : Int) : wq_St := wq_set (wq_set (wq_set M 7 a u) 8 a l) 9 a g
theorem wy_m3_7 {a : Nat} {u l g v : Int} : wq_set (wy_m3 M a u l g) 7 a v = wy_m3 M a v l g := by
  funext f j
  unfold wy_m3
  by_cases h : f = 7 ∧ j = a
  · rw [wy_set_at h.1 h.2, wy_set_ne (by omega), wy_set_ne (by omega), wy_set_at h.1 h.2]
  · rw [wy_set_ne h]
    by_cases h9 : f = 9 ∧ j = a
    · rw [wy_set_at h9.1 h9.2, wy_set_at h9.1 h9.2]
    · rw [wy_set_ne h9, wy_set_ne h9]
      by_cases h8 : f = 8 ∧ j = a
      · rw [wy_set_at h8.1 h8.2, wy_set_at h8.1 h8.2]
      · rw [wy_set_ne h8, wy_set_ne h8, wy_set_ne h, wy_set_ne h]
theorem wy_m3_8 {a : Nat} {u l g v : Int} : wq_set (wy_m3 M a u l g) 8 a v = wy_m3 M a u v g := by
  funext f j
  unfold wy_m3
  by_cases h : f = 8 ∧ j = a
  · rw [wy_set_at h.1 h.2, wy_set_ne (by omega), wy_set_at h.1 h.2]
  · rw [wy_set_ne h]
    by_cases h9 : f = 9 ∧ j = a
    · rw [wy_set_at h9.1 h9.2, wy_set_at h9.1 h9.2]
    · rw [wy_set_ne h9, wy_set_ne h9, wy_set_ne h, wy_set_ne h]
theorem wy_m3_9 {a : Nat} {u l g v : Int} : wq_set (wy_m3 M a u l g) 9 a v = wy_m3 M a u l v := by
  funext f j
  unfold wy_m3
  by_cases h : f = 9 ∧ j = a
  · rw [wy_set_at h.1 h.2, wy_set_at h.1 h.2]
  · rw [wy_set_ne h, wy_set_ne h, wy_set_ne h]
theorem wy_m3_r7 {a : Nat} {u l g : Int} : wy_m3 M a u l g 7 a = u := by
  unfold wy_m3
  rw [wy_set_ne (by omega), wy_set_ne (by omega), wy_set_at rfl rfl]
theorem wy_m3_r8 {a : Nat} {u l g : Int} : wy_m3 M a u l g 8 a = l := by
  unfold wy_m3
  rw [wy_set_ne (by omega), wy_set_at rfl rfl]
theorem wy_m3_r9 {a : Nat} {u l g : Int} : wy_m3 M a u l g 9 a = g := by
  unfold wy_m3
  rw [wy_set_at rfl rfl]
theorem wy_m3_o {a f j : Nat} {u l g : Int} (h : f ≠ 7 ∧ f ≠ 8 ∧ f ≠ 9) : wy_m3 M a u l g f j = M f j := by
  unfold wy_m3
  rw [wy_set_ne (by omega), wy_set_ne (by omega), wy_set_ne (by omega)]
end
