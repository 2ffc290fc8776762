/-! NIGHTS: marked tables are renewed -/
def wy_nw (P : wq_St) (t : Nat) : wq_St := if P 10 t = 0 then P else if wq_w (wy_s1 P t) ≤ wq_w (P 0 31) then wq_set (wq_set (wy_rn P t (P 0 11) (P 1 t).toNat) 0 31 (P 0 31 - wy_s1 P t)) 10 t 0 else P
def wy_nq (P : wq_St) : Nat → wq_St
  | 0 => P
  | n + 1 => wy_nw (wy_nq P n) n
section
variable {P S M : wq_St} {t : Nat}
theorem wy_nw_iv (hI : wy_iv P) (t : Nat) : wy_iv (wy_nw P t) := by
  have hO := hI.2.1
  unfold wy_iO at hO
  unfold wy_nw
  split
  · exact hI
  · split
    · exact wy_iv_10 (wy_iv_0 (wy_iv_rn hI hO.2.2.1 _) (by omega)) (Or.inl rfl)
    · exact hI
theorem wy_nw_0 (j : Nat) (hj : j ≠ 31) : wy_nw P t 0 j = P 0 j := by
  unfold wy_nw
  split
  · rfl
  · split
    · rw [wy_set_ne (by omega), wy_set_ne (by omega), wy_rn_o (by omega)]
    · rfl
theorem wy_nq_iv (hI : wy_iv P) : ∀ n, wy_iv (wy_nq P n)
  | 0 => hI
  | n + 1 => wy_nw_iv (wy_nq_iv hI n) n
theorem wy_nq_0 (j : Nat) (hj : j ≠ 31) : ∀ n, wy_nq P n 0 j = P 0 j
  | 0 => rfl
  | n + 1 => by
    have h := wy_nq_0 j hj n
    rw [← h]
    exact wy_nw_0 j hj
theorem wy_nq_1 (j : Nat) : ∀ n, wy_nq P n 1 j = P 1 j
  | 0 => rfl
  | n + 1 => by
    have h := wy_nq_1 j n
    rw [← h]
    show wy_nw (wy_nq P n) n 1 j = wy_nq P n 1 j
    unfold wy_nw
    split
    · rfl
    · split
      · rw [wy_set_ne (by omega), wy_set_ne (by omega), wy_rn_o (by omega)]
      · rfl
theorem wy_nq_tail (hI : wy_iv P) {a : Nat} (ha : P 0 5 ≤ (a : Int)) : ∀ {b : Nat}, a ≤ b → wy_nq P b = wy_nq P a
  | 0, h => by rw [Nat.le_zero.mp h]
  | b + 1, h => by
    by_cases e : a = b + 1
    · rw [e]
    · have h1 := wy_nq_tail hI ha (b := b) (by omega)
      have h2 : wy_nq P b 10 b = 0 := (wy_nq_iv hI b).2.2.1 b (by rw [wy_nq_0 5 (by omega)]; omega)
      rw [← h1]
      show wy_nw (wy_nq P b) b = wy_nq P b
      unfold wy_nw
      rw [if_pos h2]
theorem wy_x_rmt (hI : wy_iv P) (hR : wy_R wy_al S P) : ∃ S', f_X2_renewMarkedTables S = some (0, S') ∧ wy_R wy_al S' (wy_nq P 4) := by
  unfold f_X2_renewMarkedTables
  have key := wy_up (fun n i (s : wq_St) => ∃ S', l_X2_renewMarkedTables_2 (fun S8 => some (0, S8)) n (i : Int) s = some (0, S') ∧ wy_R wy_al S' (wy_nq P 4)) 4 (fun i s => wy_R wy_al s (wy_nq P i)) ?_ ?_ wq_fu 0 S (by omega) (wy_fu' (by omega)) hR
  · exact key
  · intro n i s hi hs ih
    have hI' := wy_nq_iv hI i
    have ih' : ∀ s', wy_R wy_al s' (wy_nw (wy_nq P i) i) → _ := ih
    clear ih
    generalize wy_nq P i = Q at *
    have hO := hI'.2.1
    unfold wy_iO at hO
    have w4 : wq_w 4 = 4 := rfl
    have b10 := wy_b10 hI' i
    have e : ((i : Int) + 1) = ((i + 1 : Nat) : Int) := by omega
    rw [l_X2_renewMarkedTables_2_s]
    unfold b_X2_renewMarkedTables_2
    rw [w4, wq_w_id (x := (i : Int)) (by omega) (by omega), if_neg (by omega), wy_ix (by omega) (by omega) (by omega), Int.toNat_natCast, wy_c10 hs hi, wq_w_id (x := Q 10 i) (by omega) (by omega), e]
    unfold wy_nw at ih'
    by_cases h0 : Q 10 i = 0
    · rw [if_pos h0] at ih'
      rw [if_pos h0]
      exact ih' s hs
    · rw [if_neg h0] at ih'
      rw [if_neg h0, wy_cS hs]
      obtain ⟨S1, e1, hf, -⟩ := wy_x_takeSample hI' (wy_R_co hs) hi hO.2.2.1 hO.2.2.2.1
      have hs1 : wy_R wy_al S1 Q := wy_R_fr hs fun k j hk => hf k j fun e => hk (by unfold wy_scr; omega)
      rw [wy_bd e1, wy_cL hs1, wy_cS hs1]
      by_cases hc : wq_w (wy_s1 Q i) ≤ wq_w (Q 0 31)
      · rw [if_pos hc] at ih'
        unfold wy_s1 at hc
        rw [if_pos hc]
        obtain ⟨S2, e2, hr⟩ := wy_x_renew hI' hs1 hi hO.2.2.1 hO.2.2.2.1
        rw [wy_bd e2, wy_lt, wy_lt]
        exact ih' _ (wy_R_set (wy_R_set hr _ (f₀ := 0) (i₀ := 31) ⟨by decide, fun _ => by omega⟩ rfl rfl) _ (f₀ := 10) (i₀ := i) ⟨hi, fun e => by omega⟩ rfl rfl)
      · rw [if_neg hc] at ih'
        unfold wy_s1 at hc
        rw [if_neg hc]
        exact ih' S1 hs1
  · intro n s hs
    rw [l_X2_renewMarkedTables_2_s]
    unfold b_X2_renewMarkedTables_2
    rw [if_pos (by decide)]
    exact ⟨s, rfl, hs⟩
theorem wy_m_rmt (hI : wy_iv P) (hM : wy_M wy_al M P) (kx : wq_St → Option (Int × wq_St)) : ∃ M', l_X9_night_57 kx wq_fu 0 M = kx M' ∧ wy_M wy_al M' (wy_nq P 4) ∧ M' 0 42 = M 0 42 := by
  have hO0 := hI.2.1
  unfold wy_iO at hO0
  rw [wy_nq_tail hI (a := (P 0 5).toNat) (by omega) (b := 4) (by omega)]
  have key := wy_up (fun n i (s : wq_St) => ∃ M', l_X9_night_57 kx n (i : Int) s = kx M' ∧ wy_M wy_al M' (wy_nq P (P 0 5).toNat) ∧ M' 0 42 = M 0 42) (P 0 5).toNat (fun i s => wy_M wy_al s (wy_nq P i) ∧ s 0 42 = M 0 42) ?_ ?_ wq_fu 0 M (by omega) (wy_fu' (by omega)) ⟨hM, rfl⟩
  · exact key
  · intro n i s hi ⟨hs, h42⟩ ih
    have hI' := wy_nq_iv hI i
    have q5 : wy_nq P i 0 5 = P 0 5 := wy_nq_0 5 (by omega) i
    have ih' : ∀ s', wy_M wy_al s' (wy_nw (wy_nq P i) i) ∧ s' 0 42 = M 0 42 → _ := ih
    clear ih
    generalize wy_nq P i = Q at *
    have hO := hI'.2.1
    unfold wy_iO at hO
    have b10 := wy_b10 hI' i
    have e : ((i : Int) + 1) = ((i + 1 : Nat) : Int) := by omega
    have hi4 : i < 4 := by omega
    rw [l_X9_night_57_s]
    unfold b_X9_night_57
    rw [wy_ma0 hs (i := 5) (by omega), q5, wq_w_id (x := P 0 5) (by omega) (by omega), wq_w_id (x := (i : Int)) (by omega) (by omega), if_neg (by omega), wy_ix (by omega) (by omega) (by omega), Int.toNat_natCast, wy_ma hs (by omega), wq_w_id (x := Q 10 i) (by omega) (by omega), e]
    unfold wy_nw at ih'
    by_cases h0 : Q 10 i = 0
    · rw [if_pos h0] at ih'
      rw [if_pos h0]
      exact ih' s ⟨hs, h42⟩
    · rw [if_neg h0] at ih'
      rw [if_neg h0, wy_ma0 hs (i := 11) (by omega), wy_bd (wy_m_sample hI' (fun j => wy_ma hs (by omega)) (fun j => wy_ma hs (by omega)) hi4 hO.2.2.1 hO.2.2.2.1), wy_ma0 hs (i := 31) (by omega), wy_ma0 hs (i := 11) (by omega)]
      by_cases hc : wq_w (wy_s1 Q i) ≤ wq_w (Q 0 31)
      · rw [if_pos hc] at ih'
        unfold wy_s1 at hc
        rw [if_neg (by omega)]
        obtain ⟨M1, e1, hm1, hf⟩ := wy_m_renews hI' hs hi4 hO.2.2.1 hO.2.2.2.1
        have f11 : M1 0 11 = Q 0 11 := by rw [hf 0 11 (by omega), wy_ma0 hs (i := 11) (by omega)]
        have f31 : M1 0 31 = Q 0 31 := by rw [hf 0 31 (by omega), wy_ma0 hs (i := 31) (by omega)]
        rw [wy_bd e1, f11, wy_bd (wy_m_sample hI' (fun j => by rw [hf 2 j (by omega)]; exact wy_ma hs (by omega)) (fun j => by rw [hf 3 j (by omega)]; exact wy_ma hs (by omega)) hi4 hO.2.2.1 hO.2.2.2.1), wy_lt, wy_ix (by omega) (by omega) (by omega), Int.toNat_natCast, wy_lt, f31]
        exact ih' _ ⟨wy_M_set (wy_M_set hm1 _ (by omega)) _ (by omega), by rw [wy_set_ne (by omega), wy_set_ne (by omega), hf 0 42 (by omega)]; exact h42⟩
      · rw [if_neg hc] at ih'
        unfold wy_s1 at hc
        rw [if_pos (by omega)]
        exact ih' s ⟨hs, h42⟩
  · intro n s ⟨hs, h42⟩
    have q5 : wy_nq P (P 0 5).toNat 0 5 = P 0 5 := wy_nq_0 5 (by omega) _
    rw [l_X9_night_57_s]
    unfold b_X9_night_57
    rw [wy_ma0 hs (i := 5) (by omega), q5, wq_w_id (x := P 0 5) (by omega) (by omega), wq_w_id (by omega) (by omega), if_pos (by omega)]
    exact ⟨s, rfl, hs, h42⟩
end
