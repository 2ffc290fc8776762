/-! the model runs a plan; the plan can be run -/
section
variable {P S M : wq_St} {r q s : Nat} {o w : Nat → Int} {g : Nat → Nat}
theorem wy_m_runs (hI : wy_iv P) (hM : wy_M wy_co M P) (hr : r < 8) (hrn : (r : Int) < P 0 28) (hv : 1 ≤ P 13 r → wy_vp P r o w) (h27 : 1 ≤ P 13 r → ∀ j, j < 3 → M 27 j = o j ∧ M 28 j = w j) : ∃ M', f_X9_runs (r : Int) M = some (0, M') ∧ wy_fk M M' ∧ M' 0 39 = wy_tk P r o w ∧ M' 0 40 = wy_fn (fun _ => 1) P r o ∧ M' 0 41 = wy_fn (wy_sv P r) P r o := by
  have b13 := wy_b13 hI r
  have hf3 : wy_fk M (wq_set (wq_set (wq_set M 0 39 0) 0 40 0) 0 41 0) := wy_fk_s (wy_fk_s (wy_fk_s (fun _ _ _ _ => rfl) (by omega)) (by omega)) (by omega)
  have c39 : wq_set (wq_set (wq_set M 0 39 0) 0 40 0) 0 41 0 0 39 = 0 := by rw [wy_set_ne (by omega), wy_set_ne (by omega), wy_set_at rfl rfl]
  have c40 : wq_set (wq_set (wq_set M 0 39 0) 0 40 0) 0 41 0 0 40 = 0 := by rw [wy_set_ne (by omega), wy_set_at rfl rfl]
  have c41 : wq_set (wq_set (wq_set M 0 39 0) 0 40 0) 0 41 0 0 41 = 0 := wy_set_at rfl rfl
  unfold f_X9_runs
  rw [wy_lt, wy_lt, wy_lt]
  generalize wq_set (wq_set (wq_set M 0 39 0) 0 40 0) 0 41 0 = M3 at *
  have hM3 : wy_M wy_co M3 P := fun f i h1 h2 h3 h4 => by
    rw [hf3 f i (by omega) (fun e => by have := h3 e.1; omega)]
    exact hM f i h1 h2 h3 h4
  have e13 : M3 13 r = P 13 r := wy_m hM3 (by omega)
  rw [wy_ix (by omega) (by omega) (by omega), Int.toNat_natCast, e13, wq_w_id (x := P 13 r) (by omega) (by omega)]
  obtain ⟨nf, hnf⟩ : ∃ nf, wq_fu = nf + 1 := ⟨9999999, rfl⟩
  unfold wy_fn wy_tk
  by_cases h0 : P 13 r ≤ 0
  · have e0 : (P 13 r).toNat = 0 := by omega
    rw [if_pos h0, if_pos h0, if_pos h0, e0, hnf, l_X9_runs_45_s]
    unfold b_X9_runs_45
    rw [wq_w_id (x := P 13 r) (by omega) (by omega), if_pos h0]
    exact ⟨M3, rfl, hf3, c39, c40, c41⟩
  · have hv' := hv (by omega)
    have h27' := h27 (by omega)
    rw [if_neg h0, if_neg h0, if_neg h0]
    have q27 : ∀ j, j < 3 → M3 27 j = o j := fun j hj => by rw [hf3 _ _ (by omega) (by omega)]; exact (h27' j hj).1
    have q28 : ∀ j, j < 3 → M3 28 j = w j := fun j hj => by rw [hf3 _ _ (by omega) (by omega)]; exact (h27' j hj).2
    have hmi := wy_m_minutes (g := wy_g0) hI hM3 hv' q27 q28 hr (s := 0) (by omega) (fun j hj => by omega)
    have hmi' : f_X9_minutesAt (r : Int) 0 M3 = some (wy_mi P r o w 0 wy_g0, M3) := hmi
    rw [wy_bd hmi', wy_lt, wy_ix0, wy_lt]
    have hf5 : wy_fk M3 (wq_set (wq_set M3 0 39 (wy_mi P r o w 0 wy_g0)) 31 0 (-1)) := wy_fk_s (wy_fk_s (fun _ _ _ _ => rfl) (by omega)) (by omega)
    have d39 : wq_set (wq_set M3 0 39 (wy_mi P r o w 0 wy_g0)) 31 0 (-1) 0 39 = wy_mi P r o w 0 wy_g0 := by rw [wy_set_ne (by omega), wy_set_at rfl rfl]
    have d40 : wq_set (wq_set M3 0 39 (wy_mi P r o w 0 wy_g0)) 31 0 (-1) 0 40 = 0 := by rw [wy_set_ne (by omega), wy_set_ne (by omega), c40]
    have d41 : wq_set (wq_set M3 0 39 (wy_mi P r o w 0 wy_g0)) 31 0 (-1) 0 41 = 0 := by rw [wy_set_ne (by omega), wy_set_ne (by omega), c41]
    have d31 : wq_set (wq_set M3 0 39 (wy_mi P r o w 0 wy_g0)) 31 0 (-1) 31 0 = -1 := wy_set_at rfl rfl
    generalize wq_set (wq_set M3 0 39 (wy_mi P r o w 0 wy_g0)) 31 0 (-1) = M5 at *
    have hq3 : wy_mq P o w 0 M3 wy_g0 := ⟨hM3, q27, q28, fun j hj => by omega⟩
    have hq5 : wy_mq P o w 0 M5 wy_g0 := wy_fk_q hq3 hf5 (fun j hj => by omega)
    obtain ⟨d, hd⟩ : ∃ d : Nat, P 13 r = (d : Int) + 1 := ⟨(P 13 r).toNat - 1, by omega⟩
    have hd2 : d ≤ 2 := by omega
    obtain ⟨u, M', hu, hl, hf, -, z1, z2, z3⟩ := wy_od_all (kx := fun S32 => some (0, S32)) hI hr hrn hv' d 0 (by omega) wy_g0 (wy_is P r o 0) 0 M5 (by omega) hq5 (by rw [d31]; rfl)
    have b2 := wy_b2 hI (wy_tb P r (o 0))
    have h40 : wy_is P r o 0 ≤ 40 := by unfold wy_is; omega
    have hob : wy_ob d ≤ 1682 := by
      have : d = 0 ∨ d = 1 ∨ d = 2 := by omega
      rcases this with rfl | rfl | rfl <;> decide
    have hmul := Nat.mul_le_mul h40 hob
    have hfu : wq_fu = (wq_fu - u - 1 + 1) + u := by unfold wq_fu; omega
    have hl' : l_X9_runs_45 (r : Int) (P 13 r) (fun S32 => some (0, S32)) wq_fu 0 M5 = some (0, M') := by
      rw [hfu]
      refine (hl _).trans ?_
      rw [l_X9_runs_45_s]
      unfold b_X9_runs_45
      rw [wq_w_id (x := P 13 r) (by omega) (by omega), if_neg h0, if_pos (by decide)]
    have em : (P 13 r).toNat = d + 1 := by omega
    refine ⟨M', hl', wy_fk_t hf3 (wy_fk_t hf5 hf), ?_, ?_, ?_⟩
    · rw [em]
      simp only [wy_su] at z1
      simp only [wy_rt]
      omega
    · rw [em]
      simp only [wy_su] at z2
      simp only [wy_rw]
      omega
    · rw [em]
      simp only [wy_su] at z3
      simp only [wy_rw]
      omega
theorem wy_mf_mem {α : Type} {f : Nat → Option (Int × α)} {p : Int × α} : ∀ {n : Nat}, wy_mf f n = some p → ∃ i, i < n ∧ f i = some p
  | 0, h => by cases h
  | n + 1, h => by
    simp only [wy_mf] at h
    have hh : wy_mf f n = some p ∨ f n = some p := by
      revert h
      cases h1 : wy_mf f n with
      | none => intro h; rw [wy_mn_1] at h; exact Or.inr h
      | some a =>
        cases h2 : f n with
        | none => intro h; rw [wy_mn_0] at h; exact Or.inl h
        | some b =>
          rw [wy_mn_s]
          intro h
          split at h
          · exact Or.inr h
          · exact Or.inl h
    rcases hh with hh | hh
    · obtain ⟨i, h1, h2⟩ := wy_mf_mem hh
      exact ⟨i, by omega, h2⟩
    · exact ⟨n, by omega, hh⟩
theorem wy_bw_use (hI : wy_iv P) {ch : Int} (hc : 0 ≤ ch) : -1 ≤ (wy_bw P r o s ch).2 ∧ (wy_bw P r o s ch).2 ≤ 2 ∧ ((wy_bw P r o s ch).2 ≠ -1 → wy_uo P r o s (wy_bw P r o s ch).2 (P 15 r).toNat ≠ -1) := by
  have h := @wy_bw_b P r o s ch hI hc
  refine ⟨h.2.2.2.1, h.2.2.2.2, fun hn => ?_⟩
  obtain ⟨i, -, h2⟩ := wy_mf_mem h.1
  cases i with
  | zero =>
    have : (wy_bw P r o s ch).2 = -1 := by
      have e := Option.some.inj h2
      rw [← e]
    exact absurd this hn
  | succ i =>
    simp only [wy_wy] at h2
    unfold wy_wi at h2
    split at h2
    · rename_i hc2
      have e := Option.some.inj h2
      rw [← e]
      exact hc2.2.2
    · cases h2
theorem wy_vp_on (hI : wy_iv P) {x y z : Nat} (hx : x < 3) (hy : y < 3) (hz : z < 3) (h1 : x ≠ y) (h2 : x ≠ z) (h3 : y ≠ z) (hm : P 13 r = 3 ∨ (P 13 r = 2 ∧ z = 2) ∨ (P 13 r = 1 ∧ y = 1 ∧ z = 2)) {p : Int × wy_pl} (hp : wy_g3 P r (wy_on x y z) = some p) : wy_vp P r p.2.1 p.2.2 := by
  have n1 := (@wy_nt_b P r (wy_on x y z) 0 1000 hI (by decide)).1
  have n2 := (@wy_nt_b P r (wy_on x y z) 1 _ hI n1).1
  have u0 := @wy_bw_use P r 0 (wy_on x y z) hI 1000 (by decide)
  have u1 := @wy_bw_use P r 1 (wy_on x y z) hI _ n1
  have u2 := @wy_bw_use P r 2 (wy_on x y z) hI _ n2
  have base : ∀ w : Nat → Int, (∀ s : Nat, (s : Int) < P 13 r → -1 ≤ w s ∧ w s ≤ 2 ∧ (w s ≠ -1 → wy_uo P r (wy_on x y z) s (w s) (P 15 r).toNat ≠ -1)) → wy_vp P r (wy_on x y z) w := by
    intro w hw
    refine ⟨wy_pm_on hx hy hz h1 h2 h3, fun j hj => ?_, fun v hv0 hv1 => ?_, hw⟩
    · have hj3 : j = 0 ∨ j = 1 ∨ j = 2 := by omega
      rcases hj3 with rfl | rfl | rfl
      · refine ⟨?_, ?_⟩
        · show (x : Int) < P 13 r
          omega
        · show (if (x : Int) = (x : Int) then (0 : Int) else if (y : Int) = (x : Int) then 1 else if (z : Int) = (x : Int) then 2 else 3) = 0
          rw [if_pos rfl]
      · refine ⟨?_, ?_⟩
        · show (y : Int) < P 13 r
          omega
        · show (if (x : Int) = (y : Int) then (0 : Int) else if (y : Int) = (y : Int) then 1 else if (z : Int) = (y : Int) then 2 else 3) = 1
          rw [if_neg (by omega), if_pos rfl]
      · refine ⟨?_, ?_⟩
        · show (z : Int) < P 13 r
          omega
        · show (if (x : Int) = (z : Int) then (0 : Int) else if (y : Int) = (z : Int) then 1 else if (z : Int) = (z : Int) then 2 else 3) = 2
          rw [if_neg (by omega), if_neg (by omega), if_pos rfl]
    · show (if (x : Int) = v then (0 : Int) else if (y : Int) = v then 1 else if (z : Int) = v then 2 else 3) < P 13 r
      repeat' split
      all_goals omega
  rcases hm with hm | hm | hm
  · rw [wy_g3_3 hI hm] at hp
    rw [← Option.some.inj hp]
    refine base _ fun s hs => ?_
    have : s = 0 ∨ s = 1 ∨ s = 2 := by omega
    rcases this with rfl | rfl | rfl
    · exact u0
    · exact u1
    · exact u2
  · rw [wy_g3_2 hI hm.1] at hp
    rw [← Option.some.inj hp]
    refine base _ fun s hs => ?_
    have : s = 0 ∨ s = 1 := by omega
    rcases this with rfl | rfl
    · exact u0
    · exact u1
  · rw [wy_g3_1 hI hm.1] at hp
    rw [← Option.some.inj hp]
    refine base _ fun s hs => ?_
    have : s = 0 := by omega
    subst this
    exact u0
theorem wy_mn_or {α : Type} {x y : Option (Int × α)} {p : Int × α} (h : wy_mn x y = some p) : x = some p ∨ y = some p := by
  cases x with
  | none => rw [wy_mn_1] at h; exact Or.inr h
  | some a =>
    cases y with
    | none => rw [wy_mn_0] at h; exact Or.inl h
    | some b =>
      rw [wy_mn_s] at h
      split at h
      · exact Or.inr h
      · exact Or.inl h
theorem wy_vp_pp (hI : wy_iv P) (h1 : 1 ≤ P 13 r) : wy_vp P r (wy_pp P r).2.1 (wy_pp P r).2.2 := by
  have b13 := wy_b13 hI r
  have hpp := @wy_pn_pp P r hI
  have h : P 13 r = 1 ∨ P 13 r = 2 ∨ P 13 r = 3 := by omega
  rcases h with h | h | h
  · rw [wy_pn1 hI h] at hpp
    exact wy_vp_on hI (by omega) (by omega) (by omega) (by omega) (by omega) (by omega) (Or.inr (Or.inr ⟨h, rfl, rfl⟩)) hpp
  · rw [wy_pn2 hI h] at hpp
    rcases wy_mn_or hpp with hp | hp
    · exact wy_vp_on hI (by omega) (by omega) (by omega) (by omega) (by omega) (by omega) (Or.inr (Or.inl ⟨h, rfl⟩)) hp
    · exact wy_vp_on hI (by omega) (by omega) (by omega) (by omega) (by omega) (by omega) (Or.inr (Or.inl ⟨h, rfl⟩)) hp
  · rw [wy_pn3 hI h] at hpp
    rcases wy_mn_or hpp with hp | hp
    · rcases wy_mn_or hp with hp | hp
      · rcases wy_mn_or hp with hp | hp
        · exact wy_vp_on hI (by omega) (by omega) (by omega) (by omega) (by omega) (by omega) (Or.inl h) hp
        · exact wy_vp_on hI (by omega) (by omega) (by omega) (by omega) (by omega) (by omega) (Or.inl h) hp
      · rcases wy_mn_or hp with hp | hp
        · exact wy_vp_on hI (by omega) (by omega) (by omega) (by omega) (by omega) (by omega) (Or.inl h) hp
        · exact wy_vp_on hI (by omega) (by omega) (by omega) (by omega) (by omega) (by omega) (Or.inl h) hp
    · rcases wy_mn_or hp with hp | hp
      · exact wy_vp_on hI (by omega) (by omega) (by omega) (by omega) (by omega) (by omega) (Or.inl h) hp
      · exact wy_vp_on hI (by omega) (by omega) (by omega) (by omega) (by omega) (by omega) (Or.inl h) hp
end
