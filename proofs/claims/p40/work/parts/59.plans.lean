/-! plans, on both sides -/
def wy_fo (M M' : wq_St) : Prop := ∀ f j, ¬(27 ≤ f ∧ f ≤ 30) → ¬(f = 0 ∧ j = 37) → M' f j = M f j
section
variable {P S M : wq_St} {r : Nat} {o : Nat → Int}
theorem wy_fo_M {C : Nat → Prop} {M' : wq_St} (h : wy_M C M P) (hf : wy_fo M M') : wy_M C M' P := fun f i h1 h2 h3 h4 => by
  rw [hf f i (by omega) (fun e => by have := h3 e.1; omega)]
  exact h f i h1 h2 h3 h4
theorem wy_fo_fm {M' : wq_St} (h : wy_fm M M') : wy_fo M M' := fun f j a b => h f j (by omega) b
theorem wy_fo_t {M' M'' : wq_St} (h1 : wy_fo M M') (h2 : wy_fo M' M'') : wy_fo M M'' := fun f j a b => by rw [h2 f j a b, h1 f j a b]
theorem wy_pm_on {x y z : Nat} (hx : x < 3) (hy : y < 3) (hz : z < 3) (h1 : x ≠ y) (h2 : x ≠ z) (h3 : y ≠ z) : wy_pm (wy_on x y z) := by
  refine ⟨fun j hj => ?_, fun v h0 h2' => ?_⟩
  · have : j = 0 ∨ j = 1 ∨ j = 2 := by omega
    rcases this with rfl | rfl | rfl
    · show 0 ≤ (x : Int) ∧ (x : Int) ≤ 2
      omega
    · show 0 ≤ (y : Int) ∧ (y : Int) ≤ 2
      omega
    · show 0 ≤ (z : Int) ∧ (z : Int) ≤ 2
      omega
  · show (if (x : Int) = v then (0 : Int) else if (y : Int) = v then 1 else if (z : Int) = v then 2 else 3) < 3
    repeat' split
    all_goals omega
theorem wy_div9 {i : Nat} (h : i < 27) : wq_div (i : Int) 9 = ((i / 9 : Nat) : Int) := by
  unfold wq_div
  rw [wq_w_id (by omega) (by omega), wq_w_id (by omega) (by omega), Int.tdiv_eq_ediv_of_nonneg (by omega)]
  omega
theorem wy_div3 {i : Nat} (h : i < 27) : wq_div (i : Int) 3 = ((i / 3 : Nat) : Int) := by
  unfold wq_div
  rw [wq_w_id (by omega) (by omega), wq_w_id (by omega) (by omega), Int.tdiv_eq_ediv_of_nonneg (by omega)]
  omega
theorem wy_rem3 {i : Nat} (h : i < 27) : wq_rem (i : Int) 3 = ((i % 3 : Nat) : Int) := by
  unfold wq_rem
  rw [wy_div3 h]
  omega
theorem wy_plans_skip (kx : wq_St → Option (Int × wq_St)) (rec : Int → wq_St → Option (Int × wq_St)) (j1 j2 j3 : Int) (S : wq_St) : j_X9_plans_114 kx rec j1 j2 j3 0 S = rec (j3 + 1) S := by
  unfold j_X9_plans_114
  rw [wy_ix2, wy_ix1, wq_w_0]
  repeat' split
  all_goals first | rfl | contradiction
theorem wy_plans_try (kx : wq_St → Option (Int × wq_St)) (rec : Int → wq_St → Option (Int × wq_St)) (j1 j2 j3 : Int) (S : wq_St) (h2 : 1 ≤ j2 ∧ j2 ≤ 3) {y z : Nat} (hy : y < 3) (hz : z < 3) (e1 : S 27 1 = (y : Int)) (e2 : S 27 2 = (z : Int)) :
    j_X9_plans_114 kx rec j1 j2 j3 1 S = if j2 = 3 ∨ (z = 2 ∧ (j2 = 2 ∨ y = 1)) then (wq_bd (f_X9_triesWays j1 S) fun r11 S12 => rec (j3 + 1) S12) else rec (j3 + 1) S := by
  have w1 : wq_w 1 = 1 := rfl
  have w0 : wq_w 0 = 0 := rfl
  unfold j_X9_plans_114
  rw [wy_ix2, wy_ix1, w1, w0, wq_w_id (x := j2) (by omega) (by omega), e1, e2, wq_w_id (x := (y : Int)) (by omega) (by omega), wq_w_id (x := (z : Int)) (by omega) (by omega), wq_w_id (x := 3) (by omega) (by omega), wq_w_id (x := 2) (by omega) (by omega)]
  by_cases h3 : j2 = 3
  · rw [if_pos h3, if_neg (by omega), if_neg (by omega), if_pos (Or.inl h3)]
  · rw [if_neg h3]
    by_cases hz2 : (z : Int) = 2
    · rw [if_pos hz2]
      by_cases h2' : j2 = 2
      · rw [if_pos h2', if_neg (by omega), if_neg (by omega), if_pos (Or.inr ⟨by omega, Or.inl h2'⟩)]
      · rw [if_neg h2']
        by_cases hy1 : (y : Int) = 1
        · rw [if_pos hy1, if_neg (by omega), if_neg (by omega), if_pos (Or.inr ⟨by omega, Or.inr (by omega)⟩)]
        · rw [if_neg hy1, if_neg (by omega), if_pos rfl, if_neg (by omega)]
    · rw [if_neg hz2, if_neg (by omega), if_pos rfl, if_neg (by omega)]
theorem wy_m_copyo (M : wq_St) (kx : wq_St → Option (Int × wq_St)) : ∃ M', l_X9_plans_176 kx wq_fu 0 M = kx M' ∧ (∀ j, j < 3 → M' 27 j = M 29 j ∧ M' 28 j = M 30 j) ∧ (∀ f j, ¬(27 ≤ f ∧ f ≤ 28) → M' f j = M f j) := by
  have key := wy_up (fun n i (M1 : wq_St) => ∃ M', l_X9_plans_176 kx n (i : Int) M1 = kx M' ∧ (∀ j, j < 3 → M' 27 j = M 29 j ∧ M' 28 j = M 30 j) ∧ (∀ f j, ¬(27 ≤ f ∧ f ≤ 28) → M' f j = M f j)) 3 (fun i M1 => (∀ j, j < i → M1 27 j = M 29 j ∧ M1 28 j = M 30 j) ∧ (∀ f j, ¬(27 ≤ f ∧ f ≤ 28) → M1 f j = M f j)) ?_ ?_ wq_fu 0 M (by omega) (wy_fu' (by omega)) ⟨fun j hj => by omega, fun _ _ _ => rfl⟩
  · exact key
  · intro n i M1 hi ⟨hc, hf⟩ ih
    rw [l_X9_plans_176_s]
    unfold b_X9_plans_176
    simp (disch := omega) only [wy_ix, Int.toNat_natCast, wq_w_id, wq_lt, wy_set_ne]
    rw [if_neg (by omega)]
    have e : ((i : Int) + 1) = ((i + 1 : Nat) : Int) := by omega
    rw [e]
    refine ih _ ⟨?_, ?_⟩
    · intro j hj
      by_cases ej : j = i
      · subst ej
        simp (disch := omega) only [wy_set_ne, wy_set_at, hf]
        exact ⟨trivial, trivial⟩
      · have h := hc j (by omega)
        simp (disch := omega) only [wy_set_ne]
        exact h
    · intro k j hk
      simp (disch := omega) only [wy_set_ne]
      exact hf k j hk
  · intro n M1 ⟨hc, hf⟩
    rw [l_X9_plans_176_s]
    unfold b_X9_plans_176
    simp (disch := omega) only [wq_w_id]
    rw [if_pos (by omega)]
    exact ⟨M1, rfl, hc, hf⟩
theorem wy_m_codes (hI : wy_iv P) (hM : wy_M wy_co M P) (hr : r < 8) (h1 : 1 ≤ P 13 r) (hB : wy_bm M none) (kx : wq_St → Option (Int × wq_St)) : ∃ M', l_X9_plans_24 (r : Int) (P 13 r) kx wq_fu 0 M = kx M' ∧ wy_fo M M' ∧ wy_bm M' (wy_pn P r) := by
  have b13 := wy_b13 hI r
  have key := wy_up (fun n i (M1 : wq_St) => ∃ M', l_X9_plans_24 (r : Int) (P 13 r) kx n (i : Int) M1 = kx M' ∧ wy_fo M M' ∧ wy_bm M' (wy_pn P r)) 27 (fun i M1 => wy_fo M M1 ∧ wy_bm M1 (wy_mf (wy_gc P r) i)) ?_ ?_ wq_fu 0 M (by omega) (wy_fu' (by omega)) ⟨fun _ _ _ _ => rfl, hB⟩
  · exact key
  · intro n i M1 hi ⟨hf, hb1⟩ ih
    have w9 : wq_w 9 = 9 := rfl
    have w3 : wq_w 3 = 3 := rfl
    have w27 : wq_w 27 = 27 := rfl
    have e : ((i : Int) + 1) = ((i + 1 : Nat) : Int) := by omega
    rw [l_X9_plans_24_s]
    unfold b_X9_plans_24
    rw [w9, w3, w27, wq_w_id (x := (i : Int)) (by omega) (by omega), wq_w_id (x := P 13 r) (by omega) (by omega), if_neg (by omega), if_neg (by omega), wq_gd_t (by omega), wy_ix0, wy_lt, wq_gd_t (by omega), wq_gd_t (by omega), wy_ix1, wy_lt, wq_gd_t (by omega), wy_ix2, wy_lt, wy_ix0, wy_ix1]
    rw [wy_div9 hi, wy_div3 hi, wy_rem3 (i := i / 3) (by omega), wy_rem3 hi]
    have hx : i / 9 < 3 := by omega
    have hy : i / 3 % 3 < 3 := by omega
    have hz : i % 3 < 3 := by omega
    have hvd : wy_vdb (P 13 r) i = true ↔ ((i / 9 ≠ i / 3 % 3 ∧ i / 9 ≠ i % 3 ∧ i / 3 % 3 ≠ i % 3) ∧ (P 13 r = 3 ∨ (i % 3 = 2 ∧ (P 13 r = 2 ∨ i / 3 % 3 = 1)))) := by
      unfold wy_vdb
      exact decide_eq_true_iff
    have hgc : wy_mf (wy_gc P r) (i + 1) = wy_mn (wy_mf (wy_gc P r) i) (wy_gc P r i) := rfl
    have hg1 : wy_vdb (P 13 r) i = true → wy_gc P r i = wy_g3 P r (wy_on (i / 9) (i / 3 % 3) (i % 3)) := wy_gc_1
    have hg0 : ¬(wy_vdb (P 13 r) i = true) → wy_gc P r i = none := fun h => wy_gc_0 (by simpa using h)
    generalize i / 9 = x at *
    generalize i / 3 % 3 = y at *
    generalize i % 3 = z at *
    have q0 : wq_set (wq_set (wq_set M1 27 0 (x : Int)) 27 1 (y : Int)) 27 2 (z : Int) 27 0 = (x : Int) := by rw [wy_set_ne (by omega), wy_set_ne (by omega), wy_set_at rfl rfl]
    have q1 : wq_set (wq_set (wq_set M1 27 0 (x : Int)) 27 1 (y : Int)) 27 2 (z : Int) 27 1 = (y : Int) := by rw [wy_set_ne (by omega), wy_set_at rfl rfl]
    have q2 : wq_set (wq_set (wq_set M1 27 0 (x : Int)) 27 1 (y : Int)) 27 2 (z : Int) 27 2 = (z : Int) := wy_set_at rfl rfl
    have qf : wy_fo M (wq_set (wq_set (wq_set M1 27 0 (x : Int)) 27 1 (y : Int)) 27 2 (z : Int)) := fun f j h1 h2 => by
      rw [wy_set_ne (by omega), wy_set_ne (by omega), wy_set_ne (by omega)]
      exact hf f j h1 h2
    have qb : wy_bm (wq_set (wq_set (wq_set M1 27 0 (x : Int)) 27 1 (y : Int)) 27 2 (z : Int)) (wy_mf (wy_gc P r) i) := by
      revert hb1
      generalize wy_mf (wy_gc P r) i = bb
      intro hb1
      cases bb with
      | none => exact (by rw [wy_set_ne (by omega), wy_set_ne (by omega), wy_set_ne (by omega)]; exact hb1 : wq_set (wq_set (wq_set M1 27 0 (x : Int)) 27 1 (y : Int)) 27 2 (z : Int) 0 37 = -1)
      | some p =>
        obtain ⟨z1, z2, z3, z4⟩ := hb1
        exact ⟨by rw [wy_set_ne (by omega), wy_set_ne (by omega), wy_set_ne (by omega)]; exact z1, z2, z3, fun j hj => by rw [wy_set_ne (by omega), wy_set_ne (by omega), wy_set_ne (by omega), wy_set_ne (by omega), wy_set_ne (by omega), wy_set_ne (by omega)]; exact z4 j hj⟩
    generalize wq_set (wq_set (wq_set M1 27 0 (x : Int)) 27 1 (y : Int)) 27 2 (z : Int) = M8 at *
    rw [wy_ix0, wy_ix2, wy_ix1, wy_ix2, q0, q1, q2, wq_w_id (x := (x : Int)) (by omega) (by omega), wq_w_id (x := (y : Int)) (by omega) (by omega), wq_w_id (x := (z : Int)) (by omega) (by omega)]
    unfold j_X9_plans_113
    rw [wy_plans_skip, e]
    have skip : ¬(wy_vdb (P 13 r) i = true) → ∃ M', l_X9_plans_24 (r : Int) (P 13 r) kx n ((i + 1 : Nat) : Int) M8 = kx M' ∧ wy_fo M M' ∧ wy_bm M' (wy_pn P r) := fun hn => ih M8 ⟨qf, by
      rw [hgc, hg0 hn, wy_mn_0]
      exact qb⟩
    by_cases hxy : (x : Int) = (y : Int)
    · rw [if_pos hxy]
      exact skip fun h => by have := hvd.mp h; omega
    · rw [if_neg hxy]
      by_cases hxz : (x : Int) = (z : Int)
      · rw [if_pos hxz]
        exact skip fun h => by have := hvd.mp h; omega
      · rw [if_neg hxz]
        by_cases hyz : (y : Int) = (z : Int)
        · rw [if_pos hyz]
          exact skip fun h => by have := hvd.mp h; omega
        · rw [if_neg hyz, wy_plans_try _ _ _ _ _ _ ⟨h1, b13.2⟩ hy hz q1 q2, e]
          by_cases hfit : P 13 r = 3 ∨ (z = 2 ∧ (P 13 r = 2 ∨ y = 1))
          · rw [if_pos hfit]
            have hpm := wy_pm_on hx hy hz (by omega) (by omega) (by omega)
            have h27 : ∀ j, j < 3 → M8 27 j = wy_on x y z j := fun j hj => by
              have : j = 0 ∨ j = 1 ∨ j = 2 := by omega
              rcases this with rfl | rfl | rfl
              · exact q0
              · exact q1
              · exact q2
            obtain ⟨M9, e1, e2, e3⟩ := wy_m_tw3 hI (wy_fo_M hM qf) hpm h27 hr qb
            rw [wy_bd e1]
            refine ih M9 ⟨wy_fo_t qf (wy_fo_fm e2), ?_⟩
            rw [hgc, hg1 (hvd.mpr ⟨⟨by omega, by omega, by omega⟩, hfit⟩)]
            exact e3
          · rw [if_neg hfit]
            exact skip fun h => hfit (hvd.mp h).2
  · intro n M1 ⟨hf, hb1⟩
    rw [l_X9_plans_24_s]
    unfold b_X9_plans_24
    rw [if_pos (by decide)]
    rw [wy_gc_all hI h1] at hb1
    exact ⟨M1, rfl, hf, hb1⟩
theorem wy_pn_some (hI : wy_iv P) : ∃ p, wy_pn P r = some p := by
  have b13 := wy_b13 hI r
  have hmn : ∀ {x y : Option (Int × wy_pl)}, (∃ p, x = some p) → (∃ p, y = some p) → ∃ p, wy_mn x y = some p := by
    rintro _ _ ⟨a, rfl⟩ ⟨b, rfl⟩
    rw [wy_mn_s]
    split
    · exact ⟨b, rfl⟩
    · exact ⟨a, rfl⟩
  have h : P 13 r = 0 ∨ P 13 r = 1 ∨ P 13 r = 2 ∨ P 13 r = 3 := by omega
  rcases h with h | h | h | h
  · exact ⟨_, wy_pn0 h⟩
  · exact ⟨_, (wy_pn1 hI h).trans (wy_g3_1 hI h)⟩
  · rw [wy_pn2 hI h]
    exact hmn ⟨_, wy_g3_2 hI h⟩ ⟨_, wy_g3_2 hI h⟩
  · rw [wy_pn3 hI h]
    exact hmn (hmn (hmn ⟨_, wy_g3_3 hI h⟩ ⟨_, wy_g3_3 hI h⟩) (hmn ⟨_, wy_g3_3 hI h⟩ ⟨_, wy_g3_3 hI h⟩)) (hmn ⟨_, wy_g3_3 hI h⟩ ⟨_, wy_g3_3 hI h⟩)
def wy_pp (P : wq_St) (r : Nat) : Int × wy_pl := (wy_pn P r).getD (0, ((fun j => (j : Int)), fun _ => -1))
theorem wy_pn_pp (hI : wy_iv P) : wy_pn P r = some (wy_pp P r) := by
  obtain ⟨p, hp⟩ := @wy_pn_some P r hI
  unfold wy_pp
  rw [hp]
  rfl
/-- the model lays the plan at hand -/
theorem wy_m_plans (hI : wy_iv P) (hM : wy_M wy_co M P) (hr : r < 8) : ∃ M', f_X9_plans (r : Int) M = some (0, M') ∧ wy_fo M M' ∧ M' 0 37 = (wy_pp P r).1 ∧ (1 ≤ P 13 r → ∀ j, j < 3 → M' 27 j = (wy_pp P r).2.1 j ∧ M' 28 j = (wy_pp P r).2.2 j) := by
  have b13 := wy_b13 hI r
  have e13 : M 13 r = P 13 r := wy_m hM (by omega)
  have hpp := @wy_pn_pp P r hI
  unfold f_X9_plans
  rw [wy_ix (by omega) (by omega) (by omega), Int.toNat_natCast, e13, wq_w_id (x := P 13 r) (by omega) (by omega)]
  unfold j_X9_plans_19 j_X9_plans_174
  rw [wy_lt, wy_lt]
  by_cases h0 : P 13 r = 0
  · rw [if_pos h0]
    rw [wy_pn0 h0] at hpp
    have hpp' := Option.some.inj hpp
    obtain ⟨n, hn⟩ : ∃ n, wq_fu = n + 1 := ⟨9999999, rfl⟩
    have e24 : ∀ S kx, l_X9_plans_24 (r : Int) (P 13 r) kx wq_fu 0 S = kx S := fun S kx => by
      rw [hn, l_X9_plans_24_s]
      unfold b_X9_plans_24
      rw [if_neg (by decide), wq_w_id (x := P 13 r) (by omega) (by omega), if_pos (by omega)]
    rw [e24]
    obtain ⟨M', e1, e2, e3⟩ := wy_m_copyo (wq_set M 0 37 0) (fun S34 => some (0, S34))
    refine ⟨M', e1, fun f j h1 h2 => by rw [e3 f j (by omega), wy_set_ne (by omega)], ?_, fun h => by omega⟩
    rw [e3 0 37 (by omega), wy_set_at rfl rfl, ← hpp']
  · rw [if_neg h0]
    have hM1 : wy_M wy_co (wq_set M 0 37 (-1)) P := wy_M_off hM (by omega)
    obtain ⟨M1, e1, e2, e3⟩ := wy_m_codes hI hM1 hr (by omega) (wy_set_at rfl rfl) (fun S27 => l_X9_plans_176 (fun S34 => some (0, S34)) wq_fu 0 S27)
    rw [e1]
    obtain ⟨M', e4, e5, e6⟩ := wy_m_copyo M1 (fun S34 => some (0, S34))
    rw [hpp] at e3
    obtain ⟨z1, z2, z3, z4⟩ := e3
    refine ⟨M', e4, fun f j h1 h2 => by rw [e6 f j (by omega), e2 f j h1 h2, wy_set_ne (by omega)], ?_, fun _ j hj => ?_⟩
    · rw [e6 0 37 (by omega)]
      exact z1
    · rw [(e5 j hj).1, (e5 j hj).2]
      exact z4 j hj
/-- the class chooses it -/
theorem wy_x_choose (hI : wy_iv P) (hR : wy_R wy_co S P) (hr : r < 8) : ∃ S', f_X4_choose (199 + 9 * r) S = some (276, S') ∧ wy_fr S S' ∧ wy_bs P r S' (some (wy_pp P r)) := by
  have b13 := wy_b13 hI r
  have hclear : ∃ S1, f_X3_clear 272 S = some (0, S1) ∧ (∀ x, x < 3 → S1 275 x = 3) ∧ ∀ k j, k ≠ 275 → S1 k j = S k j := by
    unfold f_X3_clear
    have key := wy_up (fun n i (S1 : wq_St) => ∃ S', l_X3_clear_2 272 (fun S3 => some (0, S3)) n (i : Int) S1 = some (0, S') ∧ (∀ x, x < 3 → S' 275 x = 3) ∧ ∀ k j, k ≠ 275 → S' k j = S k j) 3 (fun i S1 => (∀ x, x < i → S1 275 x = 3) ∧ ∀ k j, k ≠ 275 → S1 k j = S k j) ?_ ?_ wq_fu 0 S (by omega) (wy_fu' (by omega)) ⟨fun j hj => by omega, fun _ _ _ => rfl⟩
    · exact key
    · intro n i S1 hi ⟨hc, hf⟩ ih
      have w3 : wq_w 3 = 3 := rfl
      rw [l_X3_clear_2_s]
      unfold b_X3_clear_2
      rw [w3, wq_w_id (x := (i : Int)) (by omega) (by omega), if_neg (by omega), wy_ix (by omega) (by omega) (by omega), wy_lt, Int.toNat_natCast]
      have e : ((i : Int) + 1) = ((i + 1 : Nat) : Int) := by omega
      rw [e]
      refine ih _ ⟨fun x hx => ?_, fun k j hk => ?_⟩
      · by_cases ex : x = i
        · subst ex
          exact wy_set_at rfl rfl
        · rw [wy_set_ne (by omega)]
          exact hc x (by omega)
      · rw [wy_set_ne (by omega)]
        exact hf k j hk
    · intro n S1 ⟨hc, hf⟩
      rw [l_X3_clear_2_s]
      unfold b_X3_clear_2
      rw [if_pos (by decide)]
      exact ⟨S1, rfl, hc, hf⟩
  obtain ⟨S1, e1, c1, f1⟩ := hclear
  unfold f_X4_choose
  rw [wy_bd e1, wy_lt]
  have hfr : wy_fr S (wq_set S1 276 3 1099511627776) := fun k j hk => by
    rw [wy_set_ne (by omega)]
    exact f1 k j (by omega)
  obtain ⟨S2, e2, d2, b2, f2⟩ := wy_x_ext hI hr (P 13 r).toNat wq_dp 0 (fun j => (j : Int)) (fun _ => -1) 1000 0 none (wq_set S1 276 3 1099511627776) (by omega) (by unfold wq_dp; omega) (wy_fr_R hR hfr) ⟨fun j hj => by omega, fun x hx => by
      rw [wy_set_ne (by omega), c1 x hx, if_neg (by have := wy_ps_b (fun j => (j : Int)) (x : Int); omega)]⟩ (wy_set_at rfl rfl) ⟨by decide, by decide⟩ ⟨by decide, by decide⟩
  have e2' : f_X4_extend wq_dp (199 + 9 * r) 0 1000 0 (wq_set S1 276 3 1099511627776) = some (0, S2) := e2
  rw [wy_bd e2']
  refine ⟨S2, rfl, wy_fr_t hfr f2, ?_⟩
  rw [wy_mn_1] at b2
  have hpp := @wy_pn_pp P r hI
  unfold wy_pn at hpp
  rw [hpp] at b2
  exact b2
end
