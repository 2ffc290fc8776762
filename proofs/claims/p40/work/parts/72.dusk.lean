/-! NIGHTS: at dusk -/
/-- foretold minutes; what a run takes, finds and sums up; whether a plan was wrong -/
def wy_ft (P : wq_St) (r : Nat) : Int := wq_divL ((wy_pp P r).1 + 999) 1000
def wy_tr (P : wq_St) (r : Nat) : Int := wy_tk P r (wy_pp P r).2.1 (wy_pp P r).2.2
def wy_fd (P : wq_St) (r : Nat) : Int := wy_fn (fun _ => 1) P r (wy_pp P r).2.1
def wy_sd (P : wq_St) (r : Nat) : Int := wy_fn (wy_sv P r) P r (wy_pp P r).2.1
abbrev wy_wr (P : wq_St) (r : Nat) : Prop := wq_w (2 * wy_ft P r) < wq_w (wy_tr P r) ∨ ¬(wq_w (wy_ft P r) ≤ wq_w (2 * wy_tr P r))
def wy_s1 (P : wq_St) (t : Nat) : Int := (wy_ns P t (P 0 11) (P 2 t).toNat : Int)
def wy_dp (P : wq_St) (n : Nat) : Int := wy_su (fun t => if P 10 t = 0 then 0 else wy_s1 P t) n
def wy_dq (P : wq_St) (n : Nat) : Int := wy_su (fun r => if P 12 r = 0 then 0 else wy_ft P r) n
def wy_py (P : wq_St) (x : Int) : Int := x + wy_dp P 4 + wy_dq P 8
def wy_pd (P : wq_St) (x : Int) : wq_St := wq_set (wq_set P 0 30 (P 0 30 + wy_py P x)) 0 31 (wy_py P x)
section
variable {P Q S M : wq_St} {r : Nat}
theorem wy_fz (hI : wy_iv P) {S1 : wq_St} (h : S1 276 3 = (wy_pp P r).1) : f_X3_foretoldMinutes 276 S1 = some (wy_ft P r, S1) := by
  unfold f_X3_foretoldMinutes
  rw [wq_gd_t (by rw [wq_v_id (by omega) (by omega)]; omega), h]
  have e : (wy_pp P r).1 + 1000 - 1 = (wy_pp P r).1 + 999 := by omega
  rw [e]
  rfl
theorem wy_x_ft (hI : wy_iv P) (hR : wy_R wy_co S P) (hr : r < 8) : ∃ S1, f_X4_choose (199 + 9 * r) S = some (276, S1) ∧ wy_fr S S1 ∧ wy_bs P r S1 (some (wy_pp P r)) ∧ f_X3_foretoldMinutes 276 S1 = some (wy_ft P r, S1) := by
  obtain ⟨S1, e1, hf, hb⟩ := wy_x_choose hI hR hr
  exact ⟨S1, e1, hf, hb, wy_fz hI hb.1⟩
theorem wy_x_run (hI : wy_iv P) (hR : wy_R wy_co S P) (hr : r < 8) : ∃ S1 S2, f_X4_choose (199 + 9 * r) S = some (276, S1) ∧ f_X6_goThrough (199 + 9 * r) 276 S1 = some (0, S2) ∧ f_X3_foretoldMinutes 276 S2 = some (wy_ft P r, S2) ∧ S2 280 2 = wy_tr P r ∧ S2 280 3 = wy_fd P r ∧ S2 280 4 = wy_sd P r ∧ ∀ k j, ¬(272 ≤ k ∧ k ≤ 281) → S2 k j = S k j := by
  obtain ⟨S1, e1, hf, hb⟩ := wy_x_choose hI hR hr
  have hv := fun h1 => @wy_vp_pp P r hI h1
  obtain ⟨S2, e2, z2, z3, z4, h2⟩ := wy_x_go (q := 276) (w := (wy_pp P r).2.2) hI (wy_fr_R hR hf) hr hv (by omega) (fun h1 => ⟨hb.2.2.2.1, fun x hx => by
    have h := hb.2.2.2.2 x (by have := wy_b13 hI r; omega)
    rw [if_pos ((hv h1).2.2.1 x (by omega) hx)] at h
    exact h⟩)
  refine ⟨S1, S2, e1, e2, wy_fz hI ?_, z2, z3, z4, fun k j hk => ?_⟩
  · rw [h2 _ _ (by omega)]
    exact hb.1
  · rw [h2 _ _ (by omega), hf _ _ (by omega)]
theorem wy_m_ft (hI : wy_iv P) (hM : wy_M wy_co M P) (hr : r < 8) : ∃ M1, f_X9_plans (r : Int) M = some (0, M1) ∧ f_X9_foretells (r : Int) M = some (wy_ft P r, M1) ∧ wy_fo M M1 ∧ (1 ≤ P 13 r → ∀ j, j < 3 → M1 27 j = (wy_pp P r).2.1 j ∧ M1 28 j = (wy_pp P r).2.2 j) := by
  obtain ⟨M1, e1, hf, h37, hp⟩ := wy_m_plans hI hM hr
  refine ⟨M1, e1, ?_, hf, hp⟩
  unfold f_X9_foretells
  rw [wy_bd e1, wq_gd_t (by rw [wq_v_id (by omega) (by omega)]; omega), h37]
  rfl
theorem wy_m_run (hI : wy_iv P) (hM : wy_M wy_co M P) (hr : r < 8) (hrn : (r : Int) < P 0 28) : ∃ M1 M2, f_X9_plans (r : Int) M = some (0, M1) ∧ f_X9_foretells (r : Int) M = some (wy_ft P r, M1) ∧ f_X9_runs (r : Int) M1 = some (0, M2) ∧ M2 0 39 = wy_tr P r ∧ M2 0 40 = wy_fd P r ∧ M2 0 41 = wy_sd P r ∧ ∀ f j, ¬(27 ≤ f ∧ f ≤ 31) → ¬(f = 0 ∧ 37 ≤ j ∧ j ≤ 41) → M2 f j = M f j := by
  obtain ⟨M1, e1, e2, hf, hp⟩ := wy_m_ft hI hM hr
  obtain ⟨M2, e3, h2, z1, z2, z3⟩ := wy_m_runs hI (wy_fo_M hM hf) hr hrn (fun h1 => @wy_vp_pp P r hI h1) hp
  exact ⟨M1, M2, e1, e2, e3, z1, z2, z3, fun f j a b => by rw [h2 _ _ (by omega) (by omega), hf _ _ (by omega) (by omega)]⟩
theorem wy_su_tail {f : Nat → Int} {a : Nat} : ∀ {b : Nat}, a ≤ b → (∀ i, a ≤ i → i < b → f i = 0) → wy_su f b = wy_su f a
  | 0, h, _ => by rw [Nat.le_zero.mp h]
  | b + 1, h, hz => by
    by_cases e : a = b + 1
    · rw [e]
    · simp only [wy_su]
      rw [hz b (by omega) (by omega), wy_su_tail (by omega) (fun i h1 h2 => hz i h1 (by omega)), Int.add_zero]
theorem wy_dp_s (n : Nat) : wy_dp P (n + 1) = wy_dp P n + (if P 10 n = 0 then 0 else wy_s1 P n) := rfl
theorem wy_dq_s (n : Nat) : wy_dq P (n + 1) = wy_dq P n + (if P 12 n = 0 then 0 else wy_ft P n) := rfl
theorem wy_x_pay2 (hI : wy_iv P) (hR : wy_R wy_al S P) (x : Int) : ∃ S', l_X2_takePay_45 (fun u13 S14 => wq_lt (wq_set S14 282 7 ((S14 282 7) + u13)) fun S15 => some (0, wq_set S15 282 8 u13)) wq_fu (x + wy_dp P 4) 0 S = some (0, S') ∧ wy_R wy_al S' (wy_pd P x) := by
  have key := wy_up (fun n i (s : wq_St) => ∃ S', l_X2_takePay_45 (fun u13 S14 => wq_lt (wq_set S14 282 7 ((S14 282 7) + u13)) fun S15 => some (0, wq_set S15 282 8 u13)) n (x + wy_dp P 4 + wy_dq P i) (i : Int) s = some (0, S') ∧ wy_R wy_al S' (wy_pd P x)) 8 (fun _ s => wy_R wy_al s P) ?_ ?_ wq_fu 0 S (by omega) (wy_fu' (by omega)) hR
  · have e : x + wy_dp P 4 + wy_dq P 0 = x + wy_dp P 4 := Int.add_zero _
    rw [e] at key
    exact key
  · intro n i s hi hs ih
    have w8 : wq_w 8 = 8 := rfl
    have b12 := wy_b12 hI i
    have e : ((i : Int) + 1) = ((i + 1 : Nat) : Int) := by omega
    rw [l_X2_takePay_45_s]
    unfold b_X2_takePay_45
    rw [w8, wq_w_id (x := (i : Int)) (by omega) (by omega), if_neg (by omega), wy_ix (by omega) (by omega) (by omega), Int.toNat_natCast, wy_c12 hs hi, wq_w_id (by omega) (by omega), e]
    rw [wy_dq_s] at ih
    by_cases h0 : P 12 i = 0
    · rw [if_pos h0, Int.add_zero] at ih
      rw [if_pos h0]
      exact ih s hs
    · rw [if_neg h0, ← Int.add_assoc] at ih
      rw [if_neg h0, wy_ix (by omega) (by omega) (by omega), Int.toNat_natCast]
      obtain ⟨S1, e1, hf, -, e2⟩ := wy_x_ft hI (wy_R_co hs) hi
      rw [wy_bd e1, wy_bd e2]
      exact ih S1 (wy_fr_R hs hf)
  · intro n s hs
    rw [l_X2_takePay_45_s]
    unfold b_X2_takePay_45
    rw [if_pos (by decide)]
    show ∃ S', wq_lt (wq_set s 282 7 (s 282 7 + (x + wy_dp P 4 + wy_dq P 8))) (fun S15 => some (0, wq_set S15 282 8 (x + wy_dp P 4 + wy_dq P 8))) = some (0, S') ∧ wy_R wy_al S' (wy_pd P x)
    rw [wy_lt, wy_cP hs]
    exact ⟨_, rfl, wy_R_set (wy_R_set hs _ (f₀ := 0) (i₀ := 30) ⟨by decide, fun _ => by omega⟩ rfl rfl) _ (f₀ := 0) (i₀ := 31) ⟨by decide, fun _ => by omega⟩ rfl rfl⟩
theorem wy_x_pay (hI : wy_iv P) (hR : wy_R wy_al S P) (x : Int) : ∃ S', f_X2_takePay x S = some (0, S') ∧ wy_R wy_al S' (wy_pd P x) := by
  have hO := hI.2.1
  unfold wy_iO at hO
  unfold f_X2_takePay
  have key := wy_up (fun n i (s : wq_St) => ∃ S', l_X2_takePay_4 (fun u5 S6 => l_X2_takePay_45 (fun u13 S14 => wq_lt (wq_set S14 282 7 ((S14 282 7) + u13)) fun S15 => some (0, wq_set S15 282 8 u13)) wq_fu u5 0 S6) n (x + wy_dp P i) (i : Int) s = some (0, S') ∧ wy_R wy_al S' (wy_pd P x)) 4 (fun _ s => wy_R wy_al s P) ?_ ?_ wq_fu 0 S (by omega) (wy_fu' (by omega)) hR
  · have e : x + wy_dp P 0 = x := Int.add_zero _
    rw [e] at key
    exact key
  · intro n i s hi hs ih
    have w4 : wq_w 4 = 4 := rfl
    have b10 := wy_b10 hI i
    have e : ((i : Int) + 1) = ((i + 1 : Nat) : Int) := by omega
    rw [l_X2_takePay_4_s]
    unfold b_X2_takePay_4
    rw [w4, wq_w_id (x := (i : Int)) (by omega) (by omega), if_neg (by omega), wy_ix (by omega) (by omega) (by omega), Int.toNat_natCast, wy_c10 hs hi, wq_w_id (by omega) (by omega), e]
    rw [wy_dp_s] at ih
    by_cases h0 : P 10 i = 0
    · rw [if_pos h0, Int.add_zero] at ih
      rw [if_pos h0]
      exact ih s hs
    · rw [if_neg h0, ← Int.add_assoc] at ih
      rw [if_neg h0, wy_ix (by omega) (by omega) (by omega), Int.toNat_natCast, wy_cS hs]
      obtain ⟨S1, e1, hf, -⟩ := wy_x_takeSample hI (wy_R_co hs) hi hO.2.2.1 hO.2.2.2.1
      rw [wy_bd e1]
      exact ih S1 (wy_R_fr hs fun k j hk => hf k j fun e => hk (by unfold wy_scr; omega))
  · intro n s hs
    rw [l_X2_takePay_4_s]
    unfold b_X2_takePay_4
    rw [if_pos (by decide)]
    exact wy_x_pay2 hI hs x
theorem wy_M_fo {C : Nat → Prop} {M' : wq_St} (h : wy_M C M P) (hf : ∀ f j, ¬(27 ≤ f) → ¬(f = 0 ∧ 33 ≤ j) → M' f j = M f j) : wy_M C M' P := fun f i h1 h2 h3 h4 => by
  rw [hf f i (by omega) (fun e => by have := h3 e.1; omega)]
  exact h f i h1 h2 h3 h4
theorem wy_m_dusk (hI : wy_iv P) (hM : wy_M wy_al M P) : ∃ M', f_X9_dusk M = some (wy_dp P 4 + wy_dq P 8, M') ∧ wy_M wy_al M' P ∧ M' 0 42 = M 0 42 := by
  have hO := hI.2.1
  unfold wy_iO at hO
  have e4 : wy_dp P 4 = wy_dp P (P 0 5).toNat := wy_su_tail (by omega) (fun i h1 _ => if_pos (hI.2.2.1 i (by omega)))
  have e8 : wy_dq P 8 = wy_dq P (P 0 28).toNat := wy_su_tail (by omega) (fun i h1 _ => if_pos (hI.2.2.2.1 i (by omega)))
  rw [e4, e8]
  have second : ∀ m, wy_M wy_al m P → m 0 42 = M 0 42 → ∃ M', l_X9_dusk_45 (fun u9 S10 => some (u9, S10)) wq_fu (wy_dp P (P 0 5).toNat) 0 m = some (wy_dp P (P 0 5).toNat + wy_dq P (P 0 28).toNat, M') ∧ wy_M wy_al M' P ∧ M' 0 42 = M 0 42 := by
    intro m hm hq
    have key := wy_up (fun n i (s : wq_St) => ∃ M', l_X9_dusk_45 (fun u9 S10 => some (u9, S10)) n (wy_dp P (P 0 5).toNat + wy_dq P i) (i : Int) s = some (wy_dp P (P 0 5).toNat + wy_dq P (P 0 28).toNat, M') ∧ wy_M wy_al M' P ∧ M' 0 42 = M 0 42) (P 0 28).toNat (fun _ s => wy_M wy_al s P ∧ s 0 42 = M 0 42) ?_ ?_ wq_fu 0 m (by omega) (wy_fu' (by omega)) ⟨hm, hq⟩
    · have e : wy_dp P (P 0 5).toNat + wy_dq P 0 = wy_dp P (P 0 5).toNat := Int.add_zero _
      rw [e] at key
      exact key
    · intro n i s hi ⟨hs, h42⟩ ih
      have b12 := wy_b12 hI i
      have e : ((i : Int) + 1) = ((i + 1 : Nat) : Int) := by omega
      rw [l_X9_dusk_45_s]
      unfold b_X9_dusk_45
      rw [wy_ma0 hs (i := 28) (by omega), wq_w_id (x := P 0 28) (by omega) (by omega), wq_w_id (x := (i : Int)) (by omega) (by omega), if_neg (by omega), wy_ix (by omega) (by omega) (by omega), Int.toNat_natCast, wy_ma hs (by omega), wq_w_id (by omega) (by omega), e]
      rw [wy_dq_s] at ih
      by_cases h0 : P 12 i = 0
      · rw [if_pos h0, Int.add_zero] at ih
        rw [if_pos h0, Int.add_zero]
        exact ih s ⟨hs, h42⟩
      · rw [if_neg h0, ← Int.add_assoc] at ih
        rw [if_neg h0]
        obtain ⟨M1, -, e1, hf, -⟩ := wy_m_ft hI (wy_M_co hs) (r := i) (by omega)
        rw [wy_bd e1]
        exact ih M1 ⟨wy_fo_M hs hf, by rw [hf 0 42 (by omega) (by omega)]; exact h42⟩
    · intro n s ⟨hs, h42⟩
      rw [l_X9_dusk_45_s]
      unfold b_X9_dusk_45
      rw [wy_ma0 hs (i := 28) (by omega), wq_w_id (x := P 0 28) (by omega) (by omega), wq_w_id (by omega) (by omega), if_pos (by omega)]
      exact ⟨s, rfl, hs, h42⟩
  unfold f_X9_dusk
  have key := wy_up (fun n i (s : wq_St) => ∃ M', l_X9_dusk_4 (fun u4 S5 => l_X9_dusk_45 (fun u9 S10 => some (u9, S10)) wq_fu u4 0 S5) n (wy_dp P i) (i : Int) s = some (wy_dp P (P 0 5).toNat + wy_dq P (P 0 28).toNat, M') ∧ wy_M wy_al M' P ∧ M' 0 42 = M 0 42) (P 0 5).toNat (fun _ s => wy_M wy_al s P ∧ s 0 42 = M 0 42) ?_ ?_ wq_fu 0 M (by omega) (wy_fu' (by omega)) ⟨hM, rfl⟩
  · have e : wy_dp P 0 = 0 := rfl
    rw [e] at key
    exact key
  · intro n i s hi ⟨hs, h42⟩ ih
    have b10 := wy_b10 hI i
    have e : ((i : Int) + 1) = ((i + 1 : Nat) : Int) := by omega
    rw [l_X9_dusk_4_s]
    unfold b_X9_dusk_4
    rw [wy_ma0 hs (i := 5) (by omega), wq_w_id (x := P 0 5) (by omega) (by omega), wq_w_id (x := (i : Int)) (by omega) (by omega), if_neg (by omega), wy_ix (by omega) (by omega) (by omega), Int.toNat_natCast, wy_ma hs (by omega), wq_w_id (by omega) (by omega), e]
    rw [wy_dp_s] at ih
    by_cases h0 : P 10 i = 0
    · rw [if_pos h0, Int.add_zero] at ih
      rw [if_pos h0, Int.add_zero]
      exact ih s ⟨hs, h42⟩
    · rw [if_neg h0] at ih
      rw [if_neg h0, wy_ma0 hs (i := 11) (by omega), wy_bd (wy_m_sample hI (fun j => wy_ma hs (by omega)) (fun j => wy_ma hs (by omega)) (by omega) hO.2.2.1 hO.2.2.2.1)]
      exact ih s ⟨hs, h42⟩
  · intro n s ⟨hs, h42⟩
    rw [l_X9_dusk_4_s]
    unfold b_X9_dusk_4
    rw [wy_ma0 hs (i := 5) (by omega), wq_w_id (x := P 0 5) (by omega) (by omega), wq_w_id (by omega) (by omega), if_pos (by omega)]
    exact second s hs h42
end
