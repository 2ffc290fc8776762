/-! what a call is, on both sides: it returns the same, or throws the same; k: the place of an exception among those that the call lists, 0 for none -/
/-- a table that is there has a column -/
def wy_iW (P : wq_St) : Prop := ∀ t : Nat, (t : Int) < P 0 5 → 1 ≤ P 1 t
def wy_cll (k : Nat → Int) (P S M : wq_St) (x8 : Option (Nat × Int × wq_St)) (x9 : Option (Int × wq_St)) : Prop :=
  (∃ P' r S' M', x8 = some (0, r, S') ∧ x9 = some (r, M') ∧ M' 0 42 = 0 ∧ wy_iv P' ∧ wy_R wy_al S' P' ∧ wy_M wy_al M' P' ∧ (wy_iW P → wy_iW P')) ∨ ∃ n b, x8 = some (n + 1, 0, S) ∧ x9 = some (b, wq_set M 0 42 (k (n + 1))) ∧ k (n + 1) ≠ 0
def wy_k1 (n : Nat) : Int := if n = 1 then 1 else 0
def wy_k2 (n : Nat) : Int := if n = 2 then 1 else 0
def wy_k12 (n : Nat) : Int := if n = 1 then 1 else if n = 2 then 2 else 0
def wy_k13 (n : Nat) : Int := if n = 1 then 1 else if n = 3 then 2 else 0
def wy_k23 (n : Nat) : Int := if n = 2 then 1 else if n = 3 then 2 else 0
def wy_k123 (n : Nat) : Int := if n = 1 then 1 else if n = 2 then 2 else if n = 3 then 3 else 0
section
variable {P S M : wq_St} {x : Int}
theorem wy_asked1 : f_X9_asked 1 M = some (1, wq_set M 0 42 0) := by
  unfold f_X9_asked
  rw [if_neg (by decide), wy_lt, wq_gd_t (Or.inr rfl)]
theorem wy_asked0 : f_X9_asked 0 M = some (0, wq_set M 0 42 1) := by
  unfold f_X9_asked
  rw [if_pos (by decide), wy_lt, wq_gd_t (Or.inl rfl)]
theorem wy_42 {v : Int} : wq_set M 0 42 v 0 42 = v := wy_set_at rfl rfl
theorem wy_asd0 (y : Int) : f_X9_asked_ 0 y M = some (0, wq_set M 0 42 1) := by
  unfold f_X9_asked_
  rw [if_pos (by decide), wy_lt, wy_42, if_neg (by decide)]
theorem wy_asd1 : f_X9_asked_ 1 0 M = some (0, wq_set M 0 42 2) := by
  unfold f_X9_asked_
  rw [if_neg (by decide), if_pos (by decide), wy_lt, wy_42, if_neg (by decide)]
theorem wy_asd2 : f_X9_asked_ 1 1 M = some (1, wq_set M 0 42 0) := by
  unfold f_X9_asked_
  rw [if_neg (by decide), if_neg (by decide), wy_lt, wy_42, if_pos (by decide)]
theorem wy_ase0 (y z : Int) : f_X9_asked__ 0 y z M = some (0, wq_set M 0 42 1) := by
  unfold f_X9_asked__
  rw [if_pos (by decide), wy_lt, wy_42, if_neg (by decide)]
theorem wy_ase1 (z : Int) : f_X9_asked__ 1 0 z M = some (0, wq_set M 0 42 2) := by
  unfold f_X9_asked__
  rw [if_neg (by decide), if_pos (by decide), wy_lt, wy_42, if_neg (by decide)]
theorem wy_ase2 : f_X9_asked__ 1 1 0 M = some (0, wq_set M 0 42 3) := by
  unfold f_X9_asked__
  rw [if_neg (by decide), if_neg (by decide), if_pos (by decide), wy_lt, wy_42, if_neg (by decide)]
theorem wy_ase3 : f_X9_asked__ 1 1 1 M = some (1, wq_set M 0 42 0) := by
  unfold f_X9_asked__
  rw [if_neg (by decide), if_neg (by decide), if_neg (by decide), wy_lt, wy_42, if_pos (by decide)]
theorem wy_in1 {a b : Int} (hx : -2147483648 ≤ x ∧ x < 2147483648) (ha : -2147483648 ≤ a ∧ a < 2147483648) (hb : -2147483648 ≤ b ∧ b < 2147483648) (h : a ≤ x ∧ x ≤ b) : f_X9_in x a b M = some (1, M) := by
  unfold f_X9_in
  rw [wq_w_id hx.1 hx.2, wq_w_id ha.1 ha.2, wq_w_id hb.1 hb.2, if_neg (by omega), if_neg (by omega)]
theorem wy_in0 {a b : Int} (hx : -2147483648 ≤ x ∧ x < 2147483648) (ha : -2147483648 ≤ a ∧ a < 2147483648) (hb : -2147483648 ≤ b ∧ b < 2147483648) (h : ¬(a ≤ x ∧ x ≤ b)) : f_X9_in x a b M = some (0, M) := by
  unfold f_X9_in
  rw [wq_w_id hx.1 hx.2, wq_w_id ha.1 ha.2, wq_w_id hb.1 hb.2]
  by_cases c : x < a
  · rw [if_pos c]
  · rw [if_neg c, if_pos (by omega)]
theorem wy_M_42 {C : Nat → Prop} {v : Int} (h : wy_M C M P) : wy_M C (wq_set M 0 42 v) P := wy_M_off h (Or.inr (Or.inl ⟨rfl, by omega⟩))
theorem wy_pd_iv (hI : wy_iv P) : wy_iv (wy_pd P x) := wy_iv_0 (wy_iv_0 hI (by omega)) (by omega)
theorem wy_c_night (hI : wy_iv P) (hR : wy_R wy_al S P) (hM : wy_M wy_al M P) (hx : -2147483648 ≤ x ∧ x < 2147483648) : wy_cll wy_k23 P S M (f_X8_night x S) (f_X9_night x M) := by
  have w1000 : wq_w 1000 = 1000 := rfl
  have q29 : M 0 29 = P 0 29 := wy_ma0 hM (by omega)
  unfold f_X8_night f_X9_night
  rw [wq_w_id hx.1 hx.2, w1000, wy_cG hR]
  by_cases c : 0 ≤ x ∧ x ≤ 1000
  · rw [if_neg (by omega), if_pos c.2, wy_bd (wy_in1 hx (by omega) (by omega) c), q29]
    unfold j_X9_night_24
    by_cases c5 : wq_w (P 0 29) < wq_w 500
    · rw [if_pos c5, if_neg (by omega), wy_bd wy_asd2, if_neg (by decide)]
      refine Or.inl ?_
      -- dusk
      have hM0 : wy_M wy_al (wq_set M 0 42 0) P := wy_M_42 hM
      obtain ⟨S1, e1, hR1⟩ := wy_x_pay hI hR x
      obtain ⟨M1, g1, hM1, q1⟩ := wy_m_dusk hI hM0
      have hM2 : wy_M wy_al (wq_set (wq_set M1 0 31 (wy_dp P 4 + wy_dq P 8 + x)) 0 30 (P 0 30 + (wy_dp P 4 + wy_dq P 8 + x))) (wy_pd P x) := by
        have e : wy_dp P 4 + wy_dq P 8 + x = wy_py P x := by
          unfold wy_py
          omega
        rw [e, wy_set_cm (by omega)]
        unfold wy_pd
        exact wy_M_set (wy_M_set hM1 _ (by omega)) _ (by omega)
      rw [wy_bd e1, wy_bd g1, wy_lt, wy_lt, wy_set_at (k := 0) (j := 31) (a := 0) (i := 31) rfl rfl, wy_set_ne (a := 0) (i := 30) (by omega), wy_ma0 hM1 (i := 30) (by omega)]
      have hI1 := @wy_pd_iv P x hI
      have q2 : wq_set (wq_set M1 0 31 (wy_dp P 4 + wy_dq P 8 + x)) 0 30 (P 0 30 + (wy_dp P 4 + wy_dq P 8 + x)) 0 42 = 0 := by rw [wy_set_ne (by omega), wy_set_ne (by omega), q1, wy_42]
      have hp5 : wy_pd P x 0 5 = P 0 5 := (wy_set_ne (by omega)).trans (wy_set_ne (by omega))
      have hp1 : ∀ t, wy_pd P x 1 t = P 1 t := fun t => (wy_set_ne (by omega)).trans (wy_set_ne (by omega))
      generalize wy_pd P x = P1 at *
      generalize wq_set (wq_set M1 0 31 (wy_dp P 4 + wy_dq P 8 + x)) 0 30 (P 0 30 + (wy_dp P 4 + wy_dq P 8 + x)) = M2 at *
      -- renewing
      obtain ⟨S2, e2, hR2⟩ := wy_x_rmt hI1 hR1
      obtain ⟨M3, g3, hM3, q3⟩ := wy_m_rmt hI1 hM2 (fun S19 =>
        wq_bd (f_X9_dueBehind (-1) S19) fun r20 S21 =>
        l_X9_night_144 (fun u37 u38 S39 =>
          j_X9_night_289 u37 u38 S39) wq_fu 0 0 r20 0 S21)
      rw [wy_bd e2, g3]
      have hI2 := wy_nq_iv hI1 4
      have hz5 : wy_nq P1 4 0 5 = P 0 5 := (wy_nq_0 5 (by omega) 4).trans hp5
      have hz1 : ∀ t, wy_nq P1 4 1 t = P 1 t := fun t => (wy_nq_1 t 4).trans (hp1 t)
      generalize wy_nq P1 4 = Z at *
      -- the reports
      obtain ⟨W, D, ln, S3, hln, hD, e3, hR3⟩ := wy_x_rdr hI2 hR2
      have hb : f_X9_dueBehind (-1) M3 = some (wy_at ln W 0, M3) := wy_m_next (i := 0) hI2 hln (by omega) (wy_ma0 hM3 (by omega)) (fun j => wy_ma hM3 (by omega)) (fun j => wy_ma hM3 (by omega))
      obtain ⟨dm, wm, M4, g4, hk, hM4, hP4, q4⟩ := wy_m_done hI2 hln hD hM3 (fun u37 u38 S39 => j_X9_night_289 u37 u38 S39)
      rw [wy_bd e3, wy_bd hb, g4]
      unfold j_X9_night_289
      obtain ⟨M5, g5, hM5, q5⟩ := wy_m_dawn hI2 hM4 hP4 (wy_Qm_o (by omega) D) (fun j => wy_Qm_o (by omega) D) (fun j => wy_Qm_o (by omega) D) dm wm (fun u53 S54 => wq_lt (wq_set S54 0 29 ((S54 0 29) + 1)) fun S55 => some (u53, S55))
      rw [g5, wy_lt, wy_cnt hI2 hln hD.1 hk]
      rw [wy_same hI2 hln hD.1 hk] at hM5
      have e29 : M5 0 29 = Z 0 29 := by rw [wy_ma0 hM5 (i := 29) (by omega), wy_Qr_o (by omega)]
      rw [e29]
      refine ⟨wq_set (wy_Qr Z ln D W) 0 29 (Z 0 29 + 1), (D : Int), S3, _, rfl, rfl, ?_, wy_iv_0 (wy_iv_Qr hI2 hln hD.1) (by omega), hR3, wy_M_set hM5 _ (by omega), fun hW t ht => ?_⟩
      · rw [wy_set_ne (by omega), q5, q4, q3, q2]
      · rw [wy_set_ne (by omega), wy_Qr_o (by omega), hz5] at ht
        rw [wy_set_ne (by omega), wy_Qr_o (by omega), hz1]
        exact hW t ht
    · rw [if_neg c5, if_pos (by omega), wy_bd wy_asd1, if_pos (by decide)]
      exact Or.inr ⟨2, 0, rfl, rfl, by decide⟩
  · rw [wy_bd (wy_in0 hx (by omega) (by omega) c)]
    unfold j_X9_night_24
    have hth : (if x < 0 then some (2, 0, S) else if x ≤ 1000 then (if wq_w (P 0 29) < wq_w 500 then wq_bd (f_X2_takePay x S) fun r1 S2 => wq_bd (f_X2_renewMarkedTables S2) fun r3 S4 => wq_bd (f_X2_runDueReports S4) fun r5 S6 => some (0, r5, S6) else some (3, 0, S)) else some (2, 0, S)) = some (1 + 1, (0 : Int), S) := by
      by_cases c0 : x < 0
      · rw [if_pos c0]
      · rw [if_neg c0, if_neg (by omega)]
    refine Or.inr ⟨1, 0, hth, ?_, by decide⟩
    split
    · rw [wy_bd (wy_asd0 _), if_pos (by decide)]
      rfl
    · rw [wy_bd (wy_asd0 _), if_pos (by decide)]
      rfl
end
