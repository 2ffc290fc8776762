/-! CALLS that only ask -/
section
variable {P S M : wq_St} {x y z : Int} {t r : Nat}
theorem wy_c_rows (hI : wy_iv P) (hR : wy_R wy_al S P) (hM : wy_M wy_al M P) (hx : wy_rg x) : wy_cll wy_k1 P S M (f_X8_rows x S) (f_X9_rows x M) := by
  have o := wy_o5 hI
  unfold f_X8_rows f_X9_rows
  rw [wy_x_fT hI hR hx, wy_bd (wy_m_isT hI hM hx)]
  by_cases h : wy_isT P x
  · obtain ⟨t, rfl⟩ : ∃ t : Nat, x = (t : Int) := ⟨x.toNat, by omega⟩
    have ht : t < 4 := by omega
    have hM' := @wy_M_42 P M wy_al 0 hM
    rw [if_pos h, if_pos h, wy_bx rfl, wy_bd wy_asked1, if_neg (by decide), Int.toNat_natCast]
    rw [wy_c27 (wy_R_co hR) ht, hI.2.2.2.2.2.2.2.2.2 t ht, wy_bd (wy_m_rowsOf hI (fun i => wy_ma hM' (by omega)) (fun i => wy_ma hM' (by omega)) ht)]
    exact Or.inl ⟨P, _, S, _, rfl, rfl, wy_42, hI, hR, hM', id⟩
  · rw [if_neg h, if_neg h, wy_bx1 rfl, wy_bd wy_asked0, if_pos (by decide)]
    exact Or.inr ⟨0, 0, rfl, rfl, by decide⟩
theorem wy_c_toldRows (hI : wy_iv P) (hR : wy_R wy_al S P) (hM : wy_M wy_al M P) (hx : wy_rg x) : wy_cll wy_k1 P S M (f_X8_toldRows x S) (f_X9_toldRows x M) := by
  have o := wy_o5 hI
  unfold f_X8_toldRows f_X9_toldRows
  rw [wy_x_fT hI hR hx, wy_bd (wy_m_isT hI hM hx)]
  by_cases h : wy_isT P x
  · obtain ⟨t, rfl⟩ : ∃ t : Nat, x = (t : Int) := ⟨x.toNat, by omega⟩
    have ht : t < 4 := by omega
    have hM' := @wy_M_42 P M wy_al 0 hM
    rw [if_pos h, if_pos h, wy_bx rfl, wy_bd wy_asked1, if_neg (by decide), Int.toNat_natCast]
    rw [wy_c6 (wy_R_co hR) ht, wy_ix (by omega) (by omega) (by omega), Int.toNat_natCast, wy_ma hM' (by omega)]
    exact Or.inl ⟨P, _, S, _, rfl, rfl, wy_42, hI, hR, hM', id⟩
  · rw [if_neg h, if_neg h, wy_bx1 rfl, wy_bd wy_asked0, if_pos (by decide)]
    exact Or.inr ⟨0, 0, rfl, rfl, by decide⟩
theorem wy_c_isMarked (hI : wy_iv P) (hR : wy_R wy_al S P) (hM : wy_M wy_al M P) (hx : wy_rg x) : wy_cll wy_k1 P S M (f_X8_isMarked x S) (f_X9_isMarked x M) := by
  have o := wy_o5 hI
  unfold f_X8_isMarked f_X9_isMarked
  rw [wy_x_fT hI hR hx, wy_bd (wy_m_isT hI hM hx)]
  by_cases h : wy_isT P x
  · obtain ⟨t, rfl⟩ : ∃ t : Nat, x = (t : Int) := ⟨x.toNat, by omega⟩
    have ht : t < 4 := by omega
    have hM' := @wy_M_42 P M wy_al 0 hM
    rw [if_pos h, if_pos h, wy_bx rfl, wy_bd wy_asked1, if_neg (by decide), Int.toNat_natCast]
    have b := wy_b10 hI t
    rw [wy_c10 hR ht, wq_gd_t (by omega), wy_ix (by omega) (by omega) (by omega), Int.toNat_natCast, wy_ma hM' (by omega), wq_w_id (by omega) (by omega)]
    have e : (if P 10 t = 0 then some ((0 : Int), wq_set M 0 42 0) else some (1, wq_set M 0 42 0)) = some (P 10 t, wq_set M 0 42 0) := by
      by_cases c : P 10 t = 0
      · rw [if_pos c, c]
      · rw [if_neg c, show P 10 t = 1 by omega]
    rw [e]
    exact Or.inl ⟨P, _, S, _, rfl, rfl, wy_42, hI, hR, hM', id⟩
  · rw [if_neg h, if_neg h, wy_bx1 rfl, wy_bd wy_asked0, if_pos (by decide)]
    exact Or.inr ⟨0, 0, rfl, rfl, by decide⟩
theorem wy_c_unlike (hI : wy_iv P) (hR : wy_R wy_al S P) (hM : wy_M wy_al M P) (hx : wy_rg x) (hy : wy_rg y) : wy_cll wy_k1 P S M (f_X8_unlike x y S) (f_X9_unlike x y M) := by
  have o := wy_o5 hI
  have b1 := wy_b1 hI x.toNat
  unfold f_X8_unlike f_X9_unlike
  rw [wy_x_fC hI hR hx hy, wy_bd (wy_m_isC hI hM hx hy)]
  by_cases h : wy_isC P x y
  · have e : (3 * x + y).toNat = 3 * x.toNat + y.toNat := by omega
    have hM' := @wy_M_42 P M wy_al 0 hM
    rw [if_pos h, if_pos h, wy_bx rfl, wy_bd wy_asked1, if_neg (by decide), wy_ix (by omega) (by omega) (by omega), e, wy_ma hM' (by omega), wy_c7 (wy_R_co hR) (by omega) (by omega)]
    exact Or.inl ⟨P, _, S, _, rfl, rfl, wy_42, hI, hR, hM', id⟩
  · rw [if_neg h, if_neg h, wy_bx1 rfl, wy_bd wy_asked0, if_pos (by decide)]
    exact Or.inr ⟨0, 0, rfl, rfl, by decide⟩
theorem wy_c_least (hI : wy_iv P) (hR : wy_R wy_al S P) (hM : wy_M wy_al M P) (hx : wy_rg x) (hy : wy_rg y) : wy_cll wy_k1 P S M (f_X8_least x y S) (f_X9_least x y M) := by
  have o := wy_o5 hI
  have b1 := wy_b1 hI x.toNat
  unfold f_X8_least f_X9_least
  rw [wy_x_fC hI hR hx hy, wy_bd (wy_m_isC hI hM hx hy)]
  by_cases h : wy_isC P x y
  · have e : (3 * x + y).toNat = 3 * x.toNat + y.toNat := by omega
    have hM' := @wy_M_42 P M wy_al 0 hM
    rw [if_pos h, if_pos h, wy_bx rfl, wy_bd wy_asked1, if_neg (by decide), wy_ix (by omega) (by omega) (by omega), e, wy_ma hM' (by omega), wy_c8 (wy_R_co hR) (by omega) (by omega)]
    exact Or.inl ⟨P, _, S, _, rfl, rfl, wy_42, hI, hR, hM', id⟩
  · rw [if_neg h, if_neg h, wy_bx1 rfl, wy_bd wy_asked0, if_pos (by decide)]
    exact Or.inr ⟨0, 0, rfl, rfl, by decide⟩
theorem wy_c_greatest (hI : wy_iv P) (hR : wy_R wy_al S P) (hM : wy_M wy_al M P) (hx : wy_rg x) (hy : wy_rg y) : wy_cll wy_k1 P S M (f_X8_greatest x y S) (f_X9_greatest x y M) := by
  have o := wy_o5 hI
  have b1 := wy_b1 hI x.toNat
  unfold f_X8_greatest f_X9_greatest
  rw [wy_x_fC hI hR hx hy, wy_bd (wy_m_isC hI hM hx hy)]
  by_cases h : wy_isC P x y
  · have e : (3 * x + y).toNat = 3 * x.toNat + y.toNat := by omega
    have hM' := @wy_M_42 P M wy_al 0 hM
    rw [if_pos h, if_pos h, wy_bx rfl, wy_bd wy_asked1, if_neg (by decide), wy_ix (by omega) (by omega) (by omega), e, wy_ma hM' (by omega), wy_c9 (wy_R_co hR) (by omega) (by omega)]
    exact Or.inl ⟨P, _, S, _, rfl, rfl, wy_42, hI, hR, hM', id⟩
  · rw [if_neg h, if_neg h, wy_bx1 rfl, wy_bd wy_asked0, if_pos (by decide)]
    exact Or.inr ⟨0, 0, rfl, rfl, by decide⟩
theorem wy_c_value (hI : wy_iv P) (hR : wy_R wy_al S P) (hM : wy_M wy_al M P) (hx : wy_rg x) (hy : wy_rg y) (hz : wy_rg z) : wy_cll wy_k1 P S M (f_X8_value x y z S) (f_X9_value x y z M) := by
  have o := wy_o5 hI
  have b1 := wy_b1 hI x.toNat
  have b2 := wy_b2 hI x.toNat
  unfold f_X8_value f_X9_value
  rw [wy_x_fT hI hR hx, wy_bd (wy_m_isC hI hM hx hz)]
  by_cases h : wy_isT P x
  · rw [if_pos h, wy_bx rfl, wy_x_cW hI hR (by omega) hy]
    by_cases hw : 0 ≤ y ∧ y < P 2 x.toNat ∧ P 3 (40 * x.toNat + y.toNat) ≠ 0
    · rw [if_pos hw, wy_bx rfl, wy_x_cC hI hR (by omega) hz]
      by_cases hc : 0 ≤ z ∧ z < P 1 x.toNat
      · have e : (3 * (40 * x + y) + z).toNat = 3 * (40 * x.toNat + y.toNat) + z.toNat := by omega
        have hM' := @wy_M_42 P M wy_al 0 hM
        rw [if_pos hc, wy_bx rfl, wy_ix (by omega) (by omega) (by omega), wy_ix (by omega) (by omega) (by omega), wy_c4 (wy_R_co hR) (by omega) (by omega) (by omega), if_pos (⟨h, hc⟩ : wy_isC P x z), if_neg (by decide), wy_bd (wy_m_isW hI hM hx hy), if_pos (⟨h, hw⟩ : wy_isW P x y), wy_bd wy_asked1, if_neg (by decide)]
        unfold f_X9_valueAt
        rw [wy_ix (by omega) (by omega) (by omega), e, wy_ma hM' (by omega)]
        exact Or.inl ⟨P, _, S, _, rfl, rfl, wy_42, hI, hR, hM', id⟩
      · rw [if_neg hc, wy_bx1 rfl, if_neg (fun h' : wy_isC P x z => hc h'.2), if_pos (by decide), wy_bd wy_asked0, if_pos (by decide)]
        exact Or.inr ⟨0, 0, rfl, rfl, by decide⟩
    · rw [if_neg hw, wy_bx1 rfl]
      refine Or.inr ⟨0, 0, rfl, ?_, by decide⟩
      by_cases hc : wy_isC P x z
      · rw [if_pos hc, if_neg (by decide), wy_bd (wy_m_isW hI hM hx hy), if_neg (fun h' : wy_isW P x y => hw h'.2), wy_bd wy_asked0, if_pos (by decide)]
        rfl
      · rw [if_neg hc, if_pos (by decide), wy_bd wy_asked0, if_pos (by decide)]
        rfl
  · rw [if_neg h, wy_bx1 rfl, if_neg (fun h' : wy_isC P x z => h h'.1), if_pos (by decide), wy_bd wy_asked0, if_pos (by decide)]
    exact Or.inr ⟨0, 0, rfl, rfl, by decide⟩
theorem wy_c_kept (hI : wy_iv P) (hR : wy_R wy_al S P) (hM : wy_M wy_al M P) (hx : wy_rg x) : wy_cll wy_k1 P S M (f_X8_kept x S) (f_X9_kept x M) := by
  have o := wy_o28 hI
  unfold f_X8_kept f_X9_kept
  rw [wy_x_fR hI hR hx, wy_bd (wy_m_isR hI hM hx)]
  by_cases h : wy_isR P x
  · obtain ⟨r, rfl⟩ : ∃ r : Nat, x = (r : Int) := ⟨x.toNat, by omega⟩
    have hr : r < 8 := by omega
    have hM' := @wy_M_42 P M wy_al 0 hM
    rw [if_pos h, if_pos h, wy_bx rfl, wy_bd wy_asked1, if_neg (by decide), Int.toNat_natCast]
    rw [wy_c24 hR hr, wy_ix (by omega) (by omega) (by omega), Int.toNat_natCast, hM' 24 r trivial (by omega) (by omega) (by omega)]
    exact Or.inl ⟨P, _, S, _, rfl, rfl, wy_42, hI, hR, hM', id⟩
  · rw [if_neg h, if_neg h, wy_bx1 rfl, wy_bd wy_asked0, if_pos (by decide)]
    exact Or.inr ⟨0, 0, rfl, rfl, by decide⟩
theorem wy_c_keptSum (hI : wy_iv P) (hR : wy_R wy_al S P) (hM : wy_M wy_al M P) (hx : wy_rg x) : wy_cll wy_k1 P S M (f_X8_keptSum x S) (f_X9_keptSum x M) := by
  have o := wy_o28 hI
  unfold f_X8_keptSum f_X9_keptSum
  rw [wy_x_fR hI hR hx, wy_bd (wy_m_isR hI hM hx)]
  by_cases h : wy_isR P x
  · obtain ⟨r, rfl⟩ : ∃ r : Nat, x = (r : Int) := ⟨x.toNat, by omega⟩
    have hr : r < 8 := by omega
    have hM' := @wy_M_42 P M wy_al 0 hM
    rw [if_pos h, if_pos h, wy_bx rfl, wy_bd wy_asked1, if_neg (by decide), Int.toNat_natCast]
    rw [wy_c25 hR hr, wy_ix (by omega) (by omega) (by omega), Int.toNat_natCast, hM' 25 r trivial (by omega) (by omega) (by omega)]
    exact Or.inl ⟨P, _, S, _, rfl, rfl, wy_42, hI, hR, hM', id⟩
  · rw [if_neg h, if_neg h, wy_bx1 rfl, wy_bd wy_asked0, if_pos (by decide)]
    exact Or.inr ⟨0, 0, rfl, rfl, by decide⟩
theorem wy_c_keptIn (hI : wy_iv P) (hR : wy_R wy_al S P) (hM : wy_M wy_al M P) (hx : wy_rg x) : wy_cll wy_k1 P S M (f_X8_keptIn x S) (f_X9_keptIn x M) := by
  have o := wy_o28 hI
  unfold f_X8_keptIn f_X9_keptIn
  rw [wy_x_fR hI hR hx, wy_bd (wy_m_isR hI hM hx)]
  by_cases h : wy_isR P x
  · obtain ⟨r, rfl⟩ : ∃ r : Nat, x = (r : Int) := ⟨x.toNat, by omega⟩
    have hr : r < 8 := by omega
    have hM' := @wy_M_42 P M wy_al 0 hM
    rw [if_pos h, if_pos h, wy_bx rfl, wy_bd wy_asked1, if_neg (by decide), Int.toNat_natCast]
    rw [wy_c26 hR hr, wy_ix (by omega) (by omega) (by omega), Int.toNat_natCast, hM' 26 r trivial (by omega) (by omega) (by omega)]
    exact Or.inl ⟨P, _, S, _, rfl, rfl, wy_42, hI, hR, hM', id⟩
  · rw [if_neg h, if_neg h, wy_bx1 rfl, wy_bd wy_asked0, if_pos (by decide)]
    exact Or.inr ⟨0, 0, rfl, rfl, by decide⟩
theorem wy_c_isDue (hI : wy_iv P) (hR : wy_R wy_al S P) (hM : wy_M wy_al M P) (hx : wy_rg x) : wy_cll wy_k1 P S M (f_X8_isDue x S) (f_X9_isDue x M) := by
  have o := wy_o28 hI
  unfold f_X8_isDue f_X9_isDue
  rw [wy_x_fR hI hR hx, wy_bd (wy_m_isR hI hM hx)]
  by_cases h : wy_isR P x
  · obtain ⟨r, rfl⟩ : ∃ r : Nat, x = (r : Int) := ⟨x.toNat, by omega⟩
    have hr : r < 8 := by omega
    have hM' := @wy_M_42 P M wy_al 0 hM
    rw [if_pos h, if_pos h, wy_bx rfl, wy_bd wy_asked1, if_neg (by decide), Int.toNat_natCast]
    have b := wy_b12 hI r
    rw [wy_c12 hR hr, wq_gd_t (by omega), wy_ix (by omega) (by omega) (by omega), Int.toNat_natCast, wy_ma hM' (by omega), wq_w_id (by omega) (by omega)]
    have e : (if P 12 r = 0 then some ((0 : Int), wq_set M 0 42 0) else some (1, wq_set M 0 42 0)) = some (P 12 r, wq_set M 0 42 0) := by
      by_cases c : P 12 r = 0
      · rw [if_pos c, c]
      · rw [if_neg c, show P 12 r = 1 by omega]
    rw [e]
    exact Or.inl ⟨P, _, S, _, rfl, rfl, wy_42, hI, hR, hM', id⟩
  · rw [if_neg h, if_neg h, wy_bx1 rfl, wy_bd wy_asked0, if_pos (by decide)]
    exact Or.inr ⟨0, 0, rfl, rfl, by decide⟩
theorem wy_fr_al {S1 : wq_St} (hR : wy_R wy_al S P) (hf : ∀ k j, ¬(272 ≤ k ∧ k ≤ 281) → S1 k j = S k j) : wy_R wy_al S1 P := wy_R_fr hR fun k j hk => hf k j fun h => hk (by unfold wy_scr; omega)
theorem wy_c_foretold (hI : wy_iv P) (hR : wy_R wy_al S P) (hM : wy_M wy_al M P) (hx : wy_rg x) : wy_cll wy_k1 P S M (f_X8_foretold x S) (f_X9_foretold x M) := by
  have o := wy_o28 hI
  unfold f_X8_foretold f_X9_foretold
  rw [wy_x_fR hI hR hx, wy_bd (wy_m_isR hI hM hx)]
  by_cases h : wy_isR P x
  · obtain ⟨r, rfl⟩ : ∃ r : Nat, x = (r : Int) := ⟨x.toNat, by omega⟩
    have hr : r < 8 := by omega
    have hM' := @wy_M_42 P M wy_al 0 hM
    obtain ⟨S1, e1, hf, -, e2⟩ := wy_x_ft hI (wy_R_co hR) hr
    obtain ⟨M1, -, g2, hg, -⟩ := wy_m_ft hI (wy_M_co hM') hr
    rw [if_pos h, if_pos h, wy_bx rfl, wy_bd wy_asked1, if_neg (by decide), Int.toNat_natCast, wy_bd e1, wy_bd e2, wy_bd g2]
    exact Or.inl ⟨P, _, S1, M1, rfl, rfl, by rw [hg 0 42 (by omega) (by omega), wy_42], hI, wy_fr_R hR hf, wy_fo_M hM' hg, id⟩
  · rw [if_neg h, if_neg h, wy_bx1 rfl, wy_bd wy_asked0, if_pos (by decide)]
    exact Or.inr ⟨0, 0, rfl, rfl, by decide⟩
theorem wy_c_planSource (hI : wy_iv P) (hR : wy_R wy_al S P) (hM : wy_M wy_al M P) (hx : wy_rg x) (hy : wy_rg y) : wy_cll wy_k1 P S M (f_X8_planSource x y S) (f_X9_planSource x y M) := by
  have o := wy_o28 hI
  have b13 := wy_b13 hI x.toNat
  unfold f_X8_planSource f_X9_planSource
  rw [wy_x_fR hI hR hx, wy_bd (wy_m_isS hI hM hx hy)]
  by_cases h : wy_isR P x
  · rw [if_pos h, wy_bx rfl, wy_x_cS hI hR (by omega) hy]
    by_cases h2 : 0 ≤ y ∧ y < P 13 x.toNat
    · obtain ⟨r, rfl⟩ : ∃ r : Nat, x = (r : Int) := ⟨x.toNat, by omega⟩
      obtain ⟨s, rfl⟩ : ∃ s : Nat, y = (s : Int) := ⟨y.toNat, by omega⟩
      have h2o := h2
      rw [Int.toNat_natCast] at h2 b13
      have hr : r < 8 := by omega
      have hM' := @wy_M_42 P M wy_al 0 hM
      obtain ⟨S1, e1, hf, hb, -⟩ := wy_x_ft hI (wy_R_co hR) hr
      obtain ⟨M1, g1, -, hg, hp⟩ := wy_m_ft hI (wy_M_co hM') hr
      have q1 := (hb.2.2.2.1 s h2.2).1
      have q2 := (hp (by omega) s (by omega)).1
      have hS : wy_isS P (r : Int) (s : Int) := ⟨h, by rw [Int.toNat_natCast]; exact h2⟩
      rw [if_pos h2o, if_pos hS, wy_bx rfl, wy_bd wy_asked1, if_neg (by decide), Int.toNat_natCast, wy_bd e1, wy_bd g1, wy_ix (by omega) (by omega) (by omega), wy_ix (by omega) (by omega) (by omega), Int.toNat_natCast, q1, q2]
      exact Or.inl ⟨P, _, S1, M1, rfl, rfl, by rw [hg 0 42 (by omega) (by omega), wy_42], hI, wy_fr_R hR hf, wy_fo_M hM' hg, id⟩
    · rw [if_neg h2, if_neg (fun h' : wy_isS P x y => h2 h'.2), wy_bx1 rfl, wy_bd wy_asked0, if_pos (by decide)]
      exact Or.inr ⟨0, 0, rfl, rfl, by decide⟩
  · rw [if_neg h, if_neg (fun h' : wy_isS P x y => h h'.1), wy_bx1 rfl, wy_bd wy_asked0, if_pos (by decide)]
    exact Or.inr ⟨0, 0, rfl, rfl, by decide⟩
theorem wy_c_planWay (hI : wy_iv P) (hR : wy_R wy_al S P) (hM : wy_M wy_al M P) (hx : wy_rg x) (hy : wy_rg y) : wy_cll wy_k1 P S M (f_X8_planWay x y S) (f_X9_planWay x y M) := by
  have o := wy_o28 hI
  have b13 := wy_b13 hI x.toNat
  unfold f_X8_planWay f_X9_planWay
  rw [wy_x_fR hI hR hx, wy_bd (wy_m_isS hI hM hx hy)]
  by_cases h : wy_isR P x
  · rw [if_pos h, wy_bx rfl, wy_x_cS hI hR (by omega) hy]
    by_cases h2 : 0 ≤ y ∧ y < P 13 x.toNat
    · obtain ⟨r, rfl⟩ : ∃ r : Nat, x = (r : Int) := ⟨x.toNat, by omega⟩
      obtain ⟨s, rfl⟩ : ∃ s : Nat, y = (s : Int) := ⟨y.toNat, by omega⟩
      have h2o := h2
      rw [Int.toNat_natCast] at h2 b13
      have hr : r < 8 := by omega
      have hM' := @wy_M_42 P M wy_al 0 hM
      obtain ⟨S1, e1, hf, hb, -⟩ := wy_x_ft hI (wy_R_co hR) hr
      obtain ⟨M1, g1, -, hg, hp⟩ := wy_m_ft hI (wy_M_co hM') hr
      have q1 := (hb.2.2.2.1 s h2.2).2
      have q2 := (hp (by omega) s (by omega)).2
      have hS : wy_isS P (r : Int) (s : Int) := ⟨h, by rw [Int.toNat_natCast]; exact h2⟩
      rw [if_pos h2o, if_pos hS, wy_bx rfl, wy_bd wy_asked1, if_neg (by decide), Int.toNat_natCast, wy_bd e1, wy_bd g1, wy_ix (by omega) (by omega) (by omega), wy_ix (by omega) (by omega) (by omega), Int.toNat_natCast, q1, q2]
      exact Or.inl ⟨P, _, S1, M1, rfl, rfl, by rw [hg 0 42 (by omega) (by omega), wy_42], hI, wy_fr_R hR hf, wy_fo_M hM' hg, id⟩
    · rw [if_neg h2, if_neg (fun h' : wy_isS P x y => h2 h'.2), wy_bx1 rfl, wy_bd wy_asked0, if_pos (by decide)]
      exact Or.inr ⟨0, 0, rfl, rfl, by decide⟩
  · rw [if_neg h, if_neg (fun h' : wy_isS P x y => h h'.1), wy_bx1 rfl, wy_bd wy_asked0, if_pos (by decide)]
    exact Or.inr ⟨0, 0, rfl, rfl, by decide⟩
theorem wy_m_isRun (hI : wy_iv P) (hM : wy_M wy_al M P) {r : Nat} (h : (r : Int) < P 0 28) : ∃ M2, f_X9_isRun (r : Int) M = some (1, M2) ∧ M2 0 39 = wy_tr P r ∧ M2 0 40 = wy_fd P r ∧ M2 0 41 = wy_sd P r ∧ M2 0 42 = 0 ∧ wy_M wy_al M2 P := by
  have o := wy_o28 hI
  have hM' := @wy_M_42 P M wy_al 0 hM
  obtain ⟨M1, M2, g1, -, g3, z1, z2, z3, hf⟩ := wy_m_run hI (wy_M_co hM') (r := r) (by omega) h
  unfold f_X9_isRun
  rw [wy_bd (wy_m_isR hI hM (by omega)), if_pos (⟨by omega, h⟩ : wy_isR P (r : Int)), wy_bd wy_asked1, if_neg (by decide), wy_bd g1, wy_bd g3, wq_gd_t (Or.inr rfl)]
  exact ⟨M2, rfl, z1, z2, z3, by rw [hf 0 42 (by omega) (by omega), wy_42], wy_M_fo hM' fun f j a b => hf f j (by omega) (by omega)⟩
theorem wy_m_isRun0 (hI : wy_iv P) (hM : wy_M wy_al M P) (hx : wy_rg x) (h : ¬wy_isR P x) : f_X9_isRun x M = some (0, wq_set M 0 42 1) := by
  unfold f_X9_isRun
  rw [wy_bd (wy_m_isR hI hM hx), if_neg h, wy_bd wy_asked0, if_pos (by decide), wq_gd_t (Or.inl rfl)]
theorem wy_x_rcp (hI : wy_iv P) (hR : wy_R wy_al S P) {r : Nat} (hr : r < 8) : ∃ S2, f_X8_runChosenPlan (199 + 9 * r) S = some (0, S2) ∧ S2 280 2 = wy_tr P r ∧ S2 280 3 = wy_fd P r ∧ S2 280 4 = wy_sd P r ∧ wy_R wy_al S2 P := by
  obtain ⟨S1, S2, e1, e2, -, z1, z2, z3, hf⟩ := wy_x_run hI (wy_R_co hR) hr
  unfold f_X8_runChosenPlan
  rw [wy_bd e1, wy_bd e2]
  exact ⟨S2, rfl, z1, z2, z3, wy_fr_al hR hf⟩
theorem wy_x_rpp (hI : wy_iv P) (hR : wy_R wy_al S P) {r : Nat} (hr : r < 8) : ∃ S2, f_X8_runPlainPlan (199 + 9 * r) S = some (0, S2) ∧ S2 280 3 = wy_fd P r ∧ S2 280 4 = wy_sd P r ∧ wy_R wy_al S2 P := by
  have b13 := wy_b13 hI r
  have hvi := @wy_vp_id P r hI
  have key := wy_up (fun n i (s : wq_St) => ∃ S', l_X3_becomePlain_2 1 (P 13 r) (fun S5 => some (0, S5)) n (i : Int) s = some (0, S') ∧ (∀ k j, ¬(1 ≤ k ∧ k ≤ 4) → S' k j = S k j) ∧ ∀ j : Nat, (j : Int) < P 13 r → S' 2 j = (j : Int) ∧ S' 3 j = -1 ∧ S' 4 j = (j : Int)) (P 13 r).toNat (fun i s => (∀ k j, ¬(1 ≤ k ∧ k ≤ 4) → s k j = S k j) ∧ ∀ j : Nat, j < i → s 2 j = (j : Int) ∧ s 3 j = -1 ∧ s 4 j = (j : Int)) ?_ ?_ wq_fu 0 S (by omega) (wy_fu' (by omega)) ⟨fun _ _ _ => rfl, fun j hj => by omega⟩
  · obtain ⟨S1, e1, hf, hq⟩ := key
    have hR1 : wy_R wy_al S1 P := wy_R_fr hR fun k j hk => hf k j fun h => hk (by unfold wy_scr; omega)
    have hps : ∀ j : Nat, (j : Int) < P 13 r → wy_ps (fun j => (j : Int)) (j : Int) = (j : Int) := fun j hj => (hvi.2.1 j hj).2
    obtain ⟨S2, e2, -, z2, z3, h2⟩ := wy_x_go (q := 1) (o := fun j => (j : Int)) (w := fun _ => -1) hI (wy_R_co hR1) hr (fun _ => hvi) (by omega) (fun _ => ⟨fun j hj => ⟨(hq j hj).1, (hq j hj).2.1⟩, fun j hj => by rw [hps j hj]; exact (hq j hj).2.2⟩)
    have e1' : f_X3_becomePlain 1 (P 13 r) S = some (0, S1) := e1
    unfold f_X8_runPlainPlan
    rw [wy_c13 (wy_R_co hR) hr, wy_bd e1', wy_bd e2]
    refine ⟨S2, rfl, ?_, ?_, wy_f2_R hR1 h2⟩
    · rw [z2]
      exact wy_fn_any hI (fun h => wy_vp_vo hvi) (fun h => wy_vp_vo (wy_vp_pp hI h))
    · rw [z3]
      exact wy_fn_any hI (fun h => wy_vp_vo hvi) (fun h => wy_vp_vo (wy_vp_pp hI h))
  · intro n i s hi ⟨hs, hq⟩ ih
    have e : ((i : Int) + 1) = ((i + 1 : Nat) : Int) := by omega
    rw [l_X3_becomePlain_2_s]
    unfold b_X3_becomePlain_2 f_X3_place
    rw [wq_w_id (x := P 13 r) (by omega) (by omega), wq_w_id (x := (i : Int)) (by omega) (by omega), if_neg (by omega), wy_ix (by omega) (by omega) (by omega), wy_lt, wy_ix (by omega) (by omega) (by omega), wy_bd rfl, wy_ix (by omega) (by omega) (by omega), wy_lt, Int.toNat_natCast, e]
    refine ih _ ⟨fun k j hk => ?_, fun j hj => ?_⟩
    · rw [wy_set_ne (by omega), wy_set_ne (by omega), wy_set_ne (by omega)]
      exact hs k j hk
    · by_cases c : j = i
      · subst c
        refine ⟨?_, ?_, ?_⟩
        · rw [wy_set_ne (by omega), wy_set_ne (by omega), wy_set_at rfl rfl]
        · rw [wy_set_at rfl rfl]
        · rw [wy_set_ne (by omega), wy_set_at rfl rfl]
      · have := hq j (by omega)
        refine ⟨?_, ?_, ?_⟩
        · rw [wy_set_ne (by omega), wy_set_ne (by omega), wy_set_ne (by omega)]
          exact this.1
        · rw [wy_set_ne (by omega), wy_set_ne (by omega), wy_set_ne (by omega)]
          exact this.2.1
        · rw [wy_set_ne (by omega), wy_set_ne (by omega), wy_set_ne (by omega)]
          exact this.2.2
  · intro n s ⟨hs, hq⟩
    rw [l_X3_becomePlain_2_s]
    unfold b_X3_becomePlain_2
    rw [wq_w_id (x := P 13 r) (by omega) (by omega), wq_w_id (by omega) (by omega), if_pos (by omega)]
    exact ⟨s, rfl, hs, fun j hj => hq j (by omega)⟩
theorem wy_c_minutes (hI : wy_iv P) (hR : wy_R wy_al S P) (hM : wy_M wy_al M P) (hx : wy_rg x) : wy_cll wy_k1 P S M (f_X8_minutes x S) (f_X9_minutes x M) := by
  have o := wy_o28 hI
  unfold f_X8_minutes f_X9_minutes
  rw [wy_x_fR hI hR hx]
  by_cases h : wy_isR P x
  · obtain ⟨r, rfl⟩ : ∃ r : Nat, x = (r : Int) := ⟨x.toNat, by omega⟩
    obtain ⟨S2, e1, z1, z2, z3, hR2⟩ := wy_x_rcp hI hR (r := r) (by omega)
    obtain ⟨M2, g1, qz1, qz2, qz3, q42, hM2⟩ := wy_m_isRun hI hM h.2
    rw [if_pos h, wy_bx rfl, Int.toNat_natCast, wy_bd e1, z1, wy_bd g1, if_neg (by decide), qz1]
    exact Or.inl ⟨P, _, S2, M2, rfl, rfl, q42, hI, hR2, hM2, id⟩
  · rw [if_neg h, wy_bx1 rfl, wy_bd (wy_m_isRun0 hI hM hx h), if_pos (by decide)]
    exact Or.inr ⟨0, 0, rfl, rfl, by decide⟩
theorem wy_c_answer (hI : wy_iv P) (hR : wy_R wy_al S P) (hM : wy_M wy_al M P) (hx : wy_rg x) : wy_cll wy_k1 P S M (f_X8_answer x S) (f_X9_answer x M) := by
  have o := wy_o28 hI
  unfold f_X8_answer f_X9_answer
  rw [wy_x_fR hI hR hx]
  by_cases h : wy_isR P x
  · obtain ⟨r, rfl⟩ : ∃ r : Nat, x = (r : Int) := ⟨x.toNat, by omega⟩
    obtain ⟨S2, e1, z1, z2, z3, hR2⟩ := wy_x_rcp hI hR (r := r) (by omega)
    obtain ⟨M2, g1, qz1, qz2, qz3, q42, hM2⟩ := wy_m_isRun hI hM h.2
    rw [if_pos h, wy_bx rfl, Int.toNat_natCast, wy_bd e1, z2, wy_bd g1, if_neg (by decide), qz2]
    exact Or.inl ⟨P, _, S2, M2, rfl, rfl, q42, hI, hR2, hM2, id⟩
  · rw [if_neg h, wy_bx1 rfl, wy_bd (wy_m_isRun0 hI hM hx h), if_pos (by decide)]
    exact Or.inr ⟨0, 0, rfl, rfl, by decide⟩
theorem wy_c_sum (hI : wy_iv P) (hR : wy_R wy_al S P) (hM : wy_M wy_al M P) (hx : wy_rg x) : wy_cll wy_k1 P S M (f_X8_sum x S) (f_X9_sum x M) := by
  have o := wy_o28 hI
  unfold f_X8_sum f_X9_sum
  rw [wy_x_fR hI hR hx]
  by_cases h : wy_isR P x
  · obtain ⟨r, rfl⟩ : ∃ r : Nat, x = (r : Int) := ⟨x.toNat, by omega⟩
    obtain ⟨S2, e1, z1, z2, z3, hR2⟩ := wy_x_rcp hI hR (r := r) (by omega)
    obtain ⟨M2, g1, qz1, qz2, qz3, q42, hM2⟩ := wy_m_isRun hI hM h.2
    rw [if_pos h, wy_bx rfl, Int.toNat_natCast, wy_bd e1, z3, wy_bd g1, if_neg (by decide), qz3]
    exact Or.inl ⟨P, _, S2, M2, rfl, rfl, q42, hI, hR2, hM2, id⟩
  · rw [if_neg h, wy_bx1 rfl, wy_bd (wy_m_isRun0 hI hM hx h), if_pos (by decide)]
    exact Or.inr ⟨0, 0, rfl, rfl, by decide⟩
theorem wy_c_plainAnswer (hI : wy_iv P) (hR : wy_R wy_al S P) (hM : wy_M wy_al M P) (hx : wy_rg x) : wy_cll wy_k1 P S M (f_X8_plainAnswer x S) (f_X9_plainAnswer x M) := by
  have o := wy_o28 hI
  unfold f_X8_plainAnswer f_X9_plainAnswer
  rw [wy_x_fR hI hR hx]
  by_cases h : wy_isR P x
  · obtain ⟨r, rfl⟩ : ∃ r : Nat, x = (r : Int) := ⟨x.toNat, by omega⟩
    obtain ⟨S2, e1, z2, z3, hR2⟩ := wy_x_rpp hI hR (r := r) (by omega)
    obtain ⟨M2, g1, qz1, qz2, qz3, q42, hM2⟩ := wy_m_isRun hI hM h.2
    have g2 : f_X9_answer (r : Int) M = some (M2 0 40, M2) := by
      unfold f_X9_answer
      rw [wy_bd g1, if_neg (by decide)]
    rw [if_pos h, wy_bx rfl, Int.toNat_natCast, wy_bd e1, z2, wy_bd g2, qz2]
    exact Or.inl ⟨P, _, S2, M2, rfl, rfl, q42, hI, hR2, hM2, id⟩
  · have g2 : f_X9_answer x M = some (0, wq_set M 0 42 1) := by
      unfold f_X9_answer
      rw [wy_bd (wy_m_isRun0 hI hM hx h), if_pos (by decide)]
    rw [if_neg h, wy_bx1 rfl, wy_bd g2]
    exact Or.inr ⟨0, 0, rfl, rfl, by decide⟩
theorem wy_c_plainSum (hI : wy_iv P) (hR : wy_R wy_al S P) (hM : wy_M wy_al M P) (hx : wy_rg x) : wy_cll wy_k1 P S M (f_X8_plainSum x S) (f_X9_plainSum x M) := by
  have o := wy_o28 hI
  unfold f_X8_plainSum f_X9_plainSum
  rw [wy_x_fR hI hR hx]
  by_cases h : wy_isR P x
  · obtain ⟨r, rfl⟩ : ∃ r : Nat, x = (r : Int) := ⟨x.toNat, by omega⟩
    obtain ⟨S2, e1, z2, z3, hR2⟩ := wy_x_rpp hI hR (r := r) (by omega)
    obtain ⟨M2, g1, qz1, qz2, qz3, q42, hM2⟩ := wy_m_isRun hI hM h.2
    have g2 : f_X9_sum (r : Int) M = some (M2 0 41, M2) := by
      unfold f_X9_sum
      rw [wy_bd g1, if_neg (by decide)]
    rw [if_pos h, wy_bx rfl, Int.toNat_natCast, wy_bd e1, z3, wy_bd g2, qz3]
    exact Or.inl ⟨P, _, S2, M2, rfl, rfl, q42, hI, hR2, hM2, id⟩
  · have g2 : f_X9_sum x M = some (0, wq_set M 0 42 1) := by
      unfold f_X9_sum
      rw [wy_bd (wy_m_isRun0 hI hM hx h), if_pos (by decide)]
    rw [if_neg h, wy_bx1 rfl, wy_bd g2]
    exact Or.inr ⟨0, 0, rfl, rfl, by decide⟩
end
