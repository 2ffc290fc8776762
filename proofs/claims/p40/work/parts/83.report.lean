/-! CALLS that put reports together -/
section
variable {P S M : wq_St} {x y z u v : Int} {t r : Nat}
theorem wy_k2r {r n : Nat} (hn : n < 3) : 199 + 9 * r + 1 = wy_ka 14 (3 * r + n) ∧ n = wy_io 14 (3 * r + n) := by
  constructor
  · show _ = 199 + 9 * ((3 * r + n) / 3) + 1
    omega
  · show n = (3 * r + n) % 3
    omega
theorem wy_c_addReport (hI : wy_iv P) (hR : wy_R wy_al S P) (hM : wy_M wy_al M P) (hx : wy_rg x) : wy_cll wy_k23 P S M (f_X8_addReport x S) (f_X9_addReport x M) := by
  have o := wy_o28 hI
  have w8 : wq_w 8 = 8 := rfl
  have w1000 : wq_w 1000 = 1000 := rfl
  have q28 : M 0 28 = P 0 28 := wy_ma0 hM (by omega)
  obtain ⟨r, hr⟩ : ∃ r : Nat, P 0 28 = (r : Int) := ⟨(P 0 28).toNat, by omega⟩
  by_cases c : 0 ≤ x ∧ x ≤ 1000
  · by_cases c8 : P 0 28 < 8
    · have r8 : r < 8 := by omega
      have h8 : f_X8_addReport x S = some (0, P 0 28 + 1 - 1, wq_set (wq_set S (199 + 9 * r) 2 x) 0 7 (P 0 28 + 1)) := by
        unfold f_X8_addReport
        rw [wy_cN hR, w8, w1000, wq_w_id hx.1 hx.2, wq_w_id (x := P 0 28) (by omega) (by omega), if_neg (by omega), if_pos c.2, if_pos c8, wy_ix (by omega) (by omega) (by omega), wy_lt, wy_lt, wy_set_at (k := 0) (j := 7) rfl rfl, wy_set_ne (a := 0) (i := 7) (by omega), wy_cN hR, hr, Int.toNat_natCast]
      have h9 : f_X9_addReport x M = some (P 0 28 + 1 - 1, wq_set (wq_set (wq_set (wq_set (wq_set (wq_set (wq_set M 0 42 0) 11 r x) 22 r (-1)) 24 r (-1)) 25 r (-1)) 26 r (-1)) 0 28 (P 0 28 + 1)) := by
        have k0 : wq_set M 0 42 0 0 28 = (r : Int) := by rw [wy_set_ne (by omega), q28, hr]
        unfold f_X9_addReport j_X9_addReport_23
        rw [wy_bd (wy_inn hx (by omega) (by omega)), if_pos c, q28, w8, wq_w_id (x := P 0 28) (by omega) (by omega), if_neg (by omega), wy_bd wy_asd2, if_neg (by decide), k0, wy_ix (by omega) (by omega) (by omega), Int.toNat_natCast, wy_lt]
        rw [wy_set_ne (k := 11) (a := 0) (i := 28) (by omega), k0, wy_ix (by omega) (by omega) (by omega), Int.toNat_natCast, wy_lt]
        rw [wy_set_ne (k := 22) (a := 0) (i := 28) (by omega), wy_set_ne (k := 11) (a := 0) (i := 28) (by omega), k0, wy_ix (by omega) (by omega) (by omega), Int.toNat_natCast, wy_lt]
        rw [wy_set_ne (k := 24) (a := 0) (i := 28) (by omega), wy_set_ne (k := 22) (a := 0) (i := 28) (by omega), wy_set_ne (k := 11) (a := 0) (i := 28) (by omega), k0, wy_ix (by omega) (by omega) (by omega), Int.toNat_natCast, wy_lt]
        rw [wy_set_ne (k := 25) (a := 0) (i := 28) (by omega), wy_set_ne (k := 24) (a := 0) (i := 28) (by omega), wy_set_ne (k := 22) (a := 0) (i := 28) (by omega), wy_set_ne (k := 11) (a := 0) (i := 28) (by omega), k0, wy_ix (by omega) (by omega) (by omega), Int.toNat_natCast, wy_lt, wy_lt]
        rw [wy_set_at (k := 0) (j := 28) rfl rfl, wy_set_ne (k := 26) (a := 0) (i := 28) (by omega), wy_set_ne (k := 25) (a := 0) (i := 28) (by omega), wy_set_ne (k := 24) (a := 0) (i := 28) (by omega), wy_set_ne (k := 22) (a := 0) (i := 28) (by omega), wy_set_ne (k := 11) (a := 0) (i := 28) (by omega), k0, hr]
      have hN := hI.2.2.2.2.2.2.2.2.1 r (by omega) r8
      refine Or.inl ⟨wq_set (wq_set P 11 r x) 0 28 (P 0 28 + 1), _, _, _, h8, h9, ?_, wy_iv_addReport hI c hr r8, wy_R_set (wy_R_set hR _ (f₀ := 11) (i₀ := r) ⟨r8, fun e => by omega⟩ rfl rfl) _ (f₀ := 0) (i₀ := 28) ⟨by decide, fun _ => by omega⟩ rfl rfl, fun f i a1 a2 a3 a4 => ?_, fun hW t' ht' => ?_⟩
      · rw [wy_set_ne (by omega), wy_set_ne (by omega), wy_set_ne (by omega), wy_set_ne (by omega), wy_set_ne (by omega), wy_set_ne (by omega), wy_42]
      · rw [wy_set_at (k := 0) (j := 28) rfl rfl] at a4
        by_cases e0 : f = 0 ∧ i = 28
        · rw [wy_set_at e0.1 e0.2, wy_set_at e0.1 e0.2]
        · rw [wy_set_ne e0, wy_set_ne (S := wq_set P 11 r x) e0]
          by_cases e11 : f = 11 ∧ i = r
          · rw [wy_set_ne (by omega), wy_set_ne (by omega), wy_set_ne (by omega), wy_set_ne (by omega), wy_set_at e11.1 e11.2, wy_set_at e11.1 e11.2]
          · rw [wy_set_ne (S := P) e11]
            by_cases e26 : f = 26 ∧ i = r
            · rw [wy_set_at e26.1 e26.2, e26.1, e26.2]
              exact hN.2.2.2.symm
            · by_cases e25 : f = 25 ∧ i = r
              · rw [wy_set_ne e26, wy_set_at e25.1 e25.2, e25.1, e25.2]
                exact hN.2.2.1.symm
              · by_cases e24 : f = 24 ∧ i = r
                · rw [wy_set_ne e26, wy_set_ne e25, wy_set_at e24.1 e24.2, e24.1, e24.2]
                  exact hN.2.1.symm
                · by_cases e22 : f = 22 ∧ i = r
                  · rw [wy_set_ne e26, wy_set_ne e25, wy_set_ne e24, wy_set_at e22.1 e22.2, e22.1, e22.2]
                    exact hN.1.symm
                  · rw [wy_set_ne e26, wy_set_ne e25, wy_set_ne e24, wy_set_ne e22, wy_set_ne e11, wy_set_ne (fun e => by have := a3 e.1; omega)]
                    exact hM f i a1 a2 a3 (fun hf => by have := a4 hf; omega)
      · simp (disch := omega) only [wy_set_ne] at ht' ⊢
        exact hW t' ht'
    · have h8 : f_X8_addReport x S = some (2 + 1, 0, S) := by
        unfold f_X8_addReport
        rw [wy_cN hR, w8, w1000, wq_w_id hx.1 hx.2, wq_w_id (x := P 0 28) (by omega) (by omega), if_neg (by omega), if_pos c.2, if_neg c8]
      have h9 : f_X9_addReport x M = some (0, wq_set M 0 42 2) := by
        unfold f_X9_addReport j_X9_addReport_23
        rw [wy_bd (wy_inn hx (by omega) (by omega)), if_pos c, q28, w8, wq_w_id (x := P 0 28) (by omega) (by omega), if_pos (by omega), wy_bd wy_asd1, if_pos (by decide)]
      exact Or.inr ⟨2, 0, h8, h9, by decide⟩
  · have h8 : f_X8_addReport x S = some (1 + 1, 0, S) := by
      unfold f_X8_addReport
      rw [w1000, wq_w_id hx.1 hx.2]
      by_cases c0 : x < 0
      · rw [if_pos c0]
      · rw [if_neg c0, if_neg (by omega)]
    have h9 : f_X9_addReport x M = some (0, wq_set M 0 42 1) := by
      unfold f_X9_addReport j_X9_addReport_23
      rw [wy_bd (wy_inn hx (by omega) (by omega)), if_neg c]
      split
      · rw [wy_bd (wy_asd0 _), if_pos (by decide)]
      · rw [wy_bd (wy_asd0 _), if_pos (by decide)]
    exact Or.inr ⟨1, 0, h8, h9, by decide⟩
theorem wy_c_addSource (hI : wy_iv P) (hR : wy_R wy_al S P) (hM : wy_M wy_al M P) (hx : wy_rg x) (hy : wy_rg y) : wy_cll wy_k13 P S M (f_X8_addSource x y S) (f_X9_addSource x y M) := by
  have o := wy_o28 hI
  have o5 := wy_o5 hI
  have w3 : wq_w 3 = 3 := rfl
  have bad : j_X9_addSource_20 x y M = some (0, wq_set M 0 42 1) := by
    unfold j_X9_addSource_20 j_X9_addSource_21 j_X9_addSource_42 j_X9_addSource_43
    rw [if_pos (by decide), wy_bd (wy_asd0 _), if_pos (by decide)]
  by_cases h : wy_isR P x
  · by_cases h2 : wy_isT P y
    · obtain ⟨r, rfl⟩ : ∃ r : Nat, x = (r : Int) := ⟨x.toNat, by omega⟩
      have r8 : r < 8 := by omega
      have b13 := wy_b13 hI r
      have q13 : M 13 r = P 13 r := wy_ma hM (by omega)
      obtain ⟨n, hn⟩ : ∃ n : Nat, P 13 r = (n : Int) := ⟨(P 13 r).toNat, by omega⟩
      by_cases c3 : P 13 r < 3
      · have n3 : n < 3 := by omega
        have h8 : f_X8_addSource (r : Int) y S = some (0, (n : Int) + 1 - 1, wq_set (wq_set S (199 + 9 * r + 1) n y) (199 + 9 * r) 3 ((n : Int) + 1)) := by
          unfold f_X8_addSource
          rw [wy_x_fR hI hR hx, if_pos h, wy_bx rfl, wy_x_fT hI hR hy, if_pos h2, wy_bx rfl, Int.toNat_natCast, wy_c13 (wy_R_co hR) r8, w3, wq_w_id (x := P 13 r) (by omega) (by omega), if_pos c3, hn, wy_ix (by omega) (by omega) (by omega), Int.toNat_natCast, wy_lt, wy_lt, wy_set_at (k := 199 + 9 * r) (j := 3) rfl rfl, wy_set_ne (by omega), wy_c13 (wy_R_co hR) r8, hn]
        have h9 : f_X9_addSource (r : Int) y M = some ((n : Int) + 1 - 1, wq_set (wq_set (wq_set M 0 42 0) 14 (3 * r + n) y) 13 r ((n : Int) + 1)) := by
          have k13 : wq_set M 0 42 0 13 r = (n : Int) := by rw [wy_set_ne (by omega), q13, hn]
          unfold f_X9_addSource j_X9_addSource_21 j_X9_addSource_43
          rw [wy_bd (wy_m_isR hI hM hx), if_pos h, if_neg (c := wq_w 1 = 0) (by decide), wy_bd (wy_m_isT hI hM hy), if_pos h2, if_neg (c := wq_w 1 = 0) (by decide), if_neg (c := wq_w 1 = 0) (by decide), wy_ix (by omega) (by omega) (by omega), Int.toNat_natCast, q13, w3, wq_w_id (x := P 13 r) (by omega) (by omega), if_neg (by omega), wy_bd wy_asd2, if_neg (by decide), wy_ix (by omega) (by omega) (by omega), Int.toNat_natCast, k13, wy_ix (by omega) (by omega) (by omega), wy_n3, wy_lt, wy_ix (by omega) (by omega) (by omega), Int.toNat_natCast, wy_ix (by omega) (by omega) (by omega), Int.toNat_natCast, wy_lt, wy_ix (by omega) (by omega) (by omega), Int.toNat_natCast, wy_set_at (k := 13) (j := r) rfl rfl, wy_set_ne (a := 13) (by omega), k13]
        refine Or.inl ⟨wq_set (wq_set P 14 (3 * r + n) y) 13 r ((n : Int) + 1), _, _, _, h8, h9, ?_, wy_iv_addSource hI h2 hn n3, wy_R_set (wy_R_set hR _ (f₀ := 14) (i₀ := 3 * r + n) ⟨by show 3 * r + n < 24; omega, fun e => by omega⟩ (wy_k2r n3).1 (wy_k2r n3).2) _ (f₀ := 13) (i₀ := r) ⟨r8, fun e => by omega⟩ rfl rfl, wy_M_set (wy_M_set (wy_M_42 hM) _ (by omega)) _ (by omega), fun hW t' ht' => ?_⟩
        · rw [wy_set_ne (by omega), wy_set_ne (by omega), wy_42]
        · simp (disch := omega) only [wy_set_ne] at ht' ⊢
          exact hW t' ht'
      · have h8 : f_X8_addSource (r : Int) y S = some (2 + 1, 0, S) := by
          unfold f_X8_addSource
          rw [wy_x_fR hI hR hx, if_pos h, wy_bx rfl, wy_x_fT hI hR hy, if_pos h2, wy_bx rfl, Int.toNat_natCast, wy_c13 (wy_R_co hR) r8, w3, wq_w_id (x := P 13 r) (by omega) (by omega), if_neg c3]
        have h9 : f_X9_addSource (r : Int) y M = some (0, wq_set M 0 42 2) := by
          unfold f_X9_addSource j_X9_addSource_21 j_X9_addSource_42 j_X9_addSource_43
          rw [wy_bd (wy_m_isR hI hM hx), if_pos h, if_neg (c := wq_w 1 = 0) (by decide), wy_bd (wy_m_isT hI hM hy), if_pos h2, if_neg (c := wq_w 1 = 0) (by decide), if_neg (c := wq_w 1 = 0) (by decide), wy_ix (by omega) (by omega) (by omega), Int.toNat_natCast, q13, w3, wq_w_id (x := P 13 r) (by omega) (by omega), if_pos (by omega), wy_bd wy_asd1, if_pos (by decide)]
        exact Or.inr ⟨2, 0, h8, h9, by decide⟩
    · have h8 : f_X8_addSource x y S = some (0 + 1, 0, S) := by
        unfold f_X8_addSource
        rw [wy_x_fR hI hR hx, if_pos h, wy_bx rfl, wy_x_fT hI hR hy, if_neg h2, wy_bx1 rfl]
      have h9 : f_X9_addSource x y M = some (0, wq_set M 0 42 1) := by
        unfold f_X9_addSource
        rw [wy_bd (wy_m_isR hI hM hx), if_pos h, if_neg (c := wq_w 1 = 0) (by decide), wy_bd (wy_m_isT hI hM hy), if_neg h2, if_pos (by decide), bad]
      exact Or.inr ⟨0, 0, h8, h9, by decide⟩
  · have h8 : f_X8_addSource x y S = some (0 + 1, 0, S) := by
      unfold f_X8_addSource
      rw [wy_x_fR hI hR hx, if_neg h, wy_bx1 rfl]
    have h9 : f_X9_addSource x y M = some (0, wq_set M 0 42 1) := by
      unfold f_X9_addSource
      rw [wy_bd (wy_m_isR hI hM hx), if_neg h, if_pos (by decide), bad]
    exact Or.inr ⟨0, 0, h8, h9, by decide⟩
theorem wy_c_drop (hI : wy_iv P) (hR : wy_R wy_al S P) (hM : wy_M wy_al M P) (hx : wy_rg x) : wy_cll wy_k13 P S M (f_X8_dropCondition x S) (f_X9_dropCondition x M) := by
  have o := wy_o28 hI
  by_cases h : wy_isR P x
  · obtain ⟨r, rfl⟩ : ∃ r : Nat, x = (r : Int) := ⟨x.toNat, by omega⟩
    have r8 : r < 8 := by omega
    have b15 := wy_b15 hI r
    have q15 : M 15 r = P 15 r := wy_ma hM (by omega)
    by_cases c : P 15 r = 0
    · have h8 : f_X8_dropCondition (r : Int) S = some (2 + 1, 0, S) := by
        unfold f_X8_dropCondition
        rw [wy_x_fR hI hR hx, if_pos h, wy_bx rfl, Int.toNat_natCast, wy_c15 (wy_R_co hR) r8, wq_w_id (by omega) (by omega), if_pos c]
      have h9 : f_X9_dropCondition (r : Int) M = some (0, wq_set M 0 42 2) := by
        unfold f_X9_dropCondition j_X9_dropCondition_25 j_X9_dropCondition_26
        rw [wy_bd (wy_m_isR hI hM hx), if_pos h, if_neg (c := wq_w 1 = 0) (by decide), wy_ix (by omega) (by omega) (by omega), Int.toNat_natCast, q15, wq_w_id (x := P 15 r) (by omega) (by omega), if_pos (by omega), wy_bd wy_asd1, if_pos (by decide)]
      exact Or.inr ⟨2, 0, h8, h9, by decide⟩
    · obtain ⟨n, hn⟩ : ∃ n : Nat, P 15 r = (n : Int) + 1 := ⟨(P 15 r - 1).toNat, by omega⟩
      have en : (n : Int) + 1 - 1 = (n : Int) := by omega
      have h8 : f_X8_dropCondition (r : Int) S = some (0, (n : Int), wq_set S (199 + 9 * r) 4 (n : Int)) := by
        unfold f_X8_dropCondition
        rw [wy_x_fR hI hR hx, if_pos h, wy_bx rfl, Int.toNat_natCast, wy_c15 (wy_R_co hR) r8, wq_w_id (by omega) (by omega), if_neg c, hn, en, wy_lt, wy_set_at rfl rfl]
      have h9 : f_X9_dropCondition (r : Int) M = some ((n : Int), wq_set (wq_set M 0 42 0) 15 r (n : Int)) := by
        unfold f_X9_dropCondition j_X9_dropCondition_26
        rw [wy_bd (wy_m_isR hI hM hx), if_pos h, if_neg (c := wq_w 1 = 0) (by decide), wy_ix (by omega) (by omega) (by omega), Int.toNat_natCast, q15, wq_w_id (x := P 15 r) (by omega) (by omega), if_neg (by omega), wy_bd wy_asd2, if_neg (by decide), wy_ix (by omega) (by omega) (by omega), Int.toNat_natCast, wy_ix (by omega) (by omega) (by omega), Int.toNat_natCast, wy_lt, wy_ix (by omega) (by omega) (by omega), Int.toNat_natCast, wy_set_at (k := 15) (j := r) rfl rfl, wy_set_ne (by omega), q15, hn, en]
      refine Or.inl ⟨wq_set P 15 r (n : Int), _, _, _, h8, h9, ?_, wy_iv_drop hI hn, wy_R_set hR _ (f₀ := 15) (i₀ := r) ⟨r8, fun e => by omega⟩ rfl rfl, wy_M_set (wy_M_42 hM) _ (by omega), fun hW t' ht' => ?_⟩
      · rw [wy_set_ne (by omega), wy_42]
      · simp (disch := omega) only [wy_set_ne] at ht' ⊢
        exact hW t' ht'
  · have h8 : f_X8_dropCondition x S = some (0 + 1, 0, S) := by
      unfold f_X8_dropCondition
      rw [wy_x_fR hI hR hx, if_neg h, wy_bx1 rfl]
    have h9 : f_X9_dropCondition x M = some (0, wq_set M 0 42 1) := by
      unfold f_X9_dropCondition j_X9_dropCondition_25 j_X9_dropCondition_26
      rw [wy_bd (wy_m_isR hI hM hx), if_neg h, if_pos (by decide), wy_bd (wy_asd0 _), if_pos (by decide)]
    exact Or.inr ⟨0, 0, h8, h9, by decide⟩
theorem wy_c_setDue (hI : wy_iv P) (hR : wy_R wy_al S P) (hM : wy_M wy_al M P) (hx : wy_rg x) (hy : y = 0 ∨ y = 1) : wy_cll wy_k1 P S M (f_X8_setDue x y S) (f_X9_setDue x y M) := by
  have o := wy_o28 hI
  unfold f_X8_setDue f_X9_setDue
  rw [wy_x_fR hI hR hx, wy_bd (wy_m_isR hI hM hx)]
  by_cases h : wy_isR P x
  · obtain ⟨r, rfl⟩ : ∃ r : Nat, x = (r : Int) := ⟨x.toNat, by omega⟩
    have r8 : r < 8 := by omega
    have b12 := wy_b12 hI r
    have hM' := @wy_M_42 P M wy_al 0 hM
    rw [if_pos h, if_pos h, wy_bx rfl, wy_bd wy_asked1, if_neg (by decide), Int.toNat_natCast, wq_gd_t hy, wy_lt, wy_c12 hR r8, wq_gd_t (by omega), wy_ix (by omega) (by omega) (by omega), wy_ix (by omega) (by omega) (by omega), Int.toNat_natCast, wq_gd_t hy, wy_lt, wy_ma hM' (by omega), wq_gd_t (by omega)]
    refine Or.inl ⟨_, _, _, _, rfl, rfl, ?_, wy_iv_due hI h.2 hy, wy_R_set hR _ (f₀ := 12) (i₀ := r) ⟨r8, fun e => by omega⟩ rfl rfl, wy_M_set hM' _ (by omega), fun hW t' ht' => ?_⟩
    · rw [wy_set_ne (by omega), wy_42]
    · simp (disch := omega) only [wy_set_ne] at ht' ⊢
      exact hW t' ht'
  · rw [if_neg h, if_neg h, wy_bx1 rfl, wy_bd wy_asked0, if_pos (by decide)]
    exact Or.inr ⟨0, 0, rfl, rfl, by decide⟩
theorem wy_c_setSum (hI : wy_iv P) (hR : wy_R wy_al S P) (hM : wy_M wy_al M P) (hx : wy_rg x) (hy : wy_rg y) (hz : wy_rg z) : wy_cll wy_k1 P S M (f_X8_setSum x y z S) (f_X9_setSum x y z M) := by
  have o := wy_o28 hI
  have wn : wq_w (-1) = -1 := rfl
  have hM' := @wy_M_42 P M wy_al 0 hM
  have m24 : ∀ r : Nat, r < 8 → j_X9_setSum_24 (r : Int) y z M = some (0, wq_set (wq_set (wq_set M 0 42 0) 22 r y) 23 r z) := fun r r8 => by
    unfold j_X9_setSum_24
    rw [wy_bd wy_asked1, if_neg (by decide), wy_ix (by omega) (by omega) (by omega), Int.toNat_natCast, wy_lt, wy_ix (by omega) (by omega) (by omega), Int.toNat_natCast]
  by_cases h : wy_isR P x
  · obtain ⟨r, rfl⟩ : ∃ r : Nat, x = (r : Int) := ⟨x.toNat, by omega⟩
    have r8 : r < 8 := by omega
    have b13 := wy_b13 hI r
    by_cases cn : y = -1
    · have h8 : f_X8_setSum (r : Int) y z S = some (0, 0, wq_set S (199 + 9 * r) 5 (-1)) := by
        unfold f_X8_setSum
        rw [wy_x_fR hI hR hx, if_pos h, wy_bx rfl, Int.toNat_natCast, cn, if_pos rfl]
      have h9 : f_X9_setSum (r : Int) y z M = some (0, wq_set (wq_set (wq_set M 0 42 0) 22 r (-1)) 23 r z) := by
        unfold f_X9_setSum
        rw [wy_bd (wy_m_isR hI hM hx), if_pos h, if_neg (c := wq_w 1 = 0) (by decide), if_pos (by rw [cn]), m24 r r8, cn]
      refine Or.inl ⟨wq_set (wq_set P 22 r (-1)) 23 r z, _, _, _, h8, h9, ?_, wy_iv_sum0 hI h.2 (by omega), wy_R_23 (wy_R_set hR _ (f₀ := 22) (i₀ := r) ⟨r8, fun e => by omega⟩ rfl rfl), wy_M_set (wy_M_set hM' _ (by omega)) _ (by omega), fun hW t' ht' => ?_⟩
      · rw [wy_set_ne (by omega), wy_set_ne (by omega), wy_42]
      · simp (disch := omega) only [wy_set_ne] at ht' ⊢
        exact hW t' ht'
    · by_cases hk : (0 ≤ y ∧ y < P 13 r) ∧ 0 ≤ z ∧ z < P 1 (P 14 (3 * r + y.toNat)).toNat
      · have b1 := wy_b1 hI (P 14 (3 * r + y.toNat)).toNat
        have hK : wy_isK P (r : Int) y z := ⟨⟨h, by rw [Int.toNat_natCast]; exact hk.1⟩, by rw [Int.toNat_natCast]; exact hk.2⟩
        have h8 : f_X8_setSum (r : Int) y z S = some (0, 0, wq_set (wq_set S (199 + 9 * r) 6 z) (199 + 9 * r) 5 y) := by
          unfold f_X8_setSum
          rw [wy_x_fR hI hR hx, if_pos h, wy_bx rfl, Int.toNat_natCast, wn, wq_w_id hy.1 hy.2, if_neg cn, wy_x_cK hI hR r8 hy hz, if_pos hk, wy_bx rfl, wy_lt]
        have h9 : f_X9_setSum (r : Int) y z M = some (0, wq_set (wq_set (wq_set M 0 42 0) 22 r y) 23 r z) := by
          unfold f_X9_setSum
          rw [wy_bd (wy_m_isR hI hM hx), if_pos h, if_neg (c := wq_w 1 = 0) (by decide), wn, wq_w_id hy.1 hy.2, if_neg cn, wy_bd (wy_m_isK hI hM hx hy hz), if_pos hK, if_neg (c := wq_w 1 = 0) (by decide), m24 r r8]
        refine Or.inl ⟨wq_set (wq_set (wq_set P 28 r z) 22 r y) 23 r z, _, _, _, h8, h9, ?_, wy_iv_sum1 hI h.2 hk.1 (by omega) (by omega), wy_R_23 (wy_R_set (wy_R_set hR _ (f₀ := 28) (i₀ := r) ⟨r8, fun e => by omega⟩ rfl rfl) _ (f₀ := 22) (i₀ := r) ⟨r8, fun e => by omega⟩ rfl rfl), wy_M_set (wy_M_set (wy_M_27 hM' (by omega)) _ (by omega)) _ (by omega), fun hW t' ht' => ?_⟩
        · rw [wy_set_ne (by omega), wy_set_ne (by omega), wy_42]
        · simp (disch := omega) only [wy_set_ne] at ht' ⊢
          exact hW t' ht'
      · have hK : ¬wy_isK P (r : Int) y z := fun h' => hk ⟨by have := h'.1.2; rw [Int.toNat_natCast] at this; exact this, by have := h'.2; rw [Int.toNat_natCast] at this; exact this⟩
        have h8 : f_X8_setSum (r : Int) y z S = some (0 + 1, 0, S) := by
          unfold f_X8_setSum
          rw [wy_x_fR hI hR hx, if_pos h, wy_bx rfl, Int.toNat_natCast, wn, wq_w_id hy.1 hy.2, if_neg cn, wy_x_cK hI hR r8 hy hz, if_neg hk, wy_bx1 rfl]
        have h9 : f_X9_setSum (r : Int) y z M = some (0, wq_set M 0 42 1) := by
          unfold f_X9_setSum
          rw [wy_bd (wy_m_isR hI hM hx), if_pos h, if_neg (c := wq_w 1 = 0) (by decide), wn, wq_w_id hy.1 hy.2, if_neg cn, wy_bd (wy_m_isK hI hM hx hy hz), if_neg hK, if_pos (by decide), wy_bd wy_asked0, if_pos (by decide)]
        exact Or.inr ⟨0, 0, h8, h9, by decide⟩
  · have h8 : f_X8_setSum x y z S = some (0 + 1, 0, S) := by
      unfold f_X8_setSum
      rw [wy_x_fR hI hR hx, if_neg h, wy_bx1 rfl]
    have h9 : f_X9_setSum x y z M = some (0, wq_set M 0 42 1) := by
      unfold f_X9_setSum
      rw [wy_bd (wy_m_isR hI hM hx), if_neg h, if_pos (by decide), wy_bd wy_asked0, if_pos (by decide)]
    exact Or.inr ⟨0, 0, h8, h9, by decide⟩
end
