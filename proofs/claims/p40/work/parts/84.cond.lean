/-! CALLS that add conditions -/
section
variable {P S M : wq_St} {x y z u v : Int} {t r : Nat}
theorem wy_x_room (hI : wy_iv P) (hR : wy_R wy_al S P) {r : Nat} (hr : r < 8) : f_X8_checkConditionRoom (199 + 9 * r) S = if P 15 r < 6 then some (0, 0, S) else some (3, 0, S) := by
  have b15 := wy_b15 hI r
  have w6 : wq_w 6 = 6 := rfl
  unfold f_X8_checkConditionRoom
  rw [wy_c15 (wy_R_co hR) hr, w6, wq_w_id (by omega) (by omega)]
theorem wy_in_c {f r n : Nat} (hf : f = 16 ∨ f = 17 ∨ f = 18 ∨ f = 19 ∨ f = 20 ∨ f = 21) (hr : r < 8) (hn : n < 6) : wy_in f (6 * r + n) := by
  refine ⟨?_, fun e => by omega⟩
  rcases hf with rfl | rfl | rfl | rfl | rfl | rfl <;> (show 6 * r + n < 48; omega)
theorem wy_isK_r (h : wy_isR P (r : Int)) : wy_isK P (r : Int) y z ↔ (0 ≤ y ∧ y < P 13 r) ∧ 0 ≤ z ∧ z < P 1 (P 14 (3 * r + y.toNat)).toNat := by
  unfold wy_isK
  rw [Int.toNat_natCast]
  exact ⟨fun h' => ⟨h'.1.2, h'.2⟩, fun h' => ⟨⟨h, h'.1⟩, h'.2⟩⟩
theorem wy_m_adds {n : Nat} {k s c : Int} (r8 : r < 8) (n6 : n < 6) (h15 : M 15 r = (n : Int)) : f_X9_adds (r : Int) k s c M = some ((n : Int) + 1 - 1, wq_set (wq_set (wq_set (wq_set M 16 (6 * r + n) k) 17 (6 * r + n) s) 18 (6 * r + n) c) 15 r ((n : Int) + 1)) := by
  unfold f_X9_adds
  rw [wy_ix (by omega) (by omega) (by omega), Int.toNat_natCast, h15, wy_ix (by omega) (by omega) (by omega), wy_n6, wy_lt, wy_ix (by omega) (by omega) (by omega), wy_n6, wy_lt, wy_ix (by omega) (by omega) (by omega), wy_n6, wy_lt, wy_ix (by omega) (by omega) (by omega), Int.toNat_natCast, wy_ix (by omega) (by omega) (by omega), Int.toNat_natCast, wy_lt, wy_ix (by omega) (by omega) (by omega), Int.toNat_natCast, wy_set_at (k := 15) (j := r) rfl rfl, wy_set_ne (a := 15) (by omega), wy_set_ne (a := 15) (by omega), wy_set_ne (a := 15) (by omega), h15]
theorem wy_c_addCondition (hI : wy_iv P) (hR : wy_R wy_al S P) (hM : wy_M wy_al M P) (hx : wy_rg x) (hy : wy_rg y) (hz : wy_rg z) (hu : wy_rg u) (hv : wy_rg v) : wy_cll wy_k123 P S M (f_X8_addCondition x y z u v S) (f_X9_addCondition x y z u v M) := by
  have o := wy_o28 hI
  have w2 : wq_w 2 = 2 := rfl
  have w6 : wq_w 6 = 6 := rfl
  have w999 : wq_w 999 = 999 := rfl
  have hM' := @wy_M_42 P M wy_al 0 hM
  have h9a : f_X9_addCondition x y z u v M = j_X9_addCondition_39 x y z u v (if wy_isK P x y z then 1 else 0) (if (0 ≤ u ∧ u ≤ 2) ∧ 0 ≤ v ∧ v ≤ 999 then 1 else 0) (if wy_isK P x y z then 1 else 0) M := by
    unfold f_X9_addCondition j_X9_addCondition_38
    rw [wy_bd (wy_m_isK hI hM hx hy hz), wy_bd (wy_inn hu (by omega) (by omega))]
    by_cases cu : 0 ≤ u ∧ u ≤ 2
    · rw [if_pos cu, if_neg (c := wq_w 1 = 0) (by decide), wy_bd (wy_inn hv (by omega) (by omega))]
      by_cases cv : 0 ≤ v ∧ v ≤ 999
      · rw [if_pos cv, if_neg (c := wq_w 1 = 0) (by decide), if_pos (⟨cu, cv⟩ : (0 ≤ u ∧ u ≤ 2) ∧ 0 ≤ v ∧ v ≤ 999)]
      · rw [if_neg cv, if_pos (c := wq_w 0 = 0) (by decide), if_neg (fun h' : (0 ≤ u ∧ u ≤ 2) ∧ 0 ≤ v ∧ v ≤ 999 => cv h'.2)]
    · rw [if_neg cu, if_pos (c := wq_w 0 = 0) (by decide), if_neg (fun h' : (0 ≤ u ∧ u ≤ 2) ∧ 0 ≤ v ∧ v ≤ 999 => cu h'.1)]
  rw [h9a]
  unfold j_X9_addCondition_39 j_X9_addCondition_59 j_X9_addCondition_60
  by_cases h : wy_isR P x
  · obtain ⟨r, rfl⟩ : ∃ r : Nat, x = (r : Int) := ⟨x.toNat, by omega⟩
    have r8 : r < 8 := by omega
    have b13 := wy_b13 hI r
    have b15 := wy_b15 hI r
    have q15 : M 15 r = P 15 r := wy_ma hM (by omega)
    by_cases hk : (0 ≤ y ∧ y < P 13 r) ∧ 0 ≤ z ∧ z < P 1 (P 14 (3 * r + y.toNat)).toNat
    · have hK := (wy_isK_r h).mpr hk
      have b1 := wy_b1 hI (P 14 (3 * r + y.toNat)).toNat
      rw [if_pos hK, if_neg (c := wq_w 1 = 0) (by decide), wy_ix (by omega) (by omega) (by omega), Int.toNat_natCast, q15, w6, wq_w_id (x := P 15 r) (by omega) (by omega)]
      by_cases cuv : (0 ≤ u ∧ u ≤ 2) ∧ 0 ≤ v ∧ v ≤ 999
      · rw [if_pos cuv]
        by_cases c6 : P 15 r < 6
        · obtain ⟨n, hn⟩ : ∃ n : Nat, P 15 r = (n : Int) := ⟨(P 15 r).toNat, by omega⟩
          have n6 : n < 6 := by omega
          have h8 : f_X8_addCondition (r : Int) y z u v S = some (0, (n : Int) + 1 - 1, wq_set (wq_set (wq_set (wq_set (wq_set S (199 + 9 * r + 3 + n) 1 y) (199 + 9 * r + 3 + n) 2 z) (199 + 9 * r + 3 + n) 0 u) (199 + 9 * r + 3 + n) 3 v) (199 + 9 * r) 4 ((n : Int) + 1)) := by
            unfold f_X8_addCondition
            rw [wy_x_fR hI hR hx, if_pos h, wy_bx rfl, Int.toNat_natCast, wy_x_cK hI hR r8 hy hz, if_pos hk, wy_bx rfl, w2, w999, wq_w_id hu.1 hu.2, wq_w_id hv.1 hv.2, if_neg (by omega), if_pos cuv.1.2, if_neg (by omega), if_pos cuv.2.2, wy_x_room hI hR r8, if_pos c6, wy_bx rfl, wy_c15 (wy_R_co hR) r8, hn, wy_ix (by omega) (by omega) (by omega), Int.toNat_natCast]
            unfold f_X1_compare
            rw [wy_lt, wy_lt, wy_lt, wy_bd rfl, wy_lt, wy_set_at (k := 199 + 9 * r) (j := 4) rfl rfl, wy_set_ne (by omega), wy_set_ne (by omega), wy_set_ne (by omega), wy_set_ne (by omega), wy_c15 (wy_R_co hR) r8, hn]
          have k15 : wq_set M 0 42 0 15 r = (n : Int) := by rw [wy_set_ne (by omega), q15, hn]
          have k15' : ∀ j w, wq_set (wq_set M 0 42 0) 19 j w 15 r = (n : Int) := fun j w => by rw [wy_set_ne (by omega), k15]
          rw [if_neg (by omega), wy_bd wy_ase3, if_neg (by decide), wy_ix (by omega) (by omega) (by omega), Int.toNat_natCast, k15, wy_ix (by omega) (by omega) (by omega), wy_n6, wy_lt, wy_bd (wy_m_adds r8 n6 (k15' _ _)), h8]
          refine Or.inl ⟨_, _, _, _, rfl, rfl, ?_, wy_iv_addCondition (so := y) (co := z) (ki := u) (nu := v) hI hk.1 (by omega) (by omega) cuv.1 cuv.2 hn n6, ?_, ?_, fun hW t' ht' => ?_⟩
          · rw [wy_set_ne (by omega), wy_set_ne (by omega), wy_set_ne (by omega), wy_set_ne (by omega), wy_set_ne (by omega), wy_42]
          · exact wy_R_set (wy_R_set (wy_R_set (wy_R_set (wy_R_set hR _ (f₀ := 17) (i₀ := 6 * r + n) (wy_in_c (by omega) r8 n6) (wy_k6 n6).symm rfl) _ (f₀ := 18) (i₀ := 6 * r + n) (wy_in_c (by omega) r8 n6) (wy_k6 n6).symm rfl) _ (f₀ := 16) (i₀ := 6 * r + n) (wy_in_c (by omega) r8 n6) (wy_k6 n6).symm rfl) _ (f₀ := 19) (i₀ := 6 * r + n) (wy_in_c (by omega) r8 n6) (wy_k6 n6).symm rfl) _ (f₀ := 15) (i₀ := r) ⟨r8, fun e => by omega⟩ rfl rfl
          · rw [wy_set_cm (k := 16) (k' := 19) (by omega), wy_set_cm (k := 18) (k' := 19) (by omega), wy_set_cm (k := 17) (k' := 19) (by omega), wy_set_cm (k := 18) (k' := 16) (by omega), wy_set_cm (k := 17) (k' := 16) (by omega)]
            exact wy_M_set (wy_M_set (wy_M_set (wy_M_set (wy_M_set hM' _ (by omega)) _ (by omega)) _ (by omega)) _ (by omega)) _ (by omega)
          · simp (disch := omega) only [wy_set_ne] at ht' ⊢
            exact hW t' ht'
        · have h8 : f_X8_addCondition (r : Int) y z u v S = some (2 + 1, 0, S) := by
            unfold f_X8_addCondition
            rw [wy_x_fR hI hR hx, if_pos h, wy_bx rfl, Int.toNat_natCast, wy_x_cK hI hR r8 hy hz, if_pos hk, wy_bx rfl, w2, w999, wq_w_id hu.1 hu.2, wq_w_id hv.1 hv.2, if_neg (by omega), if_pos cuv.1.2, if_neg (by omega), if_pos cuv.2.2, wy_x_room hI hR r8, if_neg c6, wy_bx1 rfl]
          rw [if_pos (by omega), wy_bd wy_ase2, if_pos (by decide)]
          exact Or.inr ⟨2, 0, h8, rfl, by decide⟩
      · have h8 : f_X8_addCondition (r : Int) y z u v S = some (1 + 1, 0, S) := by
          unfold f_X8_addCondition
          rw [wy_x_fR hI hR hx, if_pos h, wy_bx rfl, Int.toNat_natCast, wy_x_cK hI hR r8 hy hz, if_pos hk, wy_bx rfl, w2, w999, wq_w_id hu.1 hu.2, wq_w_id hv.1 hv.2]
          by_cases c0 : u < 0
          · rw [if_pos c0]
          · rw [if_neg c0]
            by_cases c1 : u ≤ 2
            · rw [if_pos c1]
              by_cases c2 : v < 0
              · rw [if_pos c2]
              · rw [if_neg c2, if_neg (by omega)]
            · rw [if_neg c1]
        rw [if_neg cuv]
        refine Or.inr ⟨1, 0, h8, ?_, by decide⟩
        split
        · rw [wy_bd (wy_ase1 _), if_pos (by decide)]
          rfl
        · rw [wy_bd (wy_ase1 _), if_pos (by decide)]
          rfl
    · have h8 : f_X8_addCondition (r : Int) y z u v S = some (0 + 1, 0, S) := by
        unfold f_X8_addCondition
        rw [wy_x_fR hI hR hx, if_pos h, wy_bx rfl, Int.toNat_natCast, wy_x_cK hI hR r8 hy hz, if_neg hk, wy_bx1 rfl]
      rw [if_neg (fun h' => hk ((wy_isK_r h).mp h')), if_pos (c := wq_w 0 = 0) (by decide), wy_bd (wy_ase0 _ _), if_pos (by decide)]
      exact Or.inr ⟨0, 0, h8, rfl, by decide⟩
  · have h8 : f_X8_addCondition x y z u v S = some (0 + 1, 0, S) := by
      unfold f_X8_addCondition
      rw [wy_x_fR hI hR hx, if_neg h, wy_bx1 rfl]
    rw [if_neg (fun h' : wy_isK P x y z => h h'.1.1), if_pos (c := wq_w 0 = 0) (by decide), wy_bd (wy_ase0 _ _), if_pos (by decide)]
    exact Or.inr ⟨0, 0, h8, rfl, by decide⟩
theorem wy_c_addJoin (hI : wy_iv P) (hR : wy_R wy_al S P) (hM : wy_M wy_al M P) (hx : wy_rg x) (hy : wy_rg y) (hz : wy_rg z) (hu : wy_rg u) (hv : wy_rg v) : wy_cll wy_k123 P S M (f_X8_addJoin x y z u v S) (f_X9_addJoin x y z u v M) := by
  have o := wy_o28 hI
  have w6 : wq_w 6 = 6 := rfl
  have hM' := @wy_M_42 P M wy_al 0 hM
  have bad : j_X9_addJoin_26 x y z u v M = some (0, wq_set M 0 42 1) := by
    unfold j_X9_addJoin_26 j_X9_addJoin_27 j_X9_addJoin_43 j_X9_addJoin_63 j_X9_addJoin_64
    split
    · rw [if_pos (c := wq_w 0 = 0) (by decide), wy_bd (wy_ase0 _ _), if_pos (by decide)]
    · rw [if_pos (c := wq_w 0 = 0) (by decide), wy_bd (wy_ase0 _ _), if_pos (by decide)]
  by_cases h : wy_isR P x
  · obtain ⟨r, rfl⟩ : ∃ r : Nat, x = (r : Int) := ⟨x.toNat, by omega⟩
    have r8 : r < 8 := by omega
    have b13 := wy_b13 hI r
    have b15 := wy_b15 hI r
    have q15 : M 15 r = P 15 r := wy_ma hM (by omega)
    by_cases hk : (0 ≤ y ∧ y < P 13 r) ∧ 0 ≤ z ∧ z < P 1 (P 14 (3 * r + y.toNat)).toNat
    · have hK := (wy_isK_r h).mpr hk
      have b1 := wy_b1 hI (P 14 (3 * r + y.toNat)).toNat
      by_cases hl : (0 ≤ u ∧ u < P 13 r) ∧ 0 ≤ v ∧ v < P 1 (P 14 (3 * r + u.toNat)).toNat
      · have hL := (wy_isK_r h).mpr hl
        have b1' := wy_b1 hI (P 14 (3 * r + u.toNat)).toNat
        have h9a : f_X9_addJoin (r : Int) y z u v M = j_X9_addJoin_27 (r : Int) y z u v 1 M := by
          unfold f_X9_addJoin
          rw [wy_bd (wy_m_isK hI hM hx hy hz), if_pos hK, if_neg (c := wq_w 1 = 0) (by decide), wy_bd (wy_m_isK hI hM hx hu hv), if_pos hL, if_neg (c := wq_w 1 = 0) (by decide)]
        rw [h9a]
        unfold j_X9_addJoin_27 j_X9_addJoin_43 j_X9_addJoin_63
        rw [wq_w_id hy.1 hy.2, wq_w_id hu.1 hu.2]
        by_cases cyu : y = u
        · have h8 : f_X8_addJoin (r : Int) y z u v S = some (1 + 1, 0, S) := by
            unfold f_X8_addJoin
            rw [wy_x_fR hI hR hx, if_pos h, wy_bx rfl, Int.toNat_natCast, wy_x_cK hI hR r8 hy hz, if_pos hk, wy_bx rfl, wy_x_cK hI hR r8 hu hv, if_pos hl, wy_bx rfl, wq_w_id hy.1 hy.2, wq_w_id hu.1 hu.2, if_pos cyu]
          rw [if_pos cyu, if_neg (c := wq_w 1 = 0) (by decide), wy_ix (by omega) (by omega) (by omega)]
          refine Or.inr ⟨1, 0, h8, ?_, by decide⟩
          unfold j_X9_addJoin_64
          split
          · rw [wy_bd (wy_ase1 _), if_pos (by decide)]
            rfl
          · rw [wy_bd (wy_ase1 _), if_pos (by decide)]
            rfl
        · rw [if_neg cyu, if_neg (c := wq_w 1 = 0) (by decide), wy_ix (by omega) (by omega) (by omega), Int.toNat_natCast, q15, w6, wq_w_id (x := P 15 r) (by omega) (by omega)]
          by_cases c6 : P 15 r < 6
          · obtain ⟨n, hn⟩ : ∃ n : Nat, P 15 r = (n : Int) := ⟨(P 15 r).toNat, by omega⟩
            have n6 : n < 6 := by omega
            have h8 : f_X8_addJoin (r : Int) y z u v S = some (0, (n : Int) + 1 - 1, wq_set (wq_set (wq_set (wq_set (wq_set (wq_set S (199 + 9 * r + 3 + n) 1 y) (199 + 9 * r + 3 + n) 2 z) (199 + 9 * r + 3 + n) 0 3) (199 + 9 * r + 3 + n) 4 u) (199 + 9 * r + 3 + n) 5 v) (199 + 9 * r) 4 ((n : Int) + 1)) := by
              unfold f_X8_addJoin
              rw [wy_x_fR hI hR hx, if_pos h, wy_bx rfl, Int.toNat_natCast, wy_x_cK hI hR r8 hy hz, if_pos hk, wy_bx rfl, wy_x_cK hI hR r8 hu hv, if_pos hl, wy_bx rfl, wq_w_id hy.1 hy.2, wq_w_id hu.1 hu.2, if_neg cyu, wy_x_room hI hR r8, if_pos c6, wy_bx rfl, wy_c15 (wy_R_co hR) r8, hn, wy_ix (by omega) (by omega) (by omega), Int.toNat_natCast]
              unfold f_X1_join
              rw [wy_lt, wy_lt, wy_lt, wy_lt, wy_bd rfl, wy_lt, wy_set_at (k := 199 + 9 * r) (j := 4) rfl rfl, wy_set_ne (by omega), wy_set_ne (by omega), wy_set_ne (by omega), wy_set_ne (by omega), wy_set_ne (by omega), wy_c15 (wy_R_co hR) r8, hn]
            have k15 : wq_set M 0 42 0 15 r = (n : Int) := by rw [wy_set_ne (by omega), q15, hn]
            have k15a : ∀ j w, wq_set (wq_set M 0 42 0) 20 j w 15 r = (n : Int) := fun j w => by rw [wy_set_ne (by omega), k15]
            have k15b : ∀ j w j' w', wq_set (wq_set (wq_set M 0 42 0) 20 j w) 21 j' w' 15 r = (n : Int) := fun j w j' w' => by rw [wy_set_ne (by omega), k15a]
            unfold j_X9_addJoin_64
            rw [if_neg (by omega), wy_bd wy_ase3, if_neg (by decide), wy_ix (by omega) (by omega) (by omega), Int.toNat_natCast, k15, wy_ix (by omega) (by omega) (by omega), wy_n6, wy_lt, wy_ix (by omega) (by omega) (by omega), Int.toNat_natCast, k15a, wy_ix (by omega) (by omega) (by omega), wy_n6, wy_lt, wy_bd (wy_m_adds r8 n6 (k15b _ _ _ _)), h8]
            refine Or.inl ⟨_, _, _, _, rfl, rfl, ?_, wy_iv_addJoin (so := y) (co := z) (ot := u) (oc := v) hI hk.1 (by omega) (by omega) hl.1 (by omega) (by omega) cyu hn n6, ?_, ?_, fun hW t' ht' => ?_⟩
            · rw [wy_set_ne (by omega), wy_set_ne (by omega), wy_set_ne (by omega), wy_set_ne (by omega), wy_set_ne (by omega), wy_set_ne (by omega), wy_42]
            · exact wy_R_set (wy_R_set (wy_R_set (wy_R_set (wy_R_set (wy_R_set hR _ (f₀ := 17) (i₀ := 6 * r + n) (wy_in_c (by omega) r8 n6) (wy_k6 n6).symm rfl) _ (f₀ := 18) (i₀ := 6 * r + n) (wy_in_c (by omega) r8 n6) (wy_k6 n6).symm rfl) _ (f₀ := 16) (i₀ := 6 * r + n) (wy_in_c (by omega) r8 n6) (wy_k6 n6).symm rfl) _ (f₀ := 20) (i₀ := 6 * r + n) (wy_in_c (by omega) r8 n6) (wy_k6 n6).symm rfl) _ (f₀ := 21) (i₀ := 6 * r + n) (wy_in_c (by omega) r8 n6) (wy_k6 n6).symm rfl) _ (f₀ := 15) (i₀ := r) ⟨r8, fun e => by omega⟩ rfl rfl
            · rw [wy_set_cm (k := 16) (k' := 20) (by omega), wy_set_cm (k := 18) (k' := 20) (by omega), wy_set_cm (k := 17) (k' := 20) (by omega), wy_set_cm (k := 16) (k' := 21) (by omega), wy_set_cm (k := 18) (k' := 21) (by omega), wy_set_cm (k := 17) (k' := 21) (by omega), wy_set_cm (k := 18) (k' := 16) (by omega), wy_set_cm (k := 17) (k' := 16) (by omega)]
              exact wy_M_set (wy_M_set (wy_M_set (wy_M_set (wy_M_set (wy_M_set hM' _ (by omega)) _ (by omega)) _ (by omega)) _ (by omega)) _ (by omega)) _ (by omega)
            · simp (disch := omega) only [wy_set_ne] at ht' ⊢
              exact hW t' ht'
          · have h8 : f_X8_addJoin (r : Int) y z u v S = some (2 + 1, 0, S) := by
              unfold f_X8_addJoin
              rw [wy_x_fR hI hR hx, if_pos h, wy_bx rfl, Int.toNat_natCast, wy_x_cK hI hR r8 hy hz, if_pos hk, wy_bx rfl, wy_x_cK hI hR r8 hu hv, if_pos hl, wy_bx rfl, wq_w_id hy.1 hy.2, wq_w_id hu.1 hu.2, if_neg cyu, wy_x_room hI hR r8, if_neg c6, wy_bx1 rfl]
            unfold j_X9_addJoin_64
            rw [if_pos (by omega), wy_bd wy_ase2, if_pos (by decide)]
            exact Or.inr ⟨2, 0, h8, rfl, by decide⟩
      · have h8 : f_X8_addJoin (r : Int) y z u v S = some (0 + 1, 0, S) := by
          unfold f_X8_addJoin
          rw [wy_x_fR hI hR hx, if_pos h, wy_bx rfl, Int.toNat_natCast, wy_x_cK hI hR r8 hy hz, if_pos hk, wy_bx rfl, wy_x_cK hI hR r8 hu hv, if_neg hl, wy_bx1 rfl]
        have h9 : f_X9_addJoin (r : Int) y z u v M = some (0, wq_set M 0 42 1) := by
          unfold f_X9_addJoin
          rw [wy_bd (wy_m_isK hI hM hx hy hz), if_pos hK, if_neg (c := wq_w 1 = 0) (by decide), wy_bd (wy_m_isK hI hM hx hu hv), if_neg (fun h' => hl ((wy_isK_r h).mp h')), if_pos (c := wq_w 0 = 0) (by decide), bad]
        exact Or.inr ⟨0, 0, h8, h9, by decide⟩
    · have h8 : f_X8_addJoin (r : Int) y z u v S = some (0 + 1, 0, S) := by
        unfold f_X8_addJoin
        rw [wy_x_fR hI hR hx, if_pos h, wy_bx rfl, Int.toNat_natCast, wy_x_cK hI hR r8 hy hz, if_neg hk, wy_bx1 rfl]
      have h9 : f_X9_addJoin (r : Int) y z u v M = some (0, wq_set M 0 42 1) := by
        unfold f_X9_addJoin
        rw [wy_bd (wy_m_isK hI hM hx hy hz), if_neg (fun h' => hk ((wy_isK_r h).mp h')), if_pos (c := wq_w 0 = 0) (by decide), bad]
      exact Or.inr ⟨0, 0, h8, h9, by decide⟩
  · have h8 : f_X8_addJoin x y z u v S = some (0 + 1, 0, S) := by
      unfold f_X8_addJoin
      rw [wy_x_fR hI hR hx, if_neg h, wy_bx1 rfl]
    have h9 : f_X9_addJoin x y z u v M = some (0, wq_set M 0 42 1) := by
      unfold f_X9_addJoin
      rw [wy_bd (wy_m_isK hI hM hx hy hz), if_neg (fun h' : wy_isK P x y z => h h'.1.1), if_pos (c := wq_w 0 = 0) (by decide), bad]
    exact Or.inr ⟨0, 0, h8, h9, by decide⟩
end
