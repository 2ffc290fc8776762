/-! CALLS that write tables and counts -/
section
variable {P S M : wq_St} {x y z u : Int} {t r : Nat}
theorem wy_M_27 {C : Nat → Prop} {k j : Nat} {v : Int} (h : wy_M C M P) (hk : 27 ≤ k) : wy_M C M (wq_set P k j v) := fun f i h1 h2 h3 h4 => by
  rw [wy_set_ne (by omega)] at h4
  rw [wy_set_ne (by omega)]
  exact h f i h1 h2 h3 h4
theorem wy_R_23 {C : Nat → Prop} {j : Nat} {v : Int} (h : wy_R C S P) : wy_R C S (wq_set P 23 j v) := fun f i hc hi => by
  rw [wy_set_ne (fun e => by
    have h1 := hi.1
    rw [e.1] at h1
    exact absurd h1 (Nat.not_lt_zero _))]
  exact h f i hc hi
theorem wy_c_addTable (hI : wy_iv P) (hR : wy_R wy_al S P) (hM : wy_M wy_al M P) (hx : wy_rg x) : wy_cll wy_k23 P S M (f_X8_addTable x S) (f_X9_addTable x M) := by
  have o := wy_o5 hI
  have w1 : wq_w 1 = 1 := rfl
  have w3 : wq_w 3 = 3 := rfl
  have w4 : wq_w 4 = 4 := rfl
  have q5 : M 0 5 = P 0 5 := wy_ma0 hM (by omega)
  obtain ⟨t, ht⟩ : ∃ t : Nat, P 0 5 = (t : Int) := ⟨(P 0 5).toNat, by omega⟩
  by_cases c : 1 ≤ x ∧ x ≤ 3
  · by_cases c4 : P 0 5 < 4
    · have t4 : t < 4 := by omega
      have h8 : f_X8_addTable x S = some (0, P 0 5 + 1 - 1, wq_set (wq_set S (6 + 48 * t) 4 x) 0 6 (P 0 5 + 1)) := by
        unfold f_X8_addTable
        rw [wy_cT hR, w1, w3, w4, wq_w_id hx.1 hx.2, wq_w_id (x := P 0 5) (by omega) (by omega), if_neg (by omega), if_pos c.2, if_pos c4, wy_ix (by omega) (by omega) (by omega), wy_lt, wy_lt, wy_set_at (k := 0) (j := 6) rfl rfl, wy_set_ne (a := 0) (i := 6) (by omega), wy_cT hR, ht, Int.toNat_natCast]
      have h9 : f_X9_addTable x M = some (P 0 5 + 1 - 1, wq_set (wq_set (wq_set M 0 42 0) 1 t x) 0 5 (P 0 5 + 1)) := by
        unfold f_X9_addTable j_X9_addTable_20
        rw [wy_bd (wy_inn hx (by omega) (by omega)), if_pos c, q5, w4, wq_w_id (x := P 0 5) (by omega) (by omega), if_neg (by omega), wy_bd wy_asd2, if_neg (by decide), wy_set_ne (a := 0) (i := 5) (by omega), q5, wy_ix (by omega) (by omega) (by omega), wy_lt, wy_lt, wy_set_at (k := 0) (j := 5) rfl rfl, wy_set_ne (a := 0) (i := 5) (by omega), wy_set_ne (a := 0) (i := 5) (by omega), q5, ht, Int.toNat_natCast]
      refine Or.inl ⟨wq_set (wq_set P 1 t x) 0 5 (P 0 5 + 1), _, _, _, h8, h9, ?_, wy_iv_addTable hI c ht t4, wy_R_set (wy_R_set hR _ (f₀ := 1) (i₀ := t) ⟨t4, fun e => by omega⟩ rfl rfl) _ (f₀ := 0) (i₀ := 5) ⟨by decide, fun _ => by omega⟩ rfl rfl, wy_M_set (wy_M_set (wy_M_42 hM) _ (by omega)) _ (by omega), fun hW t' ht' => ?_⟩
      · rw [wy_set_ne (by omega), wy_set_ne (by omega), wy_42]
      · rw [wy_set_at rfl rfl] at ht'
        rw [wy_set_ne (by omega)]
        by_cases e : t' = t
        · rw [wy_set_at rfl e]
          exact c.1
        · rw [wy_set_ne (by omega)]
          exact hW t' (by omega)
    · have h8 : f_X8_addTable x S = some (2 + 1, 0, S) := by
        unfold f_X8_addTable
        rw [wy_cT hR, w1, w3, w4, wq_w_id hx.1 hx.2, wq_w_id (x := P 0 5) (by omega) (by omega), if_neg (by omega), if_pos c.2, if_neg c4]
      have h9 : f_X9_addTable x M = some (0, wq_set M 0 42 2) := by
        unfold f_X9_addTable j_X9_addTable_20
        rw [wy_bd (wy_inn hx (by omega) (by omega)), if_pos c, q5, w4, wq_w_id (x := P 0 5) (by omega) (by omega), if_pos (by omega), wy_bd wy_asd1, if_pos (by decide)]
      exact Or.inr ⟨2, 0, h8, h9, by decide⟩
  · have h8 : f_X8_addTable x S = some (1 + 1, 0, S) := by
      unfold f_X8_addTable
      rw [w1, w3, wq_w_id hx.1 hx.2]
      by_cases c0 : x < 1
      · rw [if_pos c0]
      · rw [if_neg c0, if_neg (by omega)]
    have h9 : f_X9_addTable x M = some (0, wq_set M 0 42 1) := by
      unfold f_X9_addTable j_X9_addTable_20
      rw [wy_bd (wy_inn hx (by omega) (by omega)), if_neg c]
      split
      · rw [wy_bd (wy_asd0 _), if_pos (by decide)]
      · rw [wy_bd (wy_asd0 _), if_pos (by decide)]
    exact Or.inr ⟨1, 0, h8, h9, by decide⟩
theorem wy_x_fits (hI : wy_iv P) (hR : wy_R wy_al S P) (ht : t < 4) (hx : wy_rg x) {c : Nat} (hc : c < 3) : f_X7_fits (6 + 48 * t) (c : Int) x S = some ((if 0 ≤ x ∧ x ≤ (if P 1 t ≤ (c : Int) then 0 else 999) then 1 else 0), S) := by
  have b1 := wy_b1 hI t
  have w0 : wq_w 0 = 0 := rfl
  have w999 : wq_w 999 = 999 := rfl
  unfold f_X7_fits
  rw [wy_c1 (wy_R_co hR) ht, w0, w999, wq_w_id hx.1 hx.2, wq_w_id (x := P 1 t) (by omega) (by omega), wq_w_id (x := (c : Int)) (by omega) (by omega)]
  by_cases c0 : x < 0
  · rw [if_pos c0, if_neg (by omega)]
  · rw [if_neg c0]
    by_cases c1 : P 1 t ≤ (c : Int)
    · rw [if_pos c1, if_pos c1]
      by_cases c2 : 0 < x
      · rw [if_pos c2, if_neg (by omega)]
      · rw [if_neg c2, if_pos (by omega)]
    · rw [if_neg c1, if_neg c1]
      by_cases c2 : 999 < x
      · rw [if_pos c2, if_neg (by omega)]
      · rw [if_neg c2, if_pos (by omega)]
/-- values as told -/
def wy_vf (P : wq_St) (t c : Nat) (x : Int) : Prop := 0 ≤ x ∧ x ≤ (if P 1 t ≤ (c : Int) then 0 else 999)
theorem wy_c_insert (hI : wy_iv P) (hW : wy_iW P) (hR : wy_R wy_al S P) (hM : wy_M wy_al M P) (hx : wy_rg x) (hy : wy_rg y) (hz : wy_rg z) (hu : wy_rg u) : wy_cll wy_k123 P S M (f_X8_insert x y z u S) (f_X9_insert x y z u M) := by
  have o := wy_o5 hI
  have w1 : wq_w 1 = 1 := rfl
  have w2 : wq_w 2 = 2 := rfl
  have w40 : wq_w 40 = 40 := rfl
  have r999 : wy_rg 999 := by omega
  have r0 : wy_rg 0 := by omega
  by_cases h : wy_isT P x
  · obtain ⟨t, rfl⟩ : ∃ t : Nat, x = (t : Int) := ⟨x.toNat, by omega⟩
    have t4 : t < 4 := by omega
    have b1 := wy_b1 hI t
    have b2 := wy_b2 hI t
    have hw := hW t h.2
    have q1 : M 1 t = P 1 t := wy_ma hM (by omega)
    have q2 : M 2 t = P 2 t := wy_ma hM (by omega)
    have e0 : (if P 1 t ≤ ((0 : Nat) : Int) then (0 : Int) else 999) = 999 := if_neg (by omega)
    have f0 : f_X7_fits (6 + 48 * t) 0 y S = some ((if 0 ≤ y ∧ y ≤ (if P 1 t ≤ ((0 : Nat) : Int) then 0 else 999) then 1 else 0), S) := wy_x_fits (c := 0) hI hR t4 hy (by omega)
    have f1 : f_X7_fits (6 + 48 * t) 1 z S = some ((if 0 ≤ z ∧ z ≤ (if P 1 t ≤ ((1 : Nat) : Int) then 0 else 999) then 1 else 0), S) := wy_x_fits (c := 1) hI hR t4 hz (by omega)
    have f2 : f_X7_fits (6 + 48 * t) 2 u S = some ((if 0 ≤ u ∧ u ≤ (if P 1 t ≤ ((2 : Nat) : Int) then 0 else 999) then 1 else 0), S) := wy_x_fits (c := 2) hI hR t4 hu (by omega)
    rw [e0] at f0
    have hsec : ∀ (j1 j2 j3 j4 j5 : Int), (if P 1 t ≤ 1 then j_X9_insert_42 j1 j2 j3 j4 j5 0 0 z M else j_X9_insert_42 j1 j2 j3 j4 j5 999 0 z M) = j_X9_insert_42 j1 j2 j3 j4 j5 (if P 1 t ≤ ((1 : Nat) : Int) then 0 else 999) 0 z M := fun j1 j2 j3 j4 j5 => by
      by_cases c : P 1 t ≤ 1
      · rw [if_pos c, if_pos (by omega)]
      · rw [if_neg c, if_neg (by omega)]
    have hthi : ∀ (j1 j2 j3 j4 j5 : Int), (if P 1 t ≤ 2 then j_X9_insert_68 j1 j2 j3 j4 j5 0 0 u M else j_X9_insert_68 j1 j2 j3 j4 j5 999 0 u M) = j_X9_insert_68 j1 j2 j3 j4 j5 (if P 1 t ≤ ((2 : Nat) : Int) then 0 else 999) 0 u M := fun j1 j2 j3 j4 j5 => by
      by_cases c : P 1 t ≤ 2
      · rw [if_pos c, if_pos (by omega)]
      · rw [if_neg c, if_neg (by omega)]
    have rg1 : wy_rg (if P 1 t ≤ ((1 : Nat) : Int) then 0 else 999) := by split <;> omega
    have rg2 : wy_rg (if P 1 t ≤ ((2 : Nat) : Int) then 0 else 999) := by split <;> omega
    -- the model, where a value is not as told
    have bad : j_X9_insert_78 (t : Int) y z u 1 M = some (0, wq_set M 0 42 2) := by
      unfold j_X9_insert_78 j_X9_insert_79 j_X9_insert_106 j_X9_insert_107
      rw [if_neg (by decide), wy_ix (by omega) (by omega) (by omega)]
      split
      · rw [wy_bd (wy_ase1 _), if_pos (by decide)]
      · rw [wy_bd (wy_ase1 _), if_pos (by decide)]
    by_cases c0 : 0 ≤ y ∧ y ≤ 999
    · by_cases c1 : 0 ≤ z ∧ z ≤ (if P 1 t ≤ ((1 : Nat) : Int) then 0 else 999)
      · by_cases c2 : 0 ≤ u ∧ u ≤ (if P 1 t ≤ ((2 : Nat) : Int) then 0 else 999)
        · have h8a : f_X8_insert (t : Int) y z u S = if wq_w (S (6 + 48 * t) 5) < wq_w 40 then wq_bd (f_X7_put (6 + 48 * t) y z u S) fun r9 S10 => some (0, r9, S10) else some (2 + 1, 0, S) := by
            unfold f_X8_insert
            rw [wy_x_fT hI hR hx, if_pos h, wy_bx rfl, Int.toNat_natCast, wy_bd f0, if_pos c0, if_neg (by decide), wy_bd f1, if_pos c1, if_neg (by decide), wy_bd f2, if_pos c2, if_neg (by decide)]
          have h9a : f_X9_insert (t : Int) y z u M = j_X9_insert_79 (t : Int) y z u 1 1 M := by
            unfold f_X9_insert
            rw [wy_bd (wy_m_isT hI hM hx), if_pos h, if_neg (by decide), wy_bd (wy_inn hy r0 r999), if_pos c0, if_neg (by decide), wy_ix (by omega) (by omega) (by omega), Int.toNat_natCast, q1, w1, wq_w_id (x := P 1 t) (by omega) (by omega), hsec]
            unfold j_X9_insert_42
            rw [wy_bd (wy_inn hz r0 rg1), if_pos c1, if_neg (by decide), wy_ix (by omega) (by omega) (by omega), Int.toNat_natCast, q1, w2, wq_w_id (x := P 1 t) (by omega) (by omega), hthi]
            unfold j_X9_insert_68
            rw [wy_bd (wy_inn hu r0 rg2), if_pos c2, if_neg (by decide)]
          rw [h8a, h9a, wy_c2 (wy_R_co hR) t4, w40, wq_w_id (x := P 2 t) (by omega) (by omega)]
          unfold j_X9_insert_79
          rw [if_neg (c := wq_w 1 = 0) (by decide), wy_ix (by omega) (by omega) (by omega), Int.toNat_natCast, q2, w40, wq_w_id (x := P 2 t) (by omega) (by omega)]
          by_cases c40 : P 2 t < 40
          · obtain ⟨i, hi⟩ : ∃ i : Nat, P 2 t = (i : Int) := ⟨(P 2 t).toNat, by omega⟩
            have i40 : i < 40 := by omega
            have cb : z ≤ 999 ∧ u ≤ 999 := by
              constructor
              · have := c1.2
                split at this <;> omega
              · have := c2.2
                split at this <;> omega
            have h8 : f_X7_put (6 + 48 * t) y z u S = some ((i : Int), wq_set (wq_set (wq_set (wq_set (wq_set (wq_set S (6 + 48 * t + 3 + i) 0 y) (6 + 48 * t + 3 + i) 1 z) (6 + 48 * t + 3 + i) 2 u) (6 + 48 * t + 43) i 1) (6 + 48 * t) 5 ((i : Int) + 1)) (6 + 48 * t) 6 (P 27 t + 1)) := by
              unfold f_X7_put
              rw [wy_c2 (wy_R_co hR) t4, hi, wy_ix (by omega) (by omega) (by omega), wy_ix0, wy_lt, wy_ix (by omega) (by omega) (by omega), wy_ix1, wy_lt, wy_ix (by omega) (by omega) (by omega), wy_ix2, wy_lt, wy_ix (by omega) (by omega) (by omega), wy_lt, wy_lt, wy_lt, Int.toNat_natCast]
              have k5 : wq_set (wq_set (wq_set (wq_set S (6 + 48 * t + 3 + i) 0 y) (6 + 48 * t + 3 + i) 1 z) (6 + 48 * t + 3 + i) 2 u) (6 + 48 * t + 43) i 1 (6 + 48 * t) 5 = (i : Int) := by
                rw [wy_set_ne (by omega), wy_set_ne (by omega), wy_set_ne (by omega), wy_set_ne (by omega), wy_c2 (wy_R_co hR) t4, hi]
              have k6 : ∀ v, wq_set (wq_set (wq_set (wq_set (wq_set S (6 + 48 * t + 3 + i) 0 y) (6 + 48 * t + 3 + i) 1 z) (6 + 48 * t + 3 + i) 2 u) (6 + 48 * t + 43) i 1) (6 + 48 * t) 5 v (6 + 48 * t) 6 = P 27 t := fun v => by
                rw [wy_set_ne (by omega), wy_set_ne (by omega), wy_set_ne (by omega), wy_set_ne (by omega), wy_set_ne (by omega), wy_c27 (wy_R_co hR) t4]
              rw [k5, k6]
            have e1 : (40 * (t : Int) + (i : Int)).toNat = 40 * t + i := by omega
            have e2 : (3 * (40 * (t : Int) + (i : Int))).toNat = 3 * (40 * t + i) := by omega
            have e3 : (3 * (40 * (t : Int) + (i : Int)) + 1).toNat = 3 * (40 * t + i) + 1 := by omega
            have e4 : (3 * (40 * (t : Int) + (i : Int)) + 2).toNat = 3 * (40 * t + i) + 2 := by omega
            have h9 : j_X9_insert_107 (t : Int) y z u 1 1 1 M = some ((i : Int) + 1 - 1, wq_set (wq_set (wq_set (wq_set (wq_set (wq_set M 0 42 0) 3 (40 * t + i) 1) 4 (3 * (40 * t + i)) y) 4 (3 * (40 * t + i) + 1) z) 4 (3 * (40 * t + i) + 2) u) 2 t ((i : Int) + 1)) := by
              unfold j_X9_insert_107
              have k2 : wq_set M 0 42 0 2 t = (i : Int) := by rw [wy_set_ne (by omega), q2, hi]
              rw [wy_bd wy_ase3, if_neg (by decide), wy_ix (by omega) (by omega) (by omega), Int.toNat_natCast, k2, wy_ix (by omega) (by omega) (by omega), e1, wy_lt, wy_ix (by omega) (by omega) (by omega), e2, wy_lt, wy_ix (by omega) (by omega) (by omega), e3, wy_lt, wy_ix (by omega) (by omega) (by omega), e4, wy_lt, wy_ix (by omega) (by omega) (by omega), Int.toNat_natCast, wy_ix (by omega) (by omega) (by omega), Int.toNat_natCast, wy_lt, wy_ix (by omega) (by omega) (by omega), Int.toNat_natCast, wy_set_at (k := 2) (j := t) rfl rfl, wy_set_ne (a := 2) (by omega), wy_set_ne (a := 2) (by omega), wy_set_ne (a := 2) (by omega), wy_set_ne (a := 2) (by omega), k2]
            have h3 : P 3 (40 * t + i) = 0 ∨ P 3 (40 * t + i) ≠ 0 := by omega
            rw [if_pos c40, if_neg (by omega), wy_bd h8, h9]
            refine Or.inl ⟨wq_set (wq_set (wq_set (wq_set (wq_set (wq_set P 4 (3 * (40 * t + i)) y) 4 (3 * (40 * t + i) + 1) z) 4 (3 * (40 * t + i) + 2) u) 3 (40 * t + i) 1) 2 t ((i : Int) + 1)) 27 t (P 27 t + 1), _, _, _, rfl, by rw [show (i : Int) + 1 - 1 = (i : Int) by omega], ?_, wy_iv_put hI t4 hi i40 c0 ⟨c1.1, cb.1⟩ ⟨c2.1, cb.2⟩, ?_, ?_, fun _ t' ht' => ?_⟩
            · rw [wy_set_ne (by omega), wy_set_ne (by omega), wy_set_ne (by omega), wy_set_ne (by omega), wy_set_ne (by omega), wy_42]
            · have hka : ∀ c : Nat, c < 3 → 6 + 48 * t + 3 + i = wy_ka 4 (3 * (40 * t + i) + c) ∧ c = wy_io 4 (3 * (40 * t + i) + c) ∧ wy_in 4 (3 * (40 * t + i) + c) := fun c hc => by
                refine ⟨?_, ?_, ?_, fun e => by omega⟩
                · show _ = 6 + 48 * ((3 * (40 * t + i) + c) / 120) + 3 + (3 * (40 * t + i) + c) / 3 % 40
                  omega
                · show c = (3 * (40 * t + i) + c) % 3
                  omega
                · show 3 * (40 * t + i) + c < 480
                  omega
              have k0 := hka 0 (by omega)
              have k1 := hka 1 (by omega)
              have k2 := hka 2 (by omega)
              have k3 : 6 + 48 * t + 43 = wy_ka 3 (40 * t + i) := by
                show _ = 6 + 48 * ((40 * t + i) / 40) + 43
                omega
              have k3' : i = wy_io 3 (40 * t + i) := by
                show i = (40 * t + i) % 40
                omega
              refine wy_R_set (wy_R_set (wy_R_set (wy_R_set (wy_R_set (wy_R_set hR _ (f₀ := 4) (i₀ := 3 * (40 * t + i)) k0.2.2 k0.1 k0.2.1) _ (f₀ := 4) (i₀ := 3 * (40 * t + i) + 1) k1.2.2 k1.1 k1.2.1) _ (f₀ := 4) (i₀ := 3 * (40 * t + i) + 2) k2.2.2 k2.1 k2.2.1) _ (f₀ := 3) (i₀ := 40 * t + i) ⟨by show 40 * t + i < 160; omega, fun e => by omega⟩ k3 k3') _ (f₀ := 2) (i₀ := t) ⟨t4, fun e => by omega⟩ rfl rfl) _ (f₀ := 27) (i₀ := t) ⟨t4, fun e => by omega⟩ rfl rfl
            · refine wy_M_27 ?_ (by omega)
              refine wy_M_set ?_ _ (by omega)
              rw [wy_set_cm (k := 3) (by omega), wy_set_cm (k := 3) (by omega), wy_set_cm (k := 3) (by omega)]
              exact wy_M_set (wy_M_set (wy_M_set (wy_M_set (wy_M_42 hM) _ (by omega)) _ (by omega)) _ (by omega)) _ (by omega)
            · simp (disch := omega) only [wy_set_ne] at ht' ⊢
              exact hW t' ht'
          · rw [if_neg c40, if_pos (by omega)]
            refine Or.inr ⟨2, 0, rfl, ?_, by decide⟩
            unfold j_X9_insert_106 j_X9_insert_107
            rw [wy_bd wy_ase2, if_pos (by decide)]
            rfl
        · have h8 : f_X8_insert (t : Int) y z u S = some (1 + 1, 0, S) := by
            unfold f_X8_insert
            rw [wy_x_fT hI hR hx, if_pos h, wy_bx rfl, Int.toNat_natCast, wy_bd f0, if_pos c0, if_neg (by decide), wy_bd f1, if_pos c1, if_neg (by decide), wy_bd f2, if_neg c2, if_pos (by decide)]
          have h9 : f_X9_insert (t : Int) y z u M = some (0, wq_set M 0 42 2) := by
            unfold f_X9_insert
            rw [wy_bd (wy_m_isT hI hM hx), if_pos h, if_neg (by decide), wy_bd (wy_inn hy r0 r999), if_pos c0, if_neg (by decide), wy_ix (by omega) (by omega) (by omega), Int.toNat_natCast, q1, w1, wq_w_id (x := P 1 t) (by omega) (by omega), hsec]
            unfold j_X9_insert_42
            rw [wy_bd (wy_inn hz r0 rg1), if_pos c1, if_neg (by decide), wy_ix (by omega) (by omega) (by omega), Int.toNat_natCast, q1, w2, wq_w_id (x := P 1 t) (by omega) (by omega), hthi]
            unfold j_X9_insert_68
            rw [wy_bd (wy_inn hu r0 rg2), if_neg c2, if_pos (by decide), bad]
          exact Or.inr ⟨1, 0, h8, h9, by decide⟩
      · have h8 : f_X8_insert (t : Int) y z u S = some (1 + 1, 0, S) := by
          unfold f_X8_insert
          rw [wy_x_fT hI hR hx, if_pos h, wy_bx rfl, Int.toNat_natCast, wy_bd f0, if_pos c0, if_neg (by decide), wy_bd f1, if_neg c1, if_pos (by decide)]
        have h9 : f_X9_insert (t : Int) y z u M = some (0, wq_set M 0 42 2) := by
          unfold f_X9_insert
          rw [wy_bd (wy_m_isT hI hM hx), if_pos h, if_neg (by decide), wy_bd (wy_inn hy r0 r999), if_pos c0, if_neg (by decide), wy_ix (by omega) (by omega) (by omega), Int.toNat_natCast, q1, w1, wq_w_id (x := P 1 t) (by omega) (by omega), hsec]
          unfold j_X9_insert_42
          rw [wy_bd (wy_inn hz r0 rg1), if_neg c1, if_pos (by decide), bad]
        exact Or.inr ⟨1, 0, h8, h9, by decide⟩
    · have h8 : f_X8_insert (t : Int) y z u S = some (1 + 1, 0, S) := by
        unfold f_X8_insert
        rw [wy_x_fT hI hR hx, if_pos h, wy_bx rfl, Int.toNat_natCast, wy_bd f0, if_neg c0, if_pos (by decide)]
      have h9 : f_X9_insert (t : Int) y z u M = some (0, wq_set M 0 42 2) := by
        unfold f_X9_insert
        rw [wy_bd (wy_m_isT hI hM hx), if_pos h, if_neg (by decide), wy_bd (wy_inn hy r0 r999), if_neg c0, if_pos (by decide), bad]
      exact Or.inr ⟨1, 0, h8, h9, by decide⟩
  · have h8 : f_X8_insert x y z u S = some (0 + 1, 0, S) := by
      unfold f_X8_insert
      rw [wy_x_fT hI hR hx, if_neg h, wy_bx1 rfl]
    have h9 : f_X9_insert x y z u M = some (0, wq_set M 0 42 1) := by
      unfold f_X9_insert j_X9_insert_78 j_X9_insert_79 j_X9_insert_106 j_X9_insert_107
      rw [wy_bd (wy_m_isT hI hM hx), if_neg h, if_pos (by decide), if_pos (by decide), wy_bd (wy_ase0 _ _), if_pos (by decide)]
    exact Or.inr ⟨0, 0, h8, h9, by decide⟩
theorem wy_c_delete (hI : wy_iv P) (hR : wy_R wy_al S P) (hM : wy_M wy_al M P) (hx : wy_rg x) (hy : wy_rg y) : wy_cll wy_k1 P S M (f_X8_delete x y S) (f_X9_delete x y M) := by
  have o := wy_o5 hI
  have b2 := wy_b2 hI x.toNat
  unfold f_X8_delete f_X9_delete
  rw [wy_x_fT hI hR hx, wy_bd (wy_m_isW hI hM hx hy)]
  by_cases h : wy_isT P x
  · rw [if_pos h, wy_bx rfl, wy_x_cW hI hR (by omega) hy]
    by_cases h2 : 0 ≤ y ∧ y < P 2 x.toNat ∧ P 3 (40 * x.toNat + y.toNat) ≠ 0
    · have hh : wy_isW P x y := ⟨h, h2⟩
      have h2o := h2
      obtain ⟨t, rfl⟩ : ∃ t : Nat, x = (t : Int) := ⟨x.toNat, by omega⟩
      obtain ⟨i, rfl⟩ : ∃ i : Nat, y = (i : Int) := ⟨y.toNat, by omega⟩
      rw [Int.toNat_natCast, Int.toNat_natCast] at h2
      rw [Int.toNat_natCast] at b2
      have t4 : t < 4 := by omega
      have i40 : i < 40 := by omega
      have hI2 := wy_iv_del hI t4 h2.2.1 h2.2.2
      have hM2 : wy_M wy_al (wq_set (wq_set M 0 42 0) 3 (40 * t + i) 0) (wq_set (wq_set P 3 (40 * t + i) 0) 27 t (P 27 t - 1)) := wy_M_27 (wy_M_set (wy_M_42 hM) _ (by omega)) (by omega)
      have hro := wy_m_rowsOf hI2 (fun j => wy_ma hM2 (by omega)) (fun j => wy_ma hM2 (by omega)) t4
      have hip := hI2.2.2.2.2.2.2.2.2.2 t t4
      rw [wy_set_at rfl rfl] at hip
      rw [← hip] at hro
      have k3 : 6 + 48 * t + 43 = wy_ka 3 (40 * t + i) := by
        show _ = 6 + 48 * ((40 * t + i) / 40) + 43
        omega
      have k3' : i = wy_io 3 (40 * t + i) := by
        show i = (40 * t + i) % 40
        omega
      rw [if_pos h2o, if_pos hh, wy_bx rfl, wy_bd wy_asked1, if_neg (by decide), wy_ix (by omega) (by omega) (by omega), wy_lt, wy_lt, wy_ix (by omega) (by omega) (by omega), wy_lt, Int.toNat_natCast, Int.toNat_natCast, wy_n40, wy_bd hro, wy_set_at (k := 6 + 48 * t) (j := 6) rfl rfl, wy_set_ne (by omega), wy_c27 (wy_R_co hR) t4]
      refine Or.inl ⟨_, _, _, _, rfl, rfl, ?_, hI2, wy_R_set (wy_R_set hR _ (f₀ := 3) (i₀ := 40 * t + i) ⟨by show 40 * t + i < 160; omega, fun e => by omega⟩ k3 k3') _ (f₀ := 27) (i₀ := t) ⟨t4, fun e => by omega⟩ rfl rfl, hM2, fun hW t' ht' => ?_⟩
      · rw [wy_set_ne (by omega), wy_42]
      · simp (disch := omega) only [wy_set_ne] at ht' ⊢
        exact hW t' ht'
    · rw [if_neg h2, if_neg (fun h' : wy_isW P x y => h2 h'.2), wy_bx1 rfl, wy_bd wy_asked0, if_pos (by decide)]
      exact Or.inr ⟨0, 0, rfl, rfl, by decide⟩
  · rw [if_neg h, if_neg (fun h' : wy_isW P x y => h h'.1), wy_bx1 rfl, wy_bd wy_asked0, if_pos (by decide)]
    exact Or.inr ⟨0, 0, rfl, rfl, by decide⟩
theorem wy_c_setIndex (hI : wy_iv P) (hR : wy_R wy_al S P) (hM : wy_M wy_al M P) (hx : wy_rg x) (hy : wy_rg y) (hz : z = 0 ∨ z = 1) : wy_cll wy_k1 P S M (f_X8_setIndex x y z S) (f_X9_setIndex x y z M) := by
  have o := wy_o5 hI
  have b1 := wy_b1 hI x.toNat
  unfold f_X8_setIndex f_X9_setIndex
  rw [wy_x_fC hI hR hx hy, wy_bd (wy_m_isC hI hM hx hy)]
  by_cases h : wy_isC P x y
  · have e : (3 * x + y).toNat = 3 * x.toNat + y.toNat := by omega
    have b5 := wy_b5 hI (3 * x.toNat + y.toNat)
    have hM' := @wy_M_42 P M wy_al 0 hM
    have hx4 : x.toNat < 4 := by omega
    have hy3 : y.toNat < 3 := by omega
    rw [if_pos h, if_pos h, wy_bx rfl, wy_bd wy_asked1, if_neg (by decide), wq_gd_t hz, wy_lt, wy_c5 (wy_R_co hR) hx4 hy3, wq_gd_t (by omega), wy_ix (by omega) (by omega) (by omega), wy_ix (by omega) (by omega) (by omega), wq_gd_t hz, wy_lt, e, wy_ma hM' (by omega), wq_gd_t (by omega)]
    refine Or.inl ⟨_, _, _, _, rfl, rfl, ?_, wy_iv_5 hI hz, wy_R_set hR _ (f₀ := 5) (i₀ := 3 * x.toNat + y.toNat) ⟨by show 3 * x.toNat + y.toNat < 12; omega, fun e => by omega⟩ (wy_k3 (by omega)).symm rfl, wy_M_set hM' _ (by omega), fun hW t' ht' => ?_⟩
    · rw [wy_set_ne (by omega), wy_42]
    · simp (disch := omega) only [wy_set_ne] at ht' ⊢
      exact hW t' ht'
  · rw [if_neg h, if_neg h, wy_bx1 rfl, wy_bd wy_asked0, if_pos (by decide)]
    exact Or.inr ⟨0, 0, rfl, rfl, by decide⟩
theorem wy_x_css (hx : wy_rg x) : f_X8_checkSampleStep x S = if 1 ≤ x ∧ x ≤ 10 then some (0, 0, S) else some (2, 0, S) := by
  have w1 : wq_w 1 = 1 := rfl
  have w10 : wq_w 10 = 10 := rfl
  unfold f_X8_checkSampleStep
  rw [w1, w10, wq_w_id hx.1 hx.2]
  by_cases c0 : x < 1
  · rw [if_pos c0, if_neg (by omega)]
  · rw [if_neg c0]
    by_cases c1 : x ≤ 10
    · rw [if_pos c1, if_pos (by omega)]
    · rw [if_neg c1, if_neg (by omega)]
theorem wy_c_renew (hI : wy_iv P) (hR : wy_R wy_al S P) (hM : wy_M wy_al M P) (hx : wy_rg x) (hy : wy_rg y) : wy_cll wy_k12 P S M (f_X8_renew x y S) (f_X9_renew x y M) := by
  have o := wy_o5 hI
  unfold f_X8_renew f_X9_renew
  rw [wy_x_fT hI hR hx, wy_bd (wy_m_isT hI hM hx), wy_bd (wy_inn hy (by omega) (by omega))]
  by_cases h : wy_isT P x
  · obtain ⟨t, rfl⟩ : ∃ t : Nat, x = (t : Int) := ⟨x.toNat, by omega⟩
    have t4 : t < 4 := by omega
    rw [if_pos h, if_pos h, wy_bx rfl, Int.toNat_natCast, wy_x_css hy]
    by_cases c : 1 ≤ y ∧ y ≤ 10
    · have hM' := @wy_M_42 P M wy_al 0 hM
      obtain ⟨S1, e1, hR1⟩ := wy_x_renew hI hR t4 c.1 c.2
      obtain ⟨M1, g1, hM1, hf⟩ := wy_m_renews hI hM' t4 c.1 c.2
      have hs := wy_m_sample (M := M1) hI (fun j => by rw [hf 2 j (by omega)]; exact wy_ma hM' (by omega)) (fun j => by rw [hf 3 j (by omega)]; exact wy_ma hM' (by omega)) t4 c.1 c.2
      rw [if_pos c, if_pos c, wy_bx rfl, wy_bd e1, wy_bd wy_asd2, if_neg (by decide), wy_bd g1, wy_bd hs]
      refine Or.inl ⟨_, _, S1, M1, rfl, rfl, ?_, wy_iv_rn hI c.1 _, hR1, hM1, fun hW t' ht' => ?_⟩
      · rw [hf 0 42 (by omega), wy_42]
      · rw [wy_rn_o (by omega)] at ht' ⊢
        exact hW t' ht'
    · rw [if_neg c, if_neg c, wy_bx1 rfl, wy_bd wy_asd1, if_pos (by decide)]
      exact Or.inr ⟨1, 0, rfl, rfl, by decide⟩
  · rw [if_neg h, if_neg h, wy_bx1 rfl, wy_bd (wy_asd0 _), if_pos (by decide)]
    exact Or.inr ⟨0, 0, rfl, rfl, by decide⟩
theorem wy_c_setStep (hI : wy_iv P) (hR : wy_R wy_al S P) (hM : wy_M wy_al M P) (hx : wy_rg x) : wy_cll wy_k2 P S M (f_X8_setStep x S) (f_X9_setStep x M) := by
  unfold f_X8_setStep f_X9_setStep
  rw [wy_x_css hx, wy_bd (wy_inn hx (by omega) (by omega))]
  by_cases c : 1 ≤ x ∧ x ≤ 10
  · have hM' := @wy_M_42 P M wy_al 0 hM
    rw [if_pos c, if_pos c, wy_bx rfl, wy_lt, wy_bd wy_asked1, if_neg (by decide), wy_lt, wy_cS hR, wy_ma0 hM' (i := 11) (by omega)]
    refine Or.inl ⟨_, _, _, _, rfl, rfl, ?_, wy_iv_step hI c, wy_R_set hR _ (f₀ := 0) (i₀ := 11) ⟨by decide, fun _ => by omega⟩ rfl rfl, wy_M_set hM' _ (by omega), fun hW t' ht' => ?_⟩
    · rw [wy_set_ne (by omega), wy_42]
    · simp (disch := omega) only [wy_set_ne] at ht' ⊢
      exact hW t' ht'
  · rw [if_neg c, if_neg c, wy_bx1 rfl, wy_bd wy_asked0, if_pos (by decide)]
    exact Or.inr ⟨1, 0, rfl, rfl, by decide⟩
end
