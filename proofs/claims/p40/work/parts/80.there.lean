/-! CALLS: what there is, on both sides -/
abbrev wy_isT (P : wq_St) (x : Int) : Prop := 0 ≤ x ∧ x < P 0 5
abbrev wy_isC (P : wq_St) (x y : Int) : Prop := (0 ≤ x ∧ x < P 0 5) ∧ 0 ≤ y ∧ y < P 1 x.toNat
abbrev wy_isW (P : wq_St) (x y : Int) : Prop := (0 ≤ x ∧ x < P 0 5) ∧ 0 ≤ y ∧ y < P 2 x.toNat ∧ P 3 (40 * x.toNat + y.toNat) ≠ 0
abbrev wy_isR (P : wq_St) (x : Int) : Prop := 0 ≤ x ∧ x < P 0 28
abbrev wy_isS (P : wq_St) (x y : Int) : Prop := (0 ≤ x ∧ x < P 0 28) ∧ 0 ≤ y ∧ y < P 13 x.toNat
abbrev wy_isK (P : wq_St) (x y z : Int) : Prop := ((0 ≤ x ∧ x < P 0 28) ∧ 0 ≤ y ∧ y < P 13 x.toNat) ∧ 0 ≤ z ∧ z < P 1 (P 14 (3 * x.toNat + y.toNat)).toNat
abbrev wy_rg (x : Int) : Prop := -2147483648 ≤ x ∧ x < 2147483648
section
variable {P S M : wq_St} {x y z : Int} {t r : Nat}
theorem wy_inn {a b : Int} (hx : wy_rg x) (ha : wy_rg a) (hb : wy_rg b) : f_X9_in x a b M = some ((if a ≤ x ∧ x ≤ b then 1 else 0), M) := by
  by_cases h : a ≤ x ∧ x ≤ b
  · rw [if_pos h]
    exact wy_in1 hx ha hb h
  · rw [if_neg h]
    exact wy_in0 hx ha hb h
theorem wy_01 {c : Prop} [Decidable c] : (if c then (1 : Int) else 0) = 0 ∨ (if c then (1 : Int) else 0) = 1 := by
  by_cases h : c
  · rw [if_pos h]
    exact Or.inr rfl
  · rw [if_neg h]
    exact Or.inl rfl
theorem wy_ifc {c d : Prop} [Decidable c] [Decidable d] (h : c ↔ d) : (if c then (1 : Int) else 0) = if d then 1 else 0 := by
  by_cases hc : c
  · rw [if_pos hc, if_pos (h.mp hc)]
  · rw [if_neg hc, if_neg (fun hd => hc (h.mpr hd))]
theorem wy_w01 {c : Prop} [Decidable c] : (wq_w (if c then (1 : Int) else 0) = 0) ↔ ¬c := by
  by_cases h : c
  · rw [if_pos h]
    exact ⟨fun h' => absurd h' (by decide), fun h' => absurd h h'⟩
  · rw [if_neg h]
    exact ⟨fun _ => h, fun _ => rfl⟩
theorem wy_o5 (hI : wy_iv P) : 0 ≤ P 0 5 ∧ P 0 5 ≤ 4 := ⟨hI.2.1.1, hI.2.1.2.1⟩
theorem wy_o11 (hI : wy_iv P) : 1 ≤ P 0 11 ∧ P 0 11 ≤ 10 := ⟨hI.2.1.2.2.1, hI.2.1.2.2.2.1⟩
theorem wy_o28 (hI : wy_iv P) : 0 ≤ P 0 28 ∧ P 0 28 ≤ 8 := hI.2.1.2.2.2.2
/-! the model -/
theorem wy_m_isT (hI : wy_iv P) (hM : wy_M wy_al M P) (hx : wy_rg x) : f_X9_isTable x M = some ((if wy_isT P x then 1 else 0), M) := by
  have o := wy_o5 hI
  unfold f_X9_isTable
  rw [wy_ma0 hM (i := 5) (by omega), wy_bd (wy_inn hx (by omega) (by omega)), wq_gd_t wy_01, wy_ifc (d := wy_isT P x) (by omega)]
theorem wy_m_isR (hI : wy_iv P) (hM : wy_M wy_al M P) (hx : wy_rg x) : f_X9_isReport x M = some ((if wy_isR P x then 1 else 0), M) := by
  have o := wy_o28 hI
  unfold f_X9_isReport
  rw [wy_ma0 hM (i := 28) (by omega), wy_bd (wy_inn hx (by omega) (by omega)), wq_gd_t wy_01, wy_ifc (d := wy_isR P x) (by omega)]
theorem wy_m_isC (hI : wy_iv P) (hM : wy_M wy_al M P) (hx : wy_rg x) (hy : wy_rg y) : f_X9_isColumn x y M = some ((if wy_isC P x y then 1 else 0), M) := by
  have o := wy_o5 hI
  have b1 := wy_b1 hI x.toNat
  unfold f_X9_isColumn
  rw [wy_bd (wy_m_isT hI hM hx)]
  by_cases h : wy_isT P x
  · rw [if_neg (fun h' => wy_w01.mp h' h), wy_ix (by omega) (by omega) (by omega), wy_ma hM (by omega), wy_bd (wy_inn hy (by omega) (by omega))]
    by_cases h2 : 0 ≤ y ∧ y < P 1 x.toNat
    · rw [if_neg (fun h' => wy_w01.mp h' (by omega)), if_pos ⟨h, h2⟩]
    · rw [if_pos (wy_w01.mpr (by omega)), if_neg (fun h' => h2 h'.2)]
  · rw [if_pos (wy_w01.mpr h), if_neg (fun h' => h h'.1)]
theorem wy_m_isW (hI : wy_iv P) (hM : wy_M wy_al M P) (hx : wy_rg x) (hy : wy_rg y) : f_X9_isRow x y M = some ((if wy_isW P x y then 1 else 0), M) := by
  have o := wy_o5 hI
  have b2 := wy_b2 hI x.toNat
  have b3 := wy_b3 hI (40 * x.toNat + y.toNat)
  unfold f_X9_isRow
  rw [wy_bd (wy_m_isT hI hM hx)]
  by_cases h : wy_isT P x
  · rw [if_neg (fun h' => wy_w01.mp h' h), wy_ix (by omega) (by omega) (by omega), wy_ma hM (by omega), wy_bd (wy_inn hy (by omega) (by omega))]
    by_cases h2 : 0 ≤ y ∧ y < P 2 x.toNat
    · have e : (40 * x + y).toNat = 40 * x.toNat + y.toNat := by omega
      rw [if_neg (fun h' => wy_w01.mp h' (by omega)), wy_ix (by omega) (by omega) (by omega), e, wy_ma hM (by omega), wq_w_id (by omega) (by omega)]
      by_cases h3 : P 3 (40 * x.toNat + y.toNat) = 0
      · rw [if_pos h3, if_neg (fun h' => h'.2.2.2 h3)]
      · rw [if_neg h3, if_pos ⟨h, h2.1, h2.2, h3⟩]
    · rw [if_pos (wy_w01.mpr (by omega)), if_neg (fun h' => h2 ⟨h'.2.1, h'.2.2.1⟩)]
  · rw [if_pos (wy_w01.mpr h), if_neg (fun h' => h h'.1)]
theorem wy_m_isS (hI : wy_iv P) (hM : wy_M wy_al M P) (hx : wy_rg x) (hy : wy_rg y) : f_X9_isSource x y M = some ((if wy_isS P x y then 1 else 0), M) := by
  have o := wy_o28 hI
  have b13 := wy_b13 hI x.toNat
  unfold f_X9_isSource
  rw [wy_bd (wy_m_isR hI hM hx)]
  by_cases h : wy_isR P x
  · rw [if_neg (fun h' => wy_w01.mp h' h), wy_ix (by omega) (by omega) (by omega), wy_ma hM (by omega), wy_bd (wy_inn hy (by omega) (by omega))]
    by_cases h2 : 0 ≤ y ∧ y < P 13 x.toNat
    · rw [if_neg (fun h' => wy_w01.mp h' (by omega)), if_pos ⟨h, h2⟩]
    · rw [if_pos (wy_w01.mpr (by omega)), if_neg (fun h' => h2 h'.2)]
  · rw [if_pos (wy_w01.mpr h), if_neg (fun h' => h h'.1)]
theorem wy_tT (hI : wy_iv P) {r j : Nat} (h : (j : Int) < P 13 r) : 0 ≤ P 14 (3 * r + j) ∧ P 14 (3 * r + j) < P 0 5 := ⟨(wy_b14 hI _).1, hI.2.2.2.2.2.1 r j h⟩
theorem wy_m_isK (hI : wy_iv P) (hM : wy_M wy_al M P) (hx : wy_rg x) (hy : wy_rg y) (hz : wy_rg z) : f_X9_isColumnOf x y z M = some ((if wy_isK P x y z then 1 else 0), M) := by
  have o := wy_o28 hI
  have o5 := wy_o5 hI
  have b13 := wy_b13 hI x.toNat
  unfold f_X9_isColumnOf
  rw [wy_bd (wy_m_isS hI hM hx hy)]
  by_cases h : wy_isS P x y
  · have e : (3 * x + y).toNat = 3 * x.toNat + y.toNat := by omega
    have hT := @wy_tT P hI x.toNat y.toNat (by omega)
    rw [if_neg (fun h' => wy_w01.mp h' h), wy_ix (by omega) (by omega) (by omega), e, wy_ma hM (by omega), wy_bd (wy_m_isC hI hM (by omega) hz)]
    by_cases h2 : 0 ≤ z ∧ z < P 1 (P 14 (3 * x.toNat + y.toNat)).toNat
    · rw [if_neg (fun h' => wy_w01.mp h' ⟨hT, h2⟩), if_pos ⟨h, h2⟩]
    · rw [if_pos (wy_w01.mpr (fun h' => h2 h'.2)), if_neg (fun h' => h2 h'.2)]
  · rw [if_pos (wy_w01.mpr h), if_neg (fun h' => h h'.1)]
/-! the class -/
theorem wy_x_fT (hI : wy_iv P) (hR : wy_R wy_al S P) (hx : wy_rg x) : f_X8_findTable x S = if wy_isT P x then some (0, 6 + 48 * x.toNat, S) else some (1, 0, S) := by
  have o := wy_o5 hI
  unfold f_X8_findTable
  rw [wy_cT hR, wq_w_id hx.1 hx.2, wq_w_id (x := P 0 5) (by omega) (by omega)]
  by_cases c0 : x < 0
  · rw [if_pos c0, if_neg (by omega)]
  · rw [if_neg c0]
    by_cases c1 : x < P 0 5
    · rw [if_pos c1, if_pos (by omega), wy_ix (by omega) (by omega) (by omega)]
    · rw [if_neg c1, if_neg (by omega)]
theorem wy_x_fR (hI : wy_iv P) (hR : wy_R wy_al S P) (hx : wy_rg x) : f_X8_findReport x S = if wy_isR P x then some (0, 199 + 9 * x.toNat, S) else some (1, 0, S) := by
  have o := wy_o28 hI
  unfold f_X8_findReport
  rw [wy_cN hR, wq_w_id hx.1 hx.2, wq_w_id (x := P 0 28) (by omega) (by omega)]
  by_cases c0 : x < 0
  · rw [if_pos c0, if_neg (by omega)]
  · rw [if_neg c0]
    by_cases c1 : x < P 0 28
    · rw [if_pos c1, if_pos (by omega), wy_ix (by omega) (by omega) (by omega)]
    · rw [if_neg c1, if_neg (by omega)]
theorem wy_x_cC (hI : wy_iv P) (hR : wy_R wy_al S P) (ht : t < 4) (hy : wy_rg y) : f_X8_checkColumn (6 + 48 * t) y S = if 0 ≤ y ∧ y < P 1 t then some (0, 0, S) else some (1, 0, S) := by
  have b1 := wy_b1 hI t
  unfold f_X8_checkColumn
  rw [wy_c1 (wy_R_co hR) ht, wq_w_id hy.1 hy.2, wq_w_id (x := P 1 t) (by omega) (by omega)]
  by_cases c0 : y < 0
  · rw [if_pos c0, if_neg (by omega)]
  · rw [if_neg c0]
    by_cases c1 : y < P 1 t
    · rw [if_pos c1, if_pos (by omega)]
    · rw [if_neg c1, if_neg (by omega)]
theorem wy_x_cS (hI : wy_iv P) (hR : wy_R wy_al S P) (hr : r < 8) (hy : wy_rg y) : f_X8_checkPlanStep (199 + 9 * r) y S = if 0 ≤ y ∧ y < P 13 r then some (0, 0, S) else some (1, 0, S) := by
  have b1 := wy_b13 hI r
  unfold f_X8_checkPlanStep
  rw [wy_c13 (wy_R_co hR) hr, wq_w_id hy.1 hy.2, wq_w_id (x := P 13 r) (by omega) (by omega)]
  by_cases c0 : y < 0
  · rw [if_pos c0, if_neg (by omega)]
  · rw [if_neg c0]
    by_cases c1 : y < P 13 r
    · rw [if_pos c1, if_pos (by omega)]
    · rw [if_neg c1, if_neg (by omega)]
theorem wy_x_cW (hI : wy_iv P) (hR : wy_R wy_al S P) (ht : t < 4) (hy : wy_rg y) : f_X8_checkRow (6 + 48 * t) y S = if 0 ≤ y ∧ y < P 2 t ∧ P 3 (40 * t + y.toNat) ≠ 0 then some (0, 0, S) else some (1, 0, S) := by
  have b2 := wy_b2 hI t
  have b3 := wy_b3 hI (40 * t + y.toNat)
  unfold f_X8_checkRow
  rw [wy_c2 (wy_R_co hR) ht, wq_w_id hy.1 hy.2, wq_w_id (x := P 2 t) (by omega) (by omega)]
  by_cases c0 : y < 0
  · rw [if_pos c0, if_neg (by omega)]
  · rw [if_neg c0]
    by_cases c1 : P 2 t ≤ y
    · rw [if_pos c1, if_neg (by omega)]
    · rw [if_neg c1, wy_ix (by omega) (by omega) (by omega), wy_c3 (wy_R_co hR) ht (by omega), wq_w_id (by omega) (by omega)]
      by_cases c3 : P 3 (40 * t + y.toNat) = 0
      · rw [if_pos c3, if_neg (fun h => h.2.2 c3)]
      · rw [if_neg c3, if_pos ⟨by omega, by omega, c3⟩]
theorem wy_x_fC (hI : wy_iv P) (hR : wy_R wy_al S P) (hx : wy_rg x) (hy : wy_rg y) : f_X8_findColumn x y S = if wy_isC P x y then some (0, 6 + 48 * x.toNat + 45 + y.toNat, S) else some (1, 0, S) := by
  have o := wy_o5 hI
  have b1 := wy_b1 hI x.toNat
  unfold f_X8_findColumn
  rw [wy_x_fT hI hR hx]
  by_cases h : wy_isT P x
  · rw [if_pos h, wy_bx rfl, wy_x_cC hI hR (by omega) hy]
    by_cases h2 : 0 ≤ y ∧ y < P 1 x.toNat
    · rw [if_pos h2, wy_bx rfl, wy_ix (by omega) (by omega) (by omega), if_pos ⟨h, h2⟩]
    · rw [if_neg h2, wy_bx1 rfl, if_neg (fun h' => h2 h'.2)]
  · rw [if_neg h, wy_bx1 rfl, if_neg (fun h' => h h'.1)]
theorem wy_x_cK (hI : wy_iv P) (hR : wy_R wy_al S P) (hr : r < 8) (hy : wy_rg y) (hz : wy_rg z) : f_X8_checkSourceColumn (199 + 9 * r) y z S = if (0 ≤ y ∧ y < P 13 r) ∧ 0 ≤ z ∧ z < P 1 (P 14 (3 * r + y.toNat)).toNat then some (0, 0, S) else some (1, 0, S) := by
  have o := wy_o5 hI
  have b13 := wy_b13 hI r
  unfold f_X8_checkSourceColumn
  rw [wy_c13 (wy_R_co hR) hr, wq_w_id hy.1 hy.2, wq_w_id (x := P 13 r) (by omega) (by omega)]
  by_cases c0 : y < 0
  · rw [if_pos c0, if_neg (by omega)]
  · rw [if_neg c0]
    by_cases c1 : y < P 13 r
    · have hT := @wy_tT P hI r y.toNat (by omega)
      rw [if_pos c1, wy_ix (by omega) (by omega) (by omega), wy_c14 (wy_R_co hR) hr (by omega), wy_ix (by omega) (by omega) (by omega), wy_x_cC hI hR (by omega) hz]
      by_cases h2 : 0 ≤ z ∧ z < P 1 (P 14 (3 * r + y.toNat)).toNat
      · rw [if_pos h2, wy_bx rfl, if_pos ⟨by omega, h2⟩]
      · rw [if_neg h2, wy_bx1 rfl, if_neg (fun h' => h2 h'.2)]
    · rw [if_neg c1, if_neg (by omega)]
end
