/-! ONE STORE: what each call of the law answers and leaves -/
def wz_put (t : Nat) (y z u : Int) (P : wq_St) : wq_St := wq_set (wq_set (wq_set (wq_set (wq_set (wq_set P 4 (3 * (40 * t + (P 2 t).toNat)) y) 4 (3 * (40 * t + (P 2 t).toNat) + 1) z) 4 (3 * (40 * t + (P 2 t).toNat) + 2) u) 3 (40 * t + (P 2 t).toNat) 1) 2 t (((P 2 t).toNat : Int) + 1)) 27 t (P 27 t + 1)
def wz_del (t i : Nat) (P : wq_St) : wq_St := wq_set (wq_set P 3 (40 * t + i) 0) 27 t (P 27 t - 1)
def wz_asr (r : Nat) (y : Int) (P : wq_St) : wq_St := wq_set (wq_set P 14 (3 * r + (P 13 r).toNat) y) 13 r (((P 13 r).toNat : Int) + 1)
def wz_acd (r : Nat) (y z u v : Int) (P : wq_St) : wq_St := wq_set (wq_set (wq_set (wq_set (wq_set P 17 (6 * r + (P 15 r).toNat) y) 18 (6 * r + (P 15 r).toNat) z) 16 (6 * r + (P 15 r).toNat) u) 19 (6 * r + (P 15 r).toNat) v) 15 r (((P 15 r).toNat : Int) + 1)
def wz_ajn (r : Nat) (y z u v : Int) (P : wq_St) : wq_St := wq_set (wq_set (wq_set (wq_set (wq_set (wq_set P 17 (6 * r + (P 15 r).toNat) y) 18 (6 * r + (P 15 r).toNat) z) 16 (6 * r + (P 15 r).toNat) 3) 20 (6 * r + (P 15 r).toNat) u) 21 (6 * r + (P 15 r).toNat) v) 15 r (((P 15 r).toNat : Int) + 1)
section
variable {P S : wq_St} {x y z u v : Int} {t r : Nat}
theorem wz_x_addTable (hI : wy_iv P) (hR : wy_R wy_al S P) (hx : 1 ≤ x ∧ x ≤ 3) (h4 : P 0 5 < 4) : ∃ S', f_X8_addTable x S = some (0, P 0 5, S') ∧ wy_R wy_al S' (wq_set (wq_set P 1 (P 0 5).toNat x) 0 5 (P 0 5 + 1)) := by
  have o := wy_o5 hI
  have w1 : wq_w 1 = 1 := rfl
  have w3 : wq_w 3 = 3 := rfl
  have w4 : wq_w 4 = 4 := rfl
  obtain ⟨t, ht⟩ : ∃ t : Nat, P 0 5 = (t : Int) := ⟨(P 0 5).toNat, by omega⟩
  have t4 : t < 4 := by omega
  have h8 : f_X8_addTable x S = some (0, P 0 5 + 1 - 1, wq_set (wq_set S (6 + 48 * t) 4 x) 0 6 (P 0 5 + 1)) := by
    unfold f_X8_addTable
    rw [wy_cT hR, w1, w3, w4, wq_w_id (x := x) (by omega) (by omega), wq_w_id (x := P 0 5) (by omega) (by omega), if_neg (by omega), if_pos hx.2, if_pos h4, wy_ix (by omega) (by omega) (by omega), wy_lt, wy_lt, wy_set_at (k := 0) (j := 6) rfl rfl, wy_set_ne (a := 0) (i := 6) (by omega), wy_cT hR, ht, Int.toNat_natCast]
  rw [h8, show P 0 5 + 1 - 1 = P 0 5 by omega]
  refine ⟨_, rfl, ?_⟩
  rw [show (P 0 5).toNat = t by omega]
  exact wy_R_set (wy_R_set hR _ (f₀ := 1) (i₀ := t) ⟨t4, fun e => by omega⟩ rfl rfl) _ (f₀ := 0) (i₀ := 5) ⟨by decide, fun _ => by omega⟩ rfl rfl
theorem wz_x_insert (hI : wy_iv P) (hW : wy_iW P) (hR : wy_R wy_al S P) (ht : (t : Int) < P 0 5) (c0 : 0 ≤ y ∧ y ≤ 999) (c1 : 0 ≤ z ∧ z ≤ (if P 1 t ≤ ((1 : Nat) : Int) then 0 else 999)) (c2 : 0 ≤ u ∧ u ≤ (if P 1 t ≤ ((2 : Nat) : Int) then 0 else 999)) :
    (P 2 t < 40 → ∃ S', f_X8_insert (t : Int) y z u S = some (0, P 2 t, S') ∧ wy_R wy_al S' (wz_put t y z u P)) ∧ (¬P 2 t < 40 → f_X8_insert (t : Int) y z u S = some (2 + 1, 0, S)) := by
  have o := wy_o5 hI
  have w40 : wq_w 40 = 40 := rfl
  have t4 : t < 4 := by omega
  have b2 := wy_b2 hI t
  have hw := hW t ht
  have h : wy_isT P (t : Int) := ⟨by omega, ht⟩
  have hz : wy_rg z := by
    have := c1.2
    split at this <;> omega
  have hu : wy_rg u := by
    have := c2.2
    split at this <;> omega
  have e0 : (if P 1 t ≤ ((0 : Nat) : Int) then (0 : Int) else 999) = 999 := if_neg (by omega)
  have f0 : f_X7_fits (6 + 48 * t) 0 y S = some ((if 0 ≤ y ∧ y ≤ (if P 1 t ≤ ((0 : Nat) : Int) then 0 else 999) then 1 else 0), S) := wy_x_fits (c := 0) hI hR t4 (by omega) (by omega)
  have f1 : f_X7_fits (6 + 48 * t) 1 z S = some ((if 0 ≤ z ∧ z ≤ (if P 1 t ≤ ((1 : Nat) : Int) then 0 else 999) then 1 else 0), S) := wy_x_fits (c := 1) hI hR t4 hz (by omega)
  have f2 : f_X7_fits (6 + 48 * t) 2 u S = some ((if 0 ≤ u ∧ u ≤ (if P 1 t ≤ ((2 : Nat) : Int) then 0 else 999) then 1 else 0), S) := wy_x_fits (c := 2) hI hR t4 hu (by omega)
  rw [e0] at f0
  have h8a : f_X8_insert (t : Int) y z u S = if P 2 t < 40 then wq_bd (f_X7_put (6 + 48 * t) y z u S) fun r9 S10 => some (0, r9, S10) else some (2 + 1, 0, S) := by
    unfold f_X8_insert
    rw [wy_x_fT hI hR (by omega), if_pos h, wy_bx rfl, Int.toNat_natCast, wy_bd f0, if_pos c0, if_neg (by decide), wy_bd f1, if_pos c1, if_neg (by decide), wy_bd f2, if_pos c2, if_neg (by decide), wy_c2 (wy_R_co hR) t4, w40, wq_w_id (x := P 2 t) (by omega) (by omega)]
  rw [h8a]
  refine ⟨fun c40 => ?_, fun c40 => if_neg c40⟩
  obtain ⟨i, hi⟩ : ∃ i : Nat, P 2 t = (i : Int) := ⟨(P 2 t).toNat, by omega⟩
  have i40 : i < 40 := by omega
  have h8 : f_X7_put (6 + 48 * t) y z u S = some ((i : Int), wq_set (wq_set (wq_set (wq_set (wq_set (wq_set S (6 + 48 * t + 3 + i) 0 y) (6 + 48 * t + 3 + i) 1 z) (6 + 48 * t + 3 + i) 2 u) (6 + 48 * t + 43) i 1) (6 + 48 * t) 5 ((i : Int) + 1)) (6 + 48 * t) 6 (P 27 t + 1)) := by
    unfold f_X7_put
    rw [wy_c2 (wy_R_co hR) t4, hi, wy_ix (by omega) (by omega) (by omega), wy_ix0, wy_lt, wy_ix (by omega) (by omega) (by omega), wy_ix1, wy_lt, wy_ix (by omega) (by omega) (by omega), wy_ix2, wy_lt, wy_ix (by omega) (by omega) (by omega), wy_lt, wy_lt, wy_lt, Int.toNat_natCast]
    have k5 : wq_set (wq_set (wq_set (wq_set S (6 + 48 * t + 3 + i) 0 y) (6 + 48 * t + 3 + i) 1 z) (6 + 48 * t + 3 + i) 2 u) (6 + 48 * t + 43) i 1 (6 + 48 * t) 5 = (i : Int) := by
      rw [wy_set_ne (by omega), wy_set_ne (by omega), wy_set_ne (by omega), wy_set_ne (by omega), wy_c2 (wy_R_co hR) t4, hi]
    have k6 : ∀ v, wq_set (wq_set (wq_set (wq_set (wq_set S (6 + 48 * t + 3 + i) 0 y) (6 + 48 * t + 3 + i) 1 z) (6 + 48 * t + 3 + i) 2 u) (6 + 48 * t + 43) i 1) (6 + 48 * t) 5 v (6 + 48 * t) 6 = P 27 t := fun v => by
      rw [wy_set_ne (by omega), wy_set_ne (by omega), wy_set_ne (by omega), wy_set_ne (by omega), wy_set_ne (by omega), wy_c27 (wy_R_co hR) t4]
    rw [k5, k6]
  rw [if_pos c40, wy_bd h8, hi]
  refine ⟨_, rfl, ?_⟩
  unfold wz_put
  rw [hi, Int.toNat_natCast]
  have hka : ∀ c : Nat, c < 3 → 6 + 48 * t + 3 + i = wy_ka 4 (3 * (40 * t + i) + c) ∧ c = wy_io 4 (3 * (40 * t + i) + c) ∧ wy_in 4 (3 * (40 * t + i) + c) := fun c hc => by
    refine ⟨?_, ?_, ?_, fun e => by omega⟩
    · show _ = 6 + 48 * ((3 * (40 * t + i) + c) / 120) + 3 + (3 * (40 * t + i) + c) / 3 % 40
      omega
    · show c = (3 * (40 * t + i) + c) % 3
      omega
    · show 3 * (40 * t + i) + c < 480
      omega
  have k0 := hka 0 (by omega)
  have k1 := hka 1 (by omega)
  have k2 := hka 2 (by omega)
  have k3 : 6 + 48 * t + 43 = wy_ka 3 (40 * t + i) := by
    show _ = 6 + 48 * ((40 * t + i) / 40) + 43
    omega
  have k3' : i = wy_io 3 (40 * t + i) := by
    show i = (40 * t + i) % 40
    omega
  exact wy_R_set (wy_R_set (wy_R_set (wy_R_set (wy_R_set (wy_R_set hR _ (f₀ := 4) (i₀ := 3 * (40 * t + i)) k0.2.2 k0.1 k0.2.1) _ (f₀ := 4) (i₀ := 3 * (40 * t + i) + 1) k1.2.2 k1.1 k1.2.1) _ (f₀ := 4) (i₀ := 3 * (40 * t + i) + 2) k2.2.2 k2.1 k2.2.1) _ (f₀ := 3) (i₀ := 40 * t + i) ⟨by show 40 * t + i < 160; omega, fun e => by omega⟩ k3 k3') _ (f₀ := 2) (i₀ := t) ⟨t4, fun e => by omega⟩ rfl rfl) _ (f₀ := 27) (i₀ := t) ⟨t4, fun e => by omega⟩ rfl rfl
theorem wz_x_delete (hI : wy_iv P) (hR : wy_R wy_al S P) (ht : (t : Int) < P 0 5) (hy : wy_rg y) :
    (0 ≤ y ∧ y < P 2 t ∧ P 3 (40 * t + y.toNat) ≠ 0 → ∃ S', f_X8_delete (t : Int) y S = some (0, P 27 t - 1, S') ∧ wy_R wy_al S' (wz_del t y.toNat P)) ∧ (¬(0 ≤ y ∧ y < P 2 t ∧ P 3 (40 * t + y.toNat) ≠ 0) → f_X8_delete (t : Int) y S = some (0 + 1, 0, S)) := by
  have o := wy_o5 hI
  have b2 := wy_b2 hI t
  have t4 : t < 4 := by omega
  unfold f_X8_delete
  rw [wy_x_fT hI hR (by omega), if_pos (⟨by omega, ht⟩ : wy_isT P (t : Int)), wy_bx rfl, Int.toNat_natCast, wy_x_cW hI hR t4 hy]
  refine ⟨fun h2 => ?_, fun h2 => by rw [if_neg h2, wy_bx1 rfl]⟩
  obtain ⟨i, rfl⟩ : ∃ i : Nat, y = (i : Int) := ⟨y.toNat, by omega⟩
  have i40 : i < 40 := by omega
  have k3 : 6 + 48 * t + 43 = wy_ka 3 (40 * t + i) := by
    show _ = 6 + 48 * ((40 * t + i) / 40) + 43
    omega
  have k3' : i = wy_io 3 (40 * t + i) := by
    show i = (40 * t + i) % 40
    omega
  rw [if_pos h2, wy_bx rfl, wy_ix (by omega) (by omega) (by omega), wy_lt, wy_lt, Int.toNat_natCast, wy_set_at (k := 6 + 48 * t) (j := 6) rfl rfl, wy_set_ne (by omega), wy_c27 (wy_R_co hR) t4]
  exact ⟨_, rfl, wy_R_set (wy_R_set hR _ (f₀ := 3) (i₀ := 40 * t + i) ⟨by show 40 * t + i < 160; omega, fun e => by omega⟩ k3 k3') _ (f₀ := 27) (i₀ := t) ⟨t4, fun e => by omega⟩ rfl rfl⟩
theorem wz_x_setIndex (hI : wy_iv P) (hR : wy_R wy_al S P) (ht : (t : Int) < P 0 5) (hy : wy_rg y) (hz : z = 0 ∨ z = 1) :
    (0 ≤ y ∧ y < P 1 t → ∃ S', f_X8_setIndex (t : Int) y z S = some (0, P 5 (3 * t + y.toNat), S') ∧ wy_R wy_al S' (wq_set P 5 (3 * t + y.toNat) z)) ∧ (¬(0 ≤ y ∧ y < P 1 t) → f_X8_setIndex (t : Int) y z S = some (0 + 1, 0, S)) := by
  have o := wy_o5 hI
  have b1 := wy_b1 hI t
  have t4 : t < 4 := by omega
  have b5 := wy_b5 hI (3 * t + y.toNat)
  unfold f_X8_setIndex
  rw [wy_x_fC hI hR (by omega) hy]
  have hC : wy_isC P (t : Int) y ↔ (0 ≤ y ∧ y < P 1 t) := by
    unfold wy_isC
    rw [Int.toNat_natCast]
    exact ⟨fun h => h.2, fun h => ⟨⟨by omega, ht⟩, h⟩⟩
  refine ⟨fun h2 => ?_, fun h2 => by rw [if_neg (fun h => h2 (hC.mp h)), wy_bx1 rfl]⟩
  have hy3 : y.toNat < 3 := by omega
  rw [if_pos (hC.mpr h2), wy_bx rfl, wq_gd_t hz, wy_lt, Int.toNat_natCast, wy_c5 (wy_R_co hR) t4 hy3, wq_gd_t (by omega)]
  exact ⟨_, rfl, wy_R_set hR _ (f₀ := 5) (i₀ := 3 * t + y.toNat) ⟨by show 3 * t + y.toNat < 12; omega, fun e => by omega⟩ (wy_k3 (by omega)).symm rfl⟩
theorem wz_x_renew (hI : wy_iv P) (hR : wy_R wy_al S P) (ht : (t : Int) < P 0 5) (hy : 1 ≤ y ∧ y ≤ 10) : ∃ S', f_X8_renew (t : Int) y S = some (0, (wy_ns P t y (P 2 t).toNat : Int), S') ∧ wy_R wy_al S' (wy_rn P t y (P 1 t).toNat) := by
  have o := wy_o5 hI
  have t4 : t < 4 := by omega
  obtain ⟨S1, e1, hR1⟩ := wy_x_renew hI hR t4 hy.1 hy.2
  unfold f_X8_renew
  rw [wy_x_fT hI hR (by omega), if_pos (⟨by omega, ht⟩ : wy_isT P (t : Int)), wy_bx rfl, Int.toNat_natCast, wy_x_css (by omega), if_pos hy, wy_bx rfl, wy_bd e1]
  exact ⟨S1, rfl, hR1⟩
theorem wz_x_setStep (hI : wy_iv P) (hR : wy_R wy_al S P) (hx : 1 ≤ x ∧ x ≤ 10) : ∃ S', f_X8_setStep x S = some (0, P 0 11, S') ∧ wy_R wy_al S' (wq_set P 0 11 x) := by
  unfold f_X8_setStep
  rw [wy_x_css (by omega), if_pos hx, wy_bx rfl, wy_lt, wy_cS hR]
  exact ⟨_, rfl, wy_R_set hR _ (f₀ := 0) (i₀ := 11) ⟨by decide, fun _ => by omega⟩ rfl rfl⟩
theorem wz_x_addReport (hI : wy_iv P) (hR : wy_R wy_al S P) (hx : 0 ≤ x ∧ x ≤ 1000) :
    (P 0 28 < 8 → ∃ S', f_X8_addReport x S = some (0, P 0 28, S') ∧ wy_R wy_al S' (wq_set (wq_set P 11 (P 0 28).toNat x) 0 28 (P 0 28 + 1))) ∧ (¬P 0 28 < 8 → f_X8_addReport x S = some (2 + 1, 0, S)) := by
  have o := wy_o28 hI
  have w8 : wq_w 8 = 8 := rfl
  have w1000 : wq_w 1000 = 1000 := rfl
  obtain ⟨r, hr⟩ : ∃ r : Nat, P 0 28 = (r : Int) := ⟨(P 0 28).toNat, by omega⟩
  refine ⟨fun c8 => ?_, fun c8 => ?_⟩
  · have r8 : r < 8 := by omega
    have h8 : f_X8_addReport x S = some (0, P 0 28 + 1 - 1, wq_set (wq_set S (199 + 9 * r) 2 x) 0 7 (P 0 28 + 1)) := by
      unfold f_X8_addReport
      rw [wy_cN hR, w8, w1000, wq_w_id (x := x) (by omega) (by omega), wq_w_id (x := P 0 28) (by omega) (by omega), if_neg (by omega), if_pos hx.2, if_pos c8, wy_ix (by omega) (by omega) (by omega), wy_lt, wy_lt, wy_set_at (k := 0) (j := 7) rfl rfl, wy_set_ne (a := 0) (i := 7) (by omega), wy_cN hR, hr, Int.toNat_natCast]
    rw [h8, show P 0 28 + 1 - 1 = P 0 28 by omega]
    refine ⟨_, rfl, ?_⟩
    rw [show (P 0 28).toNat = r by omega]
    exact wy_R_set (wy_R_set hR _ (f₀ := 11) (i₀ := r) ⟨r8, fun e => by omega⟩ rfl rfl) _ (f₀ := 0) (i₀ := 28) ⟨by decide, fun _ => by omega⟩ rfl rfl
  · unfold f_X8_addReport
    rw [wy_cN hR, w8, w1000, wq_w_id (x := x) (by omega) (by omega), wq_w_id (x := P 0 28) (by omega) (by omega), if_neg (by omega), if_pos hx.2, if_neg c8]
theorem wz_x_noR {α : Type} (hI : wy_iv P) (hR : wy_R wy_al S P) (hx : wy_rg x) (h : ¬wy_isR P x) (w : α) (k : Nat → wq_St → Option (Nat × α × wq_St)) : wq_bx w (f_X8_findReport x S) k = some (0 + 1, w, S) := by
  rw [wy_x_fR hI hR hx, if_neg h, wy_bx1 rfl]
theorem wz_x_addSource (hI : wy_iv P) (hR : wy_R wy_al S P) (hr : (r : Int) < P 0 28) (hy : 0 ≤ y ∧ y < P 0 5) :
    (P 13 r < 3 → ∃ S', f_X8_addSource (r : Int) y S = some (0, P 13 r, S') ∧ wy_R wy_al S' (wz_asr r y P)) ∧ (¬P 13 r < 3 → f_X8_addSource (r : Int) y S = some (2 + 1, 0, S)) := by
  have o := wy_o28 hI
  have o5 := wy_o5 hI
  have w3 : wq_w 3 = 3 := rfl
  have r8 : r < 8 := by omega
  have b13 := wy_b13 hI r
  have h : wy_isR P (r : Int) := ⟨by omega, hr⟩
  obtain ⟨n, hn⟩ : ∃ n : Nat, P 13 r = (n : Int) := ⟨(P 13 r).toNat, by omega⟩
  refine ⟨fun c3 => ?_, fun c3 => ?_⟩
  · have n3 : n < 3 := by omega
    have h8 : f_X8_addSource (r : Int) y S = some (0, (n : Int) + 1 - 1, wq_set (wq_set S (199 + 9 * r + 1) n y) (199 + 9 * r) 3 ((n : Int) + 1)) := by
      unfold f_X8_addSource
      rw [wy_x_fR hI hR (by omega), if_pos h, wy_bx rfl, wy_x_fT hI hR (by omega), if_pos hy, wy_bx rfl, Int.toNat_natCast, wy_c13 (wy_R_co hR) r8, w3, wq_w_id (x := P 13 r) (by omega) (by omega), if_pos c3, hn, wy_ix (by omega) (by omega) (by omega), Int.toNat_natCast, wy_lt, wy_lt, wy_set_at (k := 199 + 9 * r) (j := 3) rfl rfl, wy_set_ne (by omega), wy_c13 (wy_R_co hR) r8, hn]
    rw [h8, hn, show (n : Int) + 1 - 1 = (n : Int) by omega]
    refine ⟨_, rfl, ?_⟩
    unfold wz_asr
    rw [hn, Int.toNat_natCast]
    exact wy_R_set (wy_R_set hR _ (f₀ := 14) (i₀ := 3 * r + n) ⟨by show 3 * r + n < 24; omega, fun e => by omega⟩ (wy_k2r n3).1 (wy_k2r n3).2) _ (f₀ := 13) (i₀ := r) ⟨r8, fun e => by omega⟩ rfl rfl
  · unfold f_X8_addSource
    rw [wy_x_fR hI hR (by omega), if_pos h, wy_bx rfl, wy_x_fT hI hR (by omega), if_pos hy, wy_bx rfl, Int.toNat_natCast, wy_c13 (wy_R_co hR) r8, w3, wq_w_id (x := P 13 r) (by omega) (by omega), if_neg c3]
theorem wz_x_drop (hI : wy_iv P) (hR : wy_R wy_al S P) (hr : (r : Int) < P 0 28) :
    (P 15 r ≠ 0 → ∃ S', f_X8_dropCondition (r : Int) S = some (0, P 15 r - 1, S') ∧ wy_R wy_al S' (wq_set P 15 r (P 15 r - 1))) ∧ (P 15 r = 0 → f_X8_dropCondition (r : Int) S = some (2 + 1, 0, S)) := by
  have o := wy_o28 hI
  have r8 : r < 8 := by omega
  have b15 := wy_b15 hI r
  have h : wy_isR P (r : Int) := ⟨by omega, hr⟩
  refine ⟨fun c => ?_, fun c => ?_⟩
  · have h8 : f_X8_dropCondition (r : Int) S = some (0, P 15 r - 1, wq_set S (199 + 9 * r) 4 (P 15 r - 1)) := by
      unfold f_X8_dropCondition
      rw [wy_x_fR hI hR (by omega), if_pos h, wy_bx rfl, Int.toNat_natCast, wy_c15 (wy_R_co hR) r8, wq_w_id (by omega) (by omega), if_neg c, wy_lt, wy_set_at rfl rfl]
    exact ⟨_, h8, wy_R_set hR _ (f₀ := 15) (i₀ := r) ⟨r8, fun e => by omega⟩ rfl rfl⟩
  · unfold f_X8_dropCondition
    rw [wy_x_fR hI hR (by omega), if_pos h, wy_bx rfl, Int.toNat_natCast, wy_c15 (wy_R_co hR) r8, wq_w_id (by omega) (by omega), if_pos c]
theorem wz_x_setDue (hI : wy_iv P) (hR : wy_R wy_al S P) (hr : (r : Int) < P 0 28) (hy : y = 0 ∨ y = 1) : ∃ S', f_X8_setDue (r : Int) y S = some (0, P 12 r, S') ∧ wy_R wy_al S' (wq_set P 12 r y) := by
  have o := wy_o28 hI
  have r8 : r < 8 := by omega
  have b12 := wy_b12 hI r
  unfold f_X8_setDue
  rw [wy_x_fR hI hR (by omega), if_pos (⟨by omega, hr⟩ : wy_isR P (r : Int)), wy_bx rfl, Int.toNat_natCast, wq_gd_t hy, wy_lt, wy_c12 hR r8, wq_gd_t (by omega)]
  exact ⟨_, rfl, wy_R_set hR _ (f₀ := 12) (i₀ := r) ⟨r8, fun e => by omega⟩ rfl rfl⟩
theorem wz_x_setSum (hI : wy_iv P) (hR : wy_R wy_al S P) (hr : (r : Int) < P 0 28) (hy : wy_rg y) (cn : y ≠ -1) (hz : wy_rg z) :
    ((0 ≤ y ∧ y < P 13 r) ∧ 0 ≤ z ∧ z < P 1 (P 14 (3 * r + y.toNat)).toNat → ∃ S', f_X8_setSum (r : Int) y z S = some (0, 0, S') ∧ wy_R wy_al S' (wq_set (wq_set (wq_set P 28 r z) 22 r y) 23 r z)) ∧ (¬((0 ≤ y ∧ y < P 13 r) ∧ 0 ≤ z ∧ z < P 1 (P 14 (3 * r + y.toNat)).toNat) → f_X8_setSum (r : Int) y z S = some (0 + 1, 0, S)) := by
  have o := wy_o28 hI
  have wn : wq_w (-1) = -1 := rfl
  have r8 : r < 8 := by omega
  have h : wy_isR P (r : Int) := ⟨by omega, hr⟩
  refine ⟨fun hk => ?_, fun hk => ?_⟩
  · have h8 : f_X8_setSum (r : Int) y z S = some (0, 0, wq_set (wq_set S (199 + 9 * r) 6 z) (199 + 9 * r) 5 y) := by
      unfold f_X8_setSum
      rw [wy_x_fR hI hR (by omega), if_pos h, wy_bx rfl, Int.toNat_natCast, wn, wq_w_id hy.1 hy.2, if_neg cn, wy_x_cK hI hR r8 hy hz, if_pos hk, wy_bx rfl, wy_lt]
    exact ⟨_, h8, wy_R_23 (wy_R_set (wy_R_set hR _ (f₀ := 28) (i₀ := r) ⟨r8, fun e => by omega⟩ rfl rfl) _ (f₀ := 22) (i₀ := r) ⟨r8, fun e => by omega⟩ rfl rfl)⟩
  · unfold f_X8_setSum
    rw [wy_x_fR hI hR (by omega), if_pos h, wy_bx rfl, Int.toNat_natCast, wn, wq_w_id hy.1 hy.2, if_neg cn, wy_x_cK hI hR r8 hy hz, if_neg hk, wy_bx1 rfl]
theorem wz_x_addCondition (hI : wy_iv P) (hR : wy_R wy_al S P) (hr : (r : Int) < P 0 28) (hy : wy_rg y) (hz : wy_rg z) (hu : 0 ≤ u ∧ u ≤ 2) (hv : 0 ≤ v ∧ v ≤ 999) :
    (((0 ≤ y ∧ y < P 13 r) ∧ 0 ≤ z ∧ z < P 1 (P 14 (3 * r + y.toNat)).toNat) ∧ P 15 r < 6 → ∃ S', f_X8_addCondition (r : Int) y z u v S = some (0, P 15 r, S') ∧ wy_R wy_al S' (wz_acd r y z u v P)) ∧
    (((0 ≤ y ∧ y < P 13 r) ∧ 0 ≤ z ∧ z < P 1 (P 14 (3 * r + y.toNat)).toNat) ∧ ¬P 15 r < 6 → f_X8_addCondition (r : Int) y z u v S = some (2 + 1, 0, S)) ∧
    (¬((0 ≤ y ∧ y < P 13 r) ∧ 0 ≤ z ∧ z < P 1 (P 14 (3 * r + y.toNat)).toNat) → f_X8_addCondition (r : Int) y z u v S = some (0 + 1, 0, S)) := by
  have o := wy_o28 hI
  have w2 : wq_w 2 = 2 := rfl
  have w999 : wq_w 999 = 999 := rfl
  have r8 : r < 8 := by omega
  have h : wy_isR P (r : Int) := ⟨by omega, hr⟩
  have b15 := wy_b15 hI r
  refine ⟨fun ⟨hk, c6⟩ => ?_, fun ⟨hk, c6⟩ => ?_, fun hk => ?_⟩
  · obtain ⟨n, hn⟩ : ∃ n : Nat, P 15 r = (n : Int) := ⟨(P 15 r).toNat, by omega⟩
    have n6 : n < 6 := by omega
    have h8 : f_X8_addCondition (r : Int) y z u v S = some (0, (n : Int) + 1 - 1, wq_set (wq_set (wq_set (wq_set (wq_set S (199 + 9 * r + 3 + n) 1 y) (199 + 9 * r + 3 + n) 2 z) (199 + 9 * r + 3 + n) 0 u) (199 + 9 * r + 3 + n) 3 v) (199 + 9 * r) 4 ((n : Int) + 1)) := by
      unfold f_X8_addCondition
      rw [wy_x_fR hI hR (by omega), if_pos h, wy_bx rfl, Int.toNat_natCast, wy_x_cK hI hR r8 hy hz, if_pos hk, wy_bx rfl, w2, w999, wq_w_id (x := u) (by omega) (by omega), wq_w_id (x := v) (by omega) (by omega), if_neg (by omega), if_pos hu.2, if_neg (by omega), if_pos hv.2, wy_x_room hI hR r8, if_pos c6, wy_bx rfl, wy_c15 (wy_R_co hR) r8, hn, wy_ix (by omega) (by omega) (by omega), Int.toNat_natCast]
      unfold f_X1_compare
      rw [wy_lt, wy_lt, wy_lt, wy_bd rfl, wy_lt, wy_set_at (k := 199 + 9 * r) (j := 4) rfl rfl, wy_set_ne (by omega), wy_set_ne (by omega), wy_set_ne (by omega), wy_set_ne (by omega), wy_c15 (wy_R_co hR) r8, hn]
    rw [h8, hn, show (n : Int) + 1 - 1 = (n : Int) by omega]
    refine ⟨_, rfl, ?_⟩
    unfold wz_acd
    rw [hn, Int.toNat_natCast]
    exact wy_R_set (wy_R_set (wy_R_set (wy_R_set (wy_R_set hR _ (f₀ := 17) (i₀ := 6 * r + n) (wy_in_c (by omega) r8 n6) (wy_k6 n6).symm rfl) _ (f₀ := 18) (i₀ := 6 * r + n) (wy_in_c (by omega) r8 n6) (wy_k6 n6).symm rfl) _ (f₀ := 16) (i₀ := 6 * r + n) (wy_in_c (by omega) r8 n6) (wy_k6 n6).symm rfl) _ (f₀ := 19) (i₀ := 6 * r + n) (wy_in_c (by omega) r8 n6) (wy_k6 n6).symm rfl) _ (f₀ := 15) (i₀ := r) ⟨r8, fun e => by omega⟩ rfl rfl
  · unfold f_X8_addCondition
    rw [wy_x_fR hI hR (by omega), if_pos h, wy_bx rfl, Int.toNat_natCast, wy_x_cK hI hR r8 hy hz, if_pos hk, wy_bx rfl, w2, w999, wq_w_id (x := u) (by omega) (by omega), wq_w_id (x := v) (by omega) (by omega), if_neg (by omega), if_pos hu.2, if_neg (by omega), if_pos hv.2, wy_x_room hI hR r8, if_neg c6, wy_bx1 rfl]
  · unfold f_X8_addCondition
    rw [wy_x_fR hI hR (by omega), if_pos h, wy_bx rfl, Int.toNat_natCast, wy_x_cK hI hR r8 hy hz, if_neg hk, wy_bx1 rfl]
theorem wz_x_addJoin (hI : wy_iv P) (hR : wy_R wy_al S P) (hr : (r : Int) < P 0 28) (hy : wy_rg y) (hz : wy_rg z) (hu : wy_rg u) (hv : wy_rg v) :
    (((0 ≤ y ∧ y < P 13 r) ∧ 0 ≤ z ∧ z < P 1 (P 14 (3 * r + y.toNat)).toNat) ∧ ((0 ≤ u ∧ u < P 13 r) ∧ 0 ≤ v ∧ v < P 1 (P 14 (3 * r + u.toNat)).toNat) ∧ y ≠ u ∧ P 15 r < 6 → ∃ S', f_X8_addJoin (r : Int) y z u v S = some (0, P 15 r, S') ∧ wy_R wy_al S' (wz_ajn r y z u v P)) ∧
    (((0 ≤ y ∧ y < P 13 r) ∧ 0 ≤ z ∧ z < P 1 (P 14 (3 * r + y.toNat)).toNat) ∧ ((0 ≤ u ∧ u < P 13 r) ∧ 0 ≤ v ∧ v < P 1 (P 14 (3 * r + u.toNat)).toNat) ∧ y ≠ u ∧ ¬P 15 r < 6 → f_X8_addJoin (r : Int) y z u v S = some (2 + 1, 0, S)) ∧
    (((0 ≤ y ∧ y < P 13 r) ∧ 0 ≤ z ∧ z < P 1 (P 14 (3 * r + y.toNat)).toNat) ∧ ((0 ≤ u ∧ u < P 13 r) ∧ 0 ≤ v ∧ v < P 1 (P 14 (3 * r + u.toNat)).toNat) ∧ y = u → f_X8_addJoin (r : Int) y z u v S = some (1 + 1, 0, S)) ∧
    (¬(((0 ≤ y ∧ y < P 13 r) ∧ 0 ≤ z ∧ z < P 1 (P 14 (3 * r + y.toNat)).toNat) ∧ ((0 ≤ u ∧ u < P 13 r) ∧ 0 ≤ v ∧ v < P 1 (P 14 (3 * r + u.toNat)).toNat)) → f_X8_addJoin (r : Int) y z u v S = some (0 + 1, 0, S)) := by
  have o := wy_o28 hI
  have r8 : r < 8 := by omega
  have h : wy_isR P (r : Int) := ⟨by omega, hr⟩
  have b15 := wy_b15 hI r
  refine ⟨fun ⟨hk, hl, cyu, c6⟩ => ?_, fun ⟨hk, hl, cyu, c6⟩ => ?_, fun ⟨hk, hl, cyu⟩ => ?_, fun hkl => ?_⟩
  · obtain ⟨n, hn⟩ : ∃ n : Nat, P 15 r = (n : Int) := ⟨(P 15 r).toNat, by omega⟩
    have n6 : n < 6 := by omega
    have h8 : f_X8_addJoin (r : Int) y z u v S = some (0, (n : Int) + 1 - 1, wq_set (wq_set (wq_set (wq_set (wq_set (wq_set S (199 + 9 * r + 3 + n) 1 y) (199 + 9 * r + 3 + n) 2 z) (199 + 9 * r + 3 + n) 0 3) (199 + 9 * r + 3 + n) 4 u) (199 + 9 * r + 3 + n) 5 v) (199 + 9 * r) 4 ((n : Int) + 1)) := by
      unfold f_X8_addJoin
      rw [wy_x_fR hI hR (by omega), if_pos h, wy_bx rfl, Int.toNat_natCast, wy_x_cK hI hR r8 hy hz, if_pos hk, wy_bx rfl, wy_x_cK hI hR r8 hu hv, if_pos hl, wy_bx rfl, wq_w_id hy.1 hy.2, wq_w_id hu.1 hu.2, if_neg cyu, wy_x_room hI hR r8, if_pos c6, wy_bx rfl, wy_c15 (wy_R_co hR) r8, hn, wy_ix (by omega) (by omega) (by omega), Int.toNat_natCast]
      unfold f_X1_join
      rw [wy_lt, wy_lt, wy_lt, wy_lt, wy_bd rfl, wy_lt, wy_set_at (k := 199 + 9 * r) (j := 4) rfl rfl, wy_set_ne (by omega), wy_set_ne (by omega), wy_set_ne (by omega), wy_set_ne (by omega), wy_set_ne (by omega), wy_c15 (wy_R_co hR) r8, hn]
    rw [h8, hn, show (n : Int) + 1 - 1 = (n : Int) by omega]
    refine ⟨_, rfl, ?_⟩
    unfold wz_ajn
    rw [hn, Int.toNat_natCast]
    exact wy_R_set (wy_R_set (wy_R_set (wy_R_set (wy_R_set (wy_R_set hR _ (f₀ := 17) (i₀ := 6 * r + n) (wy_in_c (by omega) r8 n6) (wy_k6 n6).symm rfl) _ (f₀ := 18) (i₀ := 6 * r + n) (wy_in_c (by omega) r8 n6) (wy_k6 n6).symm rfl) _ (f₀ := 16) (i₀ := 6 * r + n) (wy_in_c (by omega) r8 n6) (wy_k6 n6).symm rfl) _ (f₀ := 20) (i₀ := 6 * r + n) (wy_in_c (by omega) r8 n6) (wy_k6 n6).symm rfl) _ (f₀ := 21) (i₀ := 6 * r + n) (wy_in_c (by omega) r8 n6) (wy_k6 n6).symm rfl) _ (f₀ := 15) (i₀ := r) ⟨r8, fun e => by omega⟩ rfl rfl
  · unfold f_X8_addJoin
    rw [wy_x_fR hI hR (by omega), if_pos h, wy_bx rfl, Int.toNat_natCast, wy_x_cK hI hR r8 hy hz, if_pos hk, wy_bx rfl, wy_x_cK hI hR r8 hu hv, if_pos hl, wy_bx rfl, wq_w_id hy.1 hy.2, wq_w_id hu.1 hu.2, if_neg cyu, wy_x_room hI hR r8, if_neg c6, wy_bx1 rfl]
  · unfold f_X8_addJoin
    rw [wy_x_fR hI hR (by omega), if_pos h, wy_bx rfl, Int.toNat_natCast, wy_x_cK hI hR r8 hy hz, if_pos hk, wy_bx rfl, wy_x_cK hI hR r8 hu hv, if_pos hl, wy_bx rfl, wq_w_id hy.1 hy.2, wq_w_id hu.1 hu.2, if_pos cyu]
  · unfold f_X8_addJoin
    rw [wy_x_fR hI hR (by omega), if_pos h, wy_bx rfl, Int.toNat_natCast, wy_x_cK hI hR r8 hy hz]
    by_cases hk : (0 ≤ y ∧ y < P 13 r) ∧ 0 ≤ z ∧ z < P 1 (P 14 (3 * r + y.toNat)).toNat
    · rw [if_pos hk, wy_bx rfl, wy_x_cK hI hR r8 hu hv, if_neg (fun hl => hkl ⟨hk, hl⟩), wy_bx1 rfl]
    · rw [if_neg hk, wy_bx1 rfl]
theorem wz_x_night (hI : wy_iv P) (hR : wy_R wy_al S P) (hx : 0 ≤ x ∧ x ≤ 1000) :
    (wq_w (P 0 29) < wq_w 500 → ∃ (W D : Nat) (ln : Nat → Nat) (S' : wq_St), wy_ln (wy_nq (wy_pd P x) 4) 8 W ln ∧ wy_dN (wy_nq (wy_pd P x) 4) ln W D ∧ f_X8_night x S = some (0, (D : Int), S') ∧ wy_R wy_al S' (wq_set (wy_Qr (wy_nq (wy_pd P x) 4) ln D W) 0 29 (wy_nq (wy_pd P x) 4 0 29 + 1))) ∧
    (¬(wq_w (P 0 29) < wq_w 500) → f_X8_night x S = some (2 + 1, 0, S)) := by
  have w1000 : wq_w 1000 = 1000 := rfl
  unfold f_X8_night
  rw [wq_w_id (x := x) (by omega) (by omega), w1000, wy_cG hR, if_neg (by omega), if_pos hx.2]
  refine ⟨fun c5 => ?_, fun c5 => if_neg c5⟩
  rw [if_pos c5]
  obtain ⟨S1, e1, hR1⟩ := wy_x_pay hI hR x
  have hI1 := @wy_pd_iv P x hI
  obtain ⟨S2, e2, hR2⟩ := wy_x_rmt hI1 hR1
  have hI2 := wy_nq_iv hI1 4
  obtain ⟨W, D, ln, S3, hln, hD, e3, hR3⟩ := wy_x_rdr hI2 hR2
  rw [wy_bd e1, wy_bd e2, wy_bd e3]
  exact ⟨W, D, ln, S3, hln, hD, rfl, hR3⟩
end
