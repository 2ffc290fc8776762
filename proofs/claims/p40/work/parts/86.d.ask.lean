/-! ONE STORE: the calls that only ask, through the law's wrappers -/
def wz_q (c : Prop) (v : Int) (P S : wq_St) (x8 : Option (Nat × Int × wq_St)) : Prop := (c → ∃ S', x8 = some (0, v, S') ∧ wy_R wy_al S' P) ∧ (¬c → x8 = some (0 + 1, 0, S))
theorem wz_bh0 {α β : Type} {x : Option (Nat × β × wq_St)} {k : β → wq_St → Option α} {kt : Nat → wq_St → Option α} {r : β} {S : wq_St} (h : x = some (0, r, S)) : wq_bh x k kt = k r S := by rw [h]; rfl
theorem wz_bh1 {α β : Type} {x : Option (Nat × β × wq_St)} {k : β → wq_St → Option α} {kt : Nat → wq_St → Option α} {n : Nat} {r : β} {S : wq_St} (h : x = some (n + 1, r, S)) : wq_bh x k kt = kt (n + 1) S := by rw [h]; rfl
section
variable {P S : wq_St} {x y z v : Int} {t r : Nat}
theorem wz_bhq {c : Prop} [Decidable c] {x8 : Option (Nat × Int × wq_St)} (h : wz_q c v P S x8) (hR : wy_R wy_al S P) : ∃ S', wq_bh x8 (fun r S => some (r, S)) (fun n S => if n = 1 then some ((-8), S) else none) = some ((if c then v else -8), S') ∧ wy_R wy_al S' P := by
  by_cases hc : c
  · obtain ⟨S', e, hR'⟩ := h.1 hc
    rw [wz_bh0 e, if_pos hc]
    exact ⟨S', rfl, hR'⟩
  · rw [wz_bh1 (h.2 hc), if_neg hc, if_pos rfl]
    exact ⟨S, rfl, hR⟩
theorem wz_bhz {c : Prop} [Decidable c] {x8 : Option (Nat × Int × wq_St)} (h : wz_q c v P S x8) (hR : wy_R wy_al S P) (hv : v = 0 ∨ v = 1) : ∃ S', wq_bh x8 (fun r S => if wq_w r = 0 then some (0, S) else some (1, S)) (fun n S => if n = 1 then some ((-8), S) else none) = some ((if c then v else -8), S') ∧ wy_R wy_al S' P := by
  by_cases hc : c
  · obtain ⟨S', e, hR'⟩ := h.1 hc
    rw [wz_bh0 e, if_pos hc]
    refine ⟨S', ?_, hR'⟩
    rcases hv with hv | hv
    · rw [hv, if_pos (by decide)]
    · rw [hv, if_neg (by decide)]
  · rw [wz_bh1 (h.2 hc), if_neg hc, if_pos rfl]
    exact ⟨S, rfl, hR⟩
theorem wz_a_rows (hI : wy_iv P) (hR : wy_R wy_al S P) (hx : wy_rg x) : wz_q (wy_isT P x) (P 27 x.toNat) P S (f_X8_rows x S) := by
  have o := wy_o5 hI
  unfold f_X8_rows
  rw [wy_x_fT hI hR hx]
  refine ⟨fun h => ?_, fun h => by rw [if_neg h, wy_bx1 rfl]⟩
  have ht : x.toNat < 4 := by omega
  rw [if_pos h, wy_bx rfl, wy_c27 (wy_R_co hR) ht]
  exact ⟨S, rfl, hR⟩
theorem wz_a_toldRows (hI : wy_iv P) (hR : wy_R wy_al S P) (hx : wy_rg x) : wz_q (wy_isT P x) (P 6 x.toNat) P S (f_X8_toldRows x S) := by
  have o := wy_o5 hI
  unfold f_X8_toldRows
  rw [wy_x_fT hI hR hx]
  refine ⟨fun h => ?_, fun h => by rw [if_neg h, wy_bx1 rfl]⟩
  have ht : x.toNat < 4 := by omega
  rw [if_pos h, wy_bx rfl, wy_c6 (wy_R_co hR) ht]
  exact ⟨S, rfl, hR⟩
theorem wz_a_isMarked (hI : wy_iv P) (hR : wy_R wy_al S P) (hx : wy_rg x) : wz_q (wy_isT P x) (P 10 x.toNat) P S (f_X8_isMarked x S) := by
  have o := wy_o5 hI
  unfold f_X8_isMarked
  rw [wy_x_fT hI hR hx]
  refine ⟨fun h => ?_, fun h => by rw [if_neg h, wy_bx1 rfl]⟩
  have ht : x.toNat < 4 := by omega
  have b := wy_b10 hI x.toNat
  rw [if_pos h, wy_bx rfl, wy_c10 hR ht, wq_gd_t (by omega)]
  exact ⟨S, rfl, hR⟩
theorem wz_a_kept (hI : wy_iv P) (hR : wy_R wy_al S P) (hx : wy_rg x) : wz_q (wy_isR P x) (P 24 x.toNat) P S (f_X8_kept x S) := by
  have o := wy_o28 hI
  unfold f_X8_kept
  rw [wy_x_fR hI hR hx]
  refine ⟨fun h => ?_, fun h => by rw [if_neg h, wy_bx1 rfl]⟩
  have hr : x.toNat < 8 := by omega
  rw [if_pos h, wy_bx rfl, wy_c24 hR hr]
  exact ⟨S, rfl, hR⟩
theorem wz_a_keptSum (hI : wy_iv P) (hR : wy_R wy_al S P) (hx : wy_rg x) : wz_q (wy_isR P x) (P 25 x.toNat) P S (f_X8_keptSum x S) := by
  have o := wy_o28 hI
  unfold f_X8_keptSum
  rw [wy_x_fR hI hR hx]
  refine ⟨fun h => ?_, fun h => by rw [if_neg h, wy_bx1 rfl]⟩
  have hr : x.toNat < 8 := by omega
  rw [if_pos h, wy_bx rfl, wy_c25 hR hr]
  exact ⟨S, rfl, hR⟩
theorem wz_a_keptIn (hI : wy_iv P) (hR : wy_R wy_al S P) (hx : wy_rg x) : wz_q (wy_isR P x) (P 26 x.toNat) P S (f_X8_keptIn x S) := by
  have o := wy_o28 hI
  unfold f_X8_keptIn
  rw [wy_x_fR hI hR hx]
  refine ⟨fun h => ?_, fun h => by rw [if_neg h, wy_bx1 rfl]⟩
  have hr : x.toNat < 8 := by omega
  rw [if_pos h, wy_bx rfl, wy_c26 hR hr]
  exact ⟨S, rfl, hR⟩
theorem wz_a_isDue (hI : wy_iv P) (hR : wy_R wy_al S P) (hx : wy_rg x) : wz_q (wy_isR P x) (P 12 x.toNat) P S (f_X8_isDue x S) := by
  have o := wy_o28 hI
  unfold f_X8_isDue
  rw [wy_x_fR hI hR hx]
  refine ⟨fun h => ?_, fun h => by rw [if_neg h, wy_bx1 rfl]⟩
  have hr : x.toNat < 8 := by omega
  have b := wy_b12 hI x.toNat
  rw [if_pos h, wy_bx rfl, wy_c12 hR hr, wq_gd_t (by omega)]
  exact ⟨S, rfl, hR⟩
theorem wz_a_foretold (hI : wy_iv P) (hR : wy_R wy_al S P) (hx : wy_rg x) : wz_q (wy_isR P x) (wy_ft P x.toNat) P S (f_X8_foretold x S) := by
  have o := wy_o28 hI
  unfold f_X8_foretold
  rw [wy_x_fR hI hR hx]
  refine ⟨fun h => ?_, fun h => by rw [if_neg h, wy_bx1 rfl]⟩
  obtain ⟨S1, e1, hf, -, e2⟩ := wy_x_ft hI (wy_R_co hR) (r := x.toNat) (by omega)
  rw [if_pos h, wy_bx rfl, wy_bd e1, wy_bd e2]
  exact ⟨S1, rfl, wy_fr_R hR hf⟩
theorem wz_a_minutes (hI : wy_iv P) (hR : wy_R wy_al S P) (hx : wy_rg x) : wz_q (wy_isR P x) (wy_tr P x.toNat) P S (f_X8_minutes x S) := by
  have o := wy_o28 hI
  unfold f_X8_minutes
  rw [wy_x_fR hI hR hx]
  refine ⟨fun h => ?_, fun h => by rw [if_neg h, wy_bx1 rfl]⟩
  obtain ⟨S2, e1, z1, z2, z3, hR2⟩ := wy_x_rcp hI hR (r := x.toNat) (by omega)
  rw [if_pos h, wy_bx rfl, wy_bd e1, z1]
  exact ⟨S2, rfl, hR2⟩
theorem wz_a_answer (hI : wy_iv P) (hR : wy_R wy_al S P) (hx : wy_rg x) : wz_q (wy_isR P x) (wy_fd P x.toNat) P S (f_X8_answer x S) := by
  have o := wy_o28 hI
  unfold f_X8_answer
  rw [wy_x_fR hI hR hx]
  refine ⟨fun h => ?_, fun h => by rw [if_neg h, wy_bx1 rfl]⟩
  obtain ⟨S2, e1, z1, z2, z3, hR2⟩ := wy_x_rcp hI hR (r := x.toNat) (by omega)
  rw [if_pos h, wy_bx rfl, wy_bd e1, z2]
  exact ⟨S2, rfl, hR2⟩
theorem wz_a_sum (hI : wy_iv P) (hR : wy_R wy_al S P) (hx : wy_rg x) : wz_q (wy_isR P x) (wy_sd P x.toNat) P S (f_X8_sum x S) := by
  have o := wy_o28 hI
  unfold f_X8_sum
  rw [wy_x_fR hI hR hx]
  refine ⟨fun h => ?_, fun h => by rw [if_neg h, wy_bx1 rfl]⟩
  obtain ⟨S2, e1, z1, z2, z3, hR2⟩ := wy_x_rcp hI hR (r := x.toNat) (by omega)
  rw [if_pos h, wy_bx rfl, wy_bd e1, z3]
  exact ⟨S2, rfl, hR2⟩
theorem wz_a_plainAnswer (hI : wy_iv P) (hR : wy_R wy_al S P) (hx : wy_rg x) : wz_q (wy_isR P x) (wy_fd P x.toNat) P S (f_X8_plainAnswer x S) := by
  have o := wy_o28 hI
  unfold f_X8_plainAnswer
  rw [wy_x_fR hI hR hx]
  refine ⟨fun h => ?_, fun h => by rw [if_neg h, wy_bx1 rfl]⟩
  obtain ⟨S2, e1, z2, z3, hR2⟩ := wy_x_rpp hI hR (r := x.toNat) (by omega)
  rw [if_pos h, wy_bx rfl, wy_bd e1, z2]
  exact ⟨S2, rfl, hR2⟩
theorem wz_a_plainSum (hI : wy_iv P) (hR : wy_R wy_al S P) (hx : wy_rg x) : wz_q (wy_isR P x) (wy_sd P x.toNat) P S (f_X8_plainSum x S) := by
  have o := wy_o28 hI
  unfold f_X8_plainSum
  rw [wy_x_fR hI hR hx]
  refine ⟨fun h => ?_, fun h => by rw [if_neg h, wy_bx1 rfl]⟩
  obtain ⟨S2, e1, z2, z3, hR2⟩ := wy_x_rpp hI hR (r := x.toNat) (by omega)
  rw [if_pos h, wy_bx rfl, wy_bd e1, z3]
  exact ⟨S2, rfl, hR2⟩
theorem wz_a_unlike (hI : wy_iv P) (hR : wy_R wy_al S P) (hx : wy_rg x) (hy : wy_rg y) : wz_q (wy_isC P x y) (P 7 (3 * x.toNat + y.toNat)) P S (f_X8_unlike x y S) := by
  have o := wy_o5 hI
  have b1 := wy_b1 hI x.toNat
  unfold f_X8_unlike
  rw [wy_x_fC hI hR hx hy]
  refine ⟨fun h => ?_, fun h => by rw [if_neg h, wy_bx1 rfl]⟩
  rw [if_pos h, wy_bx rfl, wy_c7 (wy_R_co hR) (by omega) (by omega)]
  exact ⟨S, rfl, hR⟩
theorem wz_a_least (hI : wy_iv P) (hR : wy_R wy_al S P) (hx : wy_rg x) (hy : wy_rg y) : wz_q (wy_isC P x y) (P 8 (3 * x.toNat + y.toNat)) P S (f_X8_least x y S) := by
  have o := wy_o5 hI
  have b1 := wy_b1 hI x.toNat
  unfold f_X8_least
  rw [wy_x_fC hI hR hx hy]
  refine ⟨fun h => ?_, fun h => by rw [if_neg h, wy_bx1 rfl]⟩
  rw [if_pos h, wy_bx rfl, wy_c8 (wy_R_co hR) (by omega) (by omega)]
  exact ⟨S, rfl, hR⟩
theorem wz_a_greatest (hI : wy_iv P) (hR : wy_R wy_al S P) (hx : wy_rg x) (hy : wy_rg y) : wz_q (wy_isC P x y) (P 9 (3 * x.toNat + y.toNat)) P S (f_X8_greatest x y S) := by
  have o := wy_o5 hI
  have b1 := wy_b1 hI x.toNat
  unfold f_X8_greatest
  rw [wy_x_fC hI hR hx hy]
  refine ⟨fun h => ?_, fun h => by rw [if_neg h, wy_bx1 rfl]⟩
  rw [if_pos h, wy_bx rfl, wy_c9 (wy_R_co hR) (by omega) (by omega)]
  exact ⟨S, rfl, hR⟩
theorem wz_a_planSource (hI : wy_iv P) (hR : wy_R wy_al S P) (hx : wy_rg x) (hy : wy_rg y) : wz_q (wy_isS P x y) ((wy_pp P x.toNat).2.1 y.toNat) P S (f_X8_planSource x y S) := by
  have o := wy_o28 hI
  have b13 := wy_b13 hI x.toNat
  unfold f_X8_planSource
  rw [wy_x_fR hI hR hx]
  by_cases h : wy_isR P x
  · rw [if_pos h, wy_bx rfl, wy_x_cS hI hR (by omega) hy]
    by_cases h2 : 0 ≤ y ∧ y < P 13 x.toNat
    · refine ⟨fun _ => ?_, fun h' => absurd ⟨h, h2⟩ h'⟩
      obtain ⟨S1, e1, hf, hb, -⟩ := wy_x_ft hI (wy_R_co hR) (r := x.toNat) (by omega)
      have q1 := (hb.2.2.2.1 y.toNat (by omega)).1
      rw [if_pos h2, wy_bx rfl, wy_bd e1, wy_ix (by omega) (by omega) (by omega), q1]
      exact ⟨S1, rfl, wy_fr_R hR hf⟩
    · refine ⟨fun h' => absurd h'.2 h2, fun _ => by rw [if_neg h2, wy_bx1 rfl]⟩
  · refine ⟨fun h' => absurd h'.1 h, fun _ => by rw [if_neg h, wy_bx1 rfl]⟩
theorem wz_a_planWay (hI : wy_iv P) (hR : wy_R wy_al S P) (hx : wy_rg x) (hy : wy_rg y) : wz_q (wy_isS P x y) ((wy_pp P x.toNat).2.2 y.toNat) P S (f_X8_planWay x y S) := by
  have o := wy_o28 hI
  have b13 := wy_b13 hI x.toNat
  unfold f_X8_planWay
  rw [wy_x_fR hI hR hx]
  by_cases h : wy_isR P x
  · rw [if_pos h, wy_bx rfl, wy_x_cS hI hR (by omega) hy]
    by_cases h2 : 0 ≤ y ∧ y < P 13 x.toNat
    · refine ⟨fun _ => ?_, fun h' => absurd ⟨h, h2⟩ h'⟩
      obtain ⟨S1, e1, hf, hb, -⟩ := wy_x_ft hI (wy_R_co hR) (r := x.toNat) (by omega)
      have q1 := (hb.2.2.2.1 y.toNat (by omega)).2
      rw [if_pos h2, wy_bx rfl, wy_bd e1, wy_ix (by omega) (by omega) (by omega), q1]
      exact ⟨S1, rfl, wy_fr_R hR hf⟩
    · refine ⟨fun h' => absurd h'.2 h2, fun _ => by rw [if_neg h2, wy_bx1 rfl]⟩
  · refine ⟨fun h' => absurd h'.1 h, fun _ => by rw [if_neg h, wy_bx1 rfl]⟩
theorem wz_a_value (hI : wy_iv P) (hR : wy_R wy_al S P) (hx : wy_rg x) (hy : wy_rg y) (hz : wy_rg z) : wz_q ((wy_isT P x ∧ 0 ≤ y ∧ y < P 2 x.toNat ∧ P 3 (40 * x.toNat + y.toNat) ≠ 0) ∧ 0 ≤ z ∧ z < P 1 x.toNat) (P 4 (3 * (40 * x.toNat + y.toNat) + z.toNat)) P S (f_X8_value x y z S) := by
  have o := wy_o5 hI
  have b1 := wy_b1 hI x.toNat
  have b2 := wy_b2 hI x.toNat
  unfold f_X8_value
  rw [wy_x_fT hI hR hx]
  by_cases h : wy_isT P x
  · rw [if_pos h, wy_bx rfl, wy_x_cW hI hR (by omega) hy]
    by_cases hw : 0 ≤ y ∧ y < P 2 x.toNat ∧ P 3 (40 * x.toNat + y.toNat) ≠ 0
    · rw [if_pos hw, wy_bx rfl, wy_x_cC hI hR (by omega) hz]
      by_cases hc : 0 ≤ z ∧ z < P 1 x.toNat
      · refine ⟨fun _ => ?_, fun h' => absurd ⟨⟨h, hw⟩, hc⟩ h'⟩
        rw [if_pos hc, wy_bx rfl, wy_ix (by omega) (by omega) (by omega), wy_ix (by omega) (by omega) (by omega), wy_c4 (wy_R_co hR) (by omega) (by omega) (by omega)]
        exact ⟨S, rfl, hR⟩
      · exact ⟨fun h' => absurd h'.2 hc, fun _ => by rw [if_neg hc, wy_bx1 rfl]⟩
    · exact ⟨fun h' => absurd h'.1.2 hw, fun _ => by rw [if_neg hw, wy_bx1 rfl]⟩
  · exact ⟨fun h' => absurd h'.1.1 h, fun _ => by rw [if_neg h, wy_bx1 rfl]⟩
def wz_ofv (P : wq_St) (i : Nat) (x : Int) : Int := match i with
  | 0 => if wy_isT P x then P 27 x.toNat else -8
  | 1 => if wy_isT P x then P 6 x.toNat else -8
  | 2 => if wy_isT P x then P 10 x.toNat else -8
  | 3 => if wy_isR P x then P 12 x.toNat else -8
  | 4 => if wy_isR P x then wy_ft P x.toNat else -8
  | 5 => if wy_isR P x then wy_tr P x.toNat else -8
  | 6 => if wy_isR P x then wy_fd P x.toNat else -8
  | 7 => if wy_isR P x then wy_sd P x.toNat else -8
  | 8 => if wy_isR P x then wy_fd P x.toNat else -8
  | 9 => if wy_isR P x then wy_sd P x.toNat else -8
  | 10 => if wy_isR P x then P 24 x.toNat else -8
  | 11 => if wy_isR P x then P 25 x.toNat else -8
  | _ => if wy_isR P x then P 26 x.toNat else -8
def wz_atv (P : wq_St) (i : Nat) (x y : Int) : Int := match i with
  | 0 => if wy_isC P x y then P 7 (3 * x.toNat + y.toNat) else -8
  | 1 => if wy_isC P x y then P 8 (3 * x.toNat + y.toNat) else -8
  | 2 => if wy_isC P x y then P 9 (3 * x.toNat + y.toNat) else -8
  | 3 => if wy_isS P x y then (wy_pp P x.toNat).2.1 y.toNat else -8
  | _ => if wy_isS P x y then (wy_pp P x.toNat).2.2 y.toNat else -8
def wz_vav (P : wq_St) (x y z : Int) : Int := if (wy_isT P x ∧ 0 ≤ y ∧ y < P 2 x.toNat ∧ P 3 (40 * x.toNat + y.toNat) ≠ 0) ∧ 0 ≤ z ∧ z < P 1 x.toNat then P 4 (3 * (40 * x.toNat + y.toNat) + z.toNat) else -8
theorem wz_x_of (hI : wy_iv P) (hR : wy_R wy_al S P) (hx : wy_rg x) : ∀ i : Nat, i ≤ 12 → ∃ S', f_L_of (i : Int) x S = some (wz_ofv P i x, S') ∧ wy_R wy_al S' P
  | 0, _ => by
    unfold f_L_of
    rw [if_pos (by decide)]
    exact wz_bhq (wz_a_rows hI hR hx) hR
  | 1, _ => by
    unfold f_L_of
    rw [if_neg (by decide), if_pos (by decide)]
    exact wz_bhq (wz_a_toldRows hI hR hx) hR
  | 2, _ => by
    unfold f_L_of
    rw [if_neg (by decide), if_neg (by decide), if_pos (by decide)]
    exact wz_bhz (wz_a_isMarked hI hR hx) hR (by have h9 := wy_b10 hI x.toNat; omega)
  | 3, _ => by
    unfold f_L_of
    rw [if_neg (by decide), if_neg (by decide), if_neg (by decide), if_pos (by decide)]
    exact wz_bhz (wz_a_isDue hI hR hx) hR (by have h9 := wy_b12 hI x.toNat; omega)
  | 4, _ => by
    unfold f_L_of
    rw [if_neg (by decide), if_neg (by decide), if_neg (by decide), if_neg (by decide), if_pos (by decide)]
    exact wz_bhq (wz_a_foretold hI hR hx) hR
  | 5, _ => by
    unfold f_L_of
    rw [if_neg (by decide), if_neg (by decide), if_neg (by decide), if_neg (by decide), if_neg (by decide), if_pos (by decide)]
    exact wz_bhq (wz_a_minutes hI hR hx) hR
  | 6, _ => by
    unfold f_L_of
    rw [if_neg (by decide), if_neg (by decide), if_neg (by decide), if_neg (by decide), if_neg (by decide), if_neg (by decide), if_pos (by decide)]
    exact wz_bhq (wz_a_answer hI hR hx) hR
  | 7, _ => by
    unfold f_L_of
    rw [if_neg (by decide), if_neg (by decide), if_neg (by decide), if_neg (by decide), if_neg (by decide), if_neg (by decide), if_neg (by decide), if_pos (by decide)]
    exact wz_bhq (wz_a_sum hI hR hx) hR
  | 8, _ => by
    unfold f_L_of
    rw [if_neg (by decide), if_neg (by decide), if_neg (by decide), if_neg (by decide), if_neg (by decide), if_neg (by decide), if_neg (by decide), if_neg (by decide), if_pos (by decide)]
    exact wz_bhq (wz_a_plainAnswer hI hR hx) hR
  | 9, _ => by
    unfold f_L_of
    rw [if_neg (by decide), if_neg (by decide), if_neg (by decide), if_neg (by decide), if_neg (by decide), if_neg (by decide), if_neg (by decide), if_neg (by decide), if_neg (by decide), if_pos (by decide)]
    exact wz_bhq (wz_a_plainSum hI hR hx) hR
  | 10, _ => by
    unfold f_L_of
    rw [if_neg (by decide), if_neg (by decide), if_neg (by decide), if_neg (by decide), if_neg (by decide), if_neg (by decide), if_neg (by decide), if_neg (by decide), if_neg (by decide), if_neg (by decide), if_pos (by decide)]
    exact wz_bhq (wz_a_kept hI hR hx) hR
  | 11, _ => by
    unfold f_L_of
    rw [if_neg (by decide), if_neg (by decide), if_neg (by decide), if_neg (by decide), if_neg (by decide), if_neg (by decide), if_neg (by decide), if_neg (by decide), if_neg (by decide), if_neg (by decide), if_neg (by decide), if_pos (by decide)]
    exact wz_bhq (wz_a_keptSum hI hR hx) hR
  | 12, _ => by
    unfold f_L_of
    rw [if_neg (by decide), if_neg (by decide), if_neg (by decide), if_neg (by decide), if_neg (by decide), if_neg (by decide), if_neg (by decide), if_neg (by decide), if_neg (by decide), if_neg (by decide), if_neg (by decide), if_neg (by decide)]
    exact wz_bhq (wz_a_keptIn hI hR hx) hR
  | i + 13, h => absurd h (by omega)
theorem wz_x_at (hI : wy_iv P) (hR : wy_R wy_al S P) (hx : wy_rg x) (hy : wy_rg y) : ∀ i : Nat, i ≤ 4 → ∃ S', f_L_at (i : Int) x y S = some (wz_atv P i x y, S') ∧ wy_R wy_al S' P
  | 0, _ => by
    unfold f_L_at
    rw [if_pos (by decide)]
    exact wz_bhq (wz_a_unlike hI hR hx hy) hR
  | 1, _ => by
    unfold f_L_at
    rw [if_neg (by decide), if_pos (by decide)]
    exact wz_bhq (wz_a_least hI hR hx hy) hR
  | 2, _ => by
    unfold f_L_at
    rw [if_neg (by decide), if_neg (by decide), if_pos (by decide)]
    exact wz_bhq (wz_a_greatest hI hR hx hy) hR
  | 3, _ => by
    unfold f_L_at
    rw [if_neg (by decide), if_neg (by decide), if_neg (by decide), if_pos (by decide)]
    exact wz_bhq (wz_a_planSource hI hR hx hy) hR
  | 4, _ => by
    unfold f_L_at
    rw [if_neg (by decide), if_neg (by decide), if_neg (by decide), if_neg (by decide)]
    exact wz_bhq (wz_a_planWay hI hR hx hy) hR
  | i + 5, h => absurd h (by omega)
theorem wz_x_value (hI : wy_iv P) (hR : wy_R wy_al S P) (hx : wy_rg x) (hy : wy_rg y) (hz : wy_rg z) : ∃ S', f_L_value x y z S = some (wz_vav P x y z, S') ∧ wy_R wy_al S' P := by
  unfold f_L_value
  exact wz_bhq (wz_a_value hI hR hx hy hz) hR
theorem wz_x_nights (hR : wy_R wy_al S P) : ∃ S', f_X8_nights S = some (P 0 29, S') ∧ wy_R wy_al S' P := by
  unfold f_X8_nights
  rw [wy_cG hR]
  exact ⟨S, rfl, hR⟩
theorem wz_x_paid (hR : wy_R wy_al S P) : ∃ S', f_X8_paid S = some (P 0 30, S') ∧ wy_R wy_al S' P := by
  unfold f_X8_paid
  rw [wy_cP hR]
  exact ⟨S, rfl, hR⟩
theorem wz_x_left (hR : wy_R wy_al S P) : ∃ S', f_X8_left S = some (P 0 31, S') ∧ wy_R wy_al S' P := by
  unfold f_X8_left
  rw [wy_cL hR]
  exact ⟨S, rfl, hR⟩
theorem wz_x_owed (hR : wy_R wy_al S P) : ∃ S', f_X8_owed S = some (P 0 32, S') ∧ wy_R wy_al S' P := by
  unfold f_X8_owed
  rw [wy_cO hR]
  exact ⟨S, rfl, hR⟩
end
/-! TWO STORES: what they answer -/
section
variable {P Q : wq_St} {d x y z : Int} {t r : Nat}
theorem wz_iT (h : wz_E P Q) : wy_isT Q x ↔ wy_isT P x := by
  unfold wy_isT
  rw [wz_e h 0 _ (by decide)]
theorem wz_iR (h : wz_E P Q) : wy_isR Q x ↔ wy_isR P x := by
  unfold wy_isR
  rw [wz_e h 0 _ (by decide)]
theorem wz_iC (h : wz_E P Q) : wy_isC Q x y ↔ wy_isC P x y := by
  unfold wy_isC
  rw [wz_e h 0 _ (by decide), wz_e h 1 _ (by decide)]
theorem wz_iS (h : wz_E P Q) : wy_isS Q x y ↔ wy_isS P x y := by
  unfold wy_isS
  rw [wz_e h 0 _ (by decide), wz_e h 13 _ (by decide)]
theorem wz_ife {c c' : Prop} [Decidable c] [Decidable c'] {v v' : Int} (h : c' ↔ c) (hv : c → v' = v) : (if c' then v' else -8) = if c then v else -8 := by
  by_cases hc : c
  · rw [if_pos hc, if_pos (h.mpr hc), hv hc]
  · rw [if_neg hc, if_neg (fun h' => hc (h.mp h'))]
theorem wz_v_of (hJ : wz_J d P Q) : ∀ i : Nat, i ≤ 12 → i ≠ 7 → i ≠ 9 → i ≠ 11 → wz_ofv Q i x = wz_ofv P i x := by
  obtain ⟨⟨hI, hI'⟩, hW, hC, hL⟩ := hJ
  have o := wy_o28 hI
  intro i h1 h7 h9 h11
  match i, h1, h7, h9, h11 with
  | 0, _, _, _, _ => exact wz_ife (wz_iT hL.1) (fun _ => wz_e hL.1 27 _ (by decide))
  | 1, _, _, _, _ => exact wz_ife (wz_iT hL.1) (fun _ => wz_e hL.1 6 _ (by decide))
  | 2, _, _, _, _ => exact wz_ife (wz_iT hL.1) (fun _ => wz_e hL.1 10 _ (by decide))
  | 3, _, _, _, _ => exact wz_ife (wz_iR hL.1) (fun _ => wz_e hL.1 12 _ (by decide))
  | 4, _, _, _, _ => exact wz_ife (wz_iR hL.1) (fun hc => wz_ft hI hL hC (by have h5 : wy_isR P x := hc; omega))
  | 5, _, _, _, _ => exact wz_ife (wz_iR hL.1) (fun hc => wz_tr hI hL hC (by have h5 : wy_isR P x := hc; omega))
  | 6, _, _, _, _ => exact wz_ife (wz_iR hL.1) (fun hc => wz_fd hI hL hC (by have h5 : wy_isR P x := hc; omega))
  | 7, _, h, _, _ => exact absurd rfl h
  | 8, _, _, _, _ => exact wz_ife (wz_iR hL.1) (fun hc => wz_fd hI hL hC (by have h5 : wy_isR P x := hc; omega))
  | 9, _, _, h, _ => exact absurd rfl h
  | 10, _, _, _, _ => exact wz_ife (wz_iR hL.1) (fun _ => wz_e hL.1 24 _ (by decide))
  | 11, _, _, _, h => exact absurd rfl h
  | 12, _, _, _, _ => exact wz_ife (wz_iR hL.1) (fun _ => wz_e hL.1 26 _ (by decide))
  | i + 13, h, _, _, _ => omega
theorem wz_v_at0 (hJ : wz_J d P Q) : wz_atv Q 0 x y = wz_atv P 0 x y := wz_ife (wz_iC hJ.2.2.2.1) (fun _ => wz_e hJ.2.2.2.1 7 _ (by decide))
theorem wz_v_at3 (hJ : wz_J d P Q) : wz_atv Q 3 x y = wz_atv P 3 x y := by
  obtain ⟨⟨hI, hI'⟩, hW, hC, hL⟩ := hJ
  have o := wy_o28 hI
  exact wz_ife (wz_iS hL.1) (fun hc => by rw [wz_pp hI hL hC (by have h5 : wy_isS P x y := hc; omega)])
theorem wz_v_at4 (hJ : wz_J d P Q) : wz_atv Q 4 x y = wz_atv P 4 x y := by
  obtain ⟨⟨hI, hI'⟩, hW, hC, hL⟩ := hJ
  have o := wy_o28 hI
  exact wz_ife (wz_iS hL.1) (fun hc => by rw [wz_pp hI hL hC (by have h5 : wy_isS P x y := hc; omega)])
theorem wz_v_sum (hJ : wz_J d P Q) (hr : (r : Int) < P 0 28) : wz_ofv Q 7 (r : Int) = wz_ofv P 7 (r : Int) + (if P 22 r = -1 then 0 else d) * wz_ofv P 6 (r : Int) ∧ wz_ofv Q 9 (r : Int) = wz_ofv P 9 (r : Int) + (if P 22 r = -1 then 0 else d) * wz_ofv P 6 (r : Int) := by
  obtain ⟨⟨hI, hI'⟩, hW, hC, hL⟩ := hJ
  have o := wy_o28 hI
  have h : wy_isR P (r : Int) := ⟨by omega, hr⟩
  have h' : wy_isR Q (r : Int) := (wz_iR hL.1).mpr h
  have e := wz_sd hI hL hC (r := r) (by omega)
  simp only [wz_ofv]
  rw [if_pos h, if_pos h, if_pos h', Int.toNat_natCast, e]
  exact ⟨rfl, rfl⟩
theorem wz_v_told (hJ : wz_J d P Q) (h : wy_isC P x y) : wz_atv Q 1 x y = (if wz_ofv P 1 x = 0 then 0 else wz_atv P 1 x y + d) ∧ wz_atv Q 2 x y = (if wz_ofv P 1 x = 0 then 0 else wz_atv P 2 x y + d) := by
  obtain ⟨⟨hI, hI'⟩, hW, hC, hL⟩ := hJ
  have o := wy_o5 hI
  have h' : wy_isC Q x y := (wz_iC hL.1).mpr h
  have hT : wy_isT P x := h.1
  have g := hL.2.2.1 x.toNat y.toNat (by omega) (by omega)
  simp only [wz_atv, wz_ofv]
  rw [if_pos h, if_pos h', if_pos hT, if_pos h, if_pos h']
  by_cases c : P 6 x.toNat = 0
  · rw [if_pos c, if_pos c]
    exact (g.1 c).2
  · rw [if_neg c, if_neg c]
    exact g.2 c
theorem wz_v_value (hJ : wz_J d P Q) : wz_vav Q x y z = if wz_vav P x y z < 0 then wz_vav P x y z else wz_vav P x y z + d := by
  obtain ⟨⟨hI, hI'⟩, hW, hC, hL⟩ := hJ
  have o := wy_o5 hI
  have b4 := wy_b4 hI (3 * (40 * x.toNat + y.toNat) + z.toNat)
  have b2 := wy_b2 hI x.toNat
  unfold wz_vav
  have hc : ((wy_isT Q x ∧ 0 ≤ y ∧ y < Q 2 x.toNat ∧ Q 3 (40 * x.toNat + y.toNat) ≠ 0) ∧ 0 ≤ z ∧ z < Q 1 x.toNat) ↔ ((wy_isT P x ∧ 0 ≤ y ∧ y < P 2 x.toNat ∧ P 3 (40 * x.toNat + y.toNat) ≠ 0) ∧ 0 ≤ z ∧ z < P 1 x.toNat) := by
    rw [wz_iT hL.1, wz_e hL.1 2 _ (by decide), wz_e hL.1 3 _ (by decide), wz_e hL.1 1 _ (by decide)]
  by_cases c : (wy_isT P x ∧ 0 ≤ y ∧ y < P 2 x.toNat ∧ P 3 (40 * x.toNat + y.toNat) ≠ 0) ∧ 0 ≤ z ∧ z < P 1 x.toNat
  · rw [if_pos c, if_pos (hc.mpr c), if_neg (by omega)]
    have hT : wy_isT P x := c.1.1
    exact hL.2.1 x.toNat y.toNat z.toNat (by omega) (by omega) (by omega)
  · rw [if_neg c, if_neg (fun h' => c (hc.mp h')), if_pos (by decide)]
end
