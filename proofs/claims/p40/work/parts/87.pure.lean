/-! THE LAW: all rounds, from its start -/
def wy_P0 : wq_St := fun f i => if f = 0 ∧ i = 11 then 1 else if f = 22 ∨ f = 24 ∨ f = 25 ∨ f = 26 then -1 else 0
def wy_p0b (f i : Nat) : Bool := !(wy_inb f i) || decide (wq_S0 (wy_ka f i) (wy_io f i) = wy_P0 f i)
theorem wy_p0_all : wy_allb (fun f => wy_allb (fun i => wy_p0b f i) 480) 29 = true := by decide +kernel
theorem wz_p0 {f i : Nat} (h : wy_in f i) : wq_S0 (wy_ka f i) (wy_io f i) = wy_P0 f i := by
  have hi := Nat.lt_of_lt_of_le h.1 (wy_nb_le f)
  have hf : f < 29 := Nat.lt_of_not_le fun hh => by
    have h1 := h.1
    rw [wy_nb_hi hh] at h1
    omega
  have h1 := wy_allb_t (wy_allb_t wy_p0_all f hf) i hi
  unfold wy_p0b at h1
  rw [wy_inb_t h] at h1
  simpa using h1
theorem wz_Z0 : wz_Z wy_P0 wy_P0 (fun _ => 0) (fun _ => 0) wq_SL0 := by
  refine ⟨fun f i _ h => ?_, fun f i _ h => ?_, rfl, rfl⟩
  · have hk := wy_ka_lt h
    unfold wq_cls wq_SL0
    rw [if_pos hk, if_pos hk]
    exact wz_p0 h
  · have hk := wy_ka_lt h
    unfold wq_clt wq_SL0
    rw [if_pos hk, if_neg (by omega), if_pos (by omega), Nat.add_sub_cancel_left]
    exact wz_p0 h
theorem wy_p0_o {f i : Nat} (h : ¬(f = 0 ∧ i = 11) ∧ ¬(f = 22 ∨ f = 24 ∨ f = 25 ∨ f = 26)) : wy_P0 f i = 0 := by
  unfold wy_P0
  rw [if_neg h.1, if_neg h.2]
theorem wy_p0_n {f i : Nat} (h : f = 22 ∨ f = 24 ∨ f = 25 ∨ f = 26) : wy_P0 f i = -1 := by
  unfold wy_P0
  rw [if_neg (by omega), if_pos h]
theorem wy_ct_0 (t : Nat) : ∀ n, wy_ct wy_P0 t n = 0
  | 0 => rfl
  | n + 1 => by
    simp only [wy_ct]
    rw [wy_ct_0 t n, if_pos (wy_p0_o (by omega))]
    rfl
theorem wy_lohi0 : ∀ f, f < 24 → wy_lo f ≤ 0 ∧ 0 ≤ wy_hi f := by decide
theorem wy_iv0 : wy_iv wy_P0 := by
  refine ⟨fun f i h1 h2 => ?_, ?_, fun t ht => wy_p0_o (by omega), fun r hr => wy_p0_o (by omega), fun i => ?_, fun r j hj => ?_, fun r k hk => ?_, fun r hr => absurd (wy_p0_n (by omega)) hr, fun r h1 h2 => ⟨wy_p0_n (by omega), wy_p0_n (by omega), wy_p0_n (by omega), wy_p0_n (by omega)⟩, fun t ht => ?_⟩
  · by_cases e : f = 22
    · subst e
      rw [wy_p0_n (by omega)]
      exact ⟨by show (-1 : Int) ≤ -1; omega, by show (-1 : Int) ≤ 2; omega⟩
    · rw [wy_p0_o (by omega)]
      exact wy_lohi0 f (by omega)
  · unfold wy_iO
    rw [wy_p0_o (i := 5) (by omega), wy_p0_o (i := 28) (by omega), show wy_P0 0 11 = 1 from rfl]
    omega
  · rw [wy_p0_o (by omega), wy_p0_o (by omega)]
    omega
  · rw [wy_p0_o (by omega)] at hj
    omega
  · rw [wy_p0_o (by omega)] at hk
    omega
  · rw [wy_p0_o (by omega), wy_ct_0]
def wz_B (k : Nat) (P : wq_St) : Prop := wy_iv P ∧ wy_iW P ∧ P 0 5 = (k : Int) ∧ P 0 28 = 0 ∧ (∀ r : Nat, P 22 r = -1) ∧ (∀ t : Nat, P 2 t = 0 ∧ P 6 t = 0) ∧ (∀ i : Nat, P 8 i = 0 ∧ P 9 i = 0) ∧ ∀ r : Nat, P 15 r = 0
theorem wz_B0 : wz_B 0 wy_P0 := ⟨wy_iv0, fun t ht => by
  rw [wy_p0_o (by omega)] at ht
  omega, wy_p0_o (by omega), wy_p0_o (by omega), fun r => wy_p0_n (by omega), fun t => ⟨wy_p0_o (by omega), wy_p0_o (by omega)⟩, fun i => ⟨wy_p0_o (by omega), wy_p0_o (by omega)⟩, fun r => wy_p0_o (by omega)⟩
theorem wz_BJ {k : Nat} {P : wq_St} (d : Int) (h : wz_B k P) : wz_J d P P := by
  obtain ⟨hI, hW, -, -, h22, h26, h89, h15⟩ := h
  refine ⟨⟨hI, hI⟩, hW, ⟨fun r k _ hk => ?_, fun r _ hr => absurd (h22 r) hr⟩, fun _ _ _ _ _ _ _ => rfl, fun t i c _ hi _ => ?_, fun t c _ _ => ⟨fun _ => ⟨h89 _, h89 _⟩, fun h6 => absurd (h26 t).2 h6⟩, fun r k _ hk _ => ?_⟩
  · rw [h15] at hk
    omega
  · rw [(h26 t).1] at hi
    omega
  · rw [h15] at hk
    omega
def wz_nob (r : Nat) : Bool := !(decide (wq_w (wq_and (wq_shr 0 (r : Int)) 1) = wq_w 1))
theorem wz_nob_all : wy_allb wz_nob 8 = true := by decide +kernel
theorem wz_BW {P : wq_St} {L8 : Nat → Int} (d : Int) (h : wz_B 3 P) (h8 : ∀ t : Nat, t < 3 → L8 t = P 1 t) : wz_W d P P L8 (fun _ => 0) := by
  have h0 := h
  obtain ⟨hI, hW, h5, h28, h22, -⟩ := h
  refine ⟨wz_BJ d h0, h5, h8, h28.symm, by decide, fun r hr => ⟨fun hb => ?_, fun hn => absurd (h22 r) hn⟩⟩
  have h1 := wy_allb_t wz_nob_all r hr
  unfold wz_nob at h1
  rw [decide_eq_true hb] at h1
  exact absurd h1 (by decide)
def wz_Fi (y : Option (Int × wq_St)) : Prop := ∃ S0, y = some (1, S0)
theorem wz_l119 {X : Nat → Int} {LL : Nat} (hLL : LL ≤ 260) {d : Int} (hd : 1 ≤ d ∧ d ≤ 400) {L8 : Nat → Int} (kx : Int → wq_St → Option (Int × wq_St)) (hk : ∀ S, wz_Fi (kx 1 S)) : ∀ (n k : Nat) (P Q : wq_St) (L9 : Nat → Int) (S : wq_St), 120 < n + k → k ≤ 120 → wz_W d P Q L8 L9 → wz_Z P Q L8 L9 S → wz_Fi (l_L_law_119 X LL d kx n 1 (k : Int) S)
  | 0, k, P, Q, L9, S, h1, h2, _, _ => by omega
  | n + 1, k, P, Q, L9, S, h1, h2, hW, hZ => by
    have hWo := hW
    obtain ⟨hJ, h5, h8, h90, h91, hb⟩ := hW
    have o := wy_o28 hJ.1.1
    rw [l_L_law_119_s]
    unfold b_L_law_119
    rw [show wq_w 120 = 120 from rfl, wq_w_id (x := (k : Int)) (by omega) (by omega)]
    by_cases c : (120 : Int) ≤ (k : Int)
    · rw [if_pos c]
      exact hk S
    · obtain ⟨v, ev, v0, v1⟩ := wz_x_drawn X hLL (k := k % 60) (by omega) S
      have e60 : wq_rem (k : Int) 60 = ((k % 60 : Nat) : Int) := by
        rw [wz_rem (by omega) (by omega) (by omega) (by omega)]
        omega
      have q01 : 0 ≤ wq_div (k : Int) 60 ∧ wq_div (k : Int) 60 ≤ 1 := by
        rw [wz_div (by omega) (by omega) (by omega) (by omega)]
        omega
      rw [if_neg c, if_neg (by decide), wq_gd_t (by decide), e60, wy_bd ev, wq_gd_t (by decide)]
      generalize wq_div (k : Int) 60 = q at q01 ⊢
      have dv : 0 ≤ wq_div v (1 + q) ∧ wq_div v (1 + q) ≤ v := by
        rcases (show q = 0 ∨ q = 1 by omega) with rfl | rfl
        · rw [wz_div v0 (by omega) (by omega) (by omega)]
          omega
        · rw [wz_div v0 (by omega) (by omega) (by omega)]
          omega
      rw [wq_gd_t (by rw [wq_w_id (by omega) (by omega)]; omega), wq_gd_t (by decide), wy_lt]
      have ha : 0 ≤ wq_div v (1 + q) + 7 * q ∧ wq_div v (1 + q) + 7 * q < 1073741832 := by omega
      generalize wq_div v (1 + q) + 7 * q = a at ha ⊢
      rw [wq_gd_t (by decide), wq_gd_t (by decide), wq_gd_t (by decide), wq_gd_t (by decide), wq_gd_t (by decide), wy_lt]
      have r40 : 0 ≤ wq_rem a 40 ∧ wq_rem a 40 < 40 := by
        rw [wz_rem (by omega) (by omega) (by omega) (by omega)]
        omega
      have d40 : 0 ≤ wq_div a 40 ∧ wq_div a 40 < 2147483648 := by
        rw [wz_div (by omega) (by omega) (by omega) (by omega)]
        omega
      generalize wq_rem a 40 = z9 at r40 ⊢
      generalize wq_div a 40 = zv at d40 ⊢
      have t01 : 0 ≤ wq_rem zv 3 ∧ wq_rem zv 3 < 3 := by
        rw [wz_rem d40.1 d40.2 (by omega) (by omega)]
        omega
      have c01 : 0 ≤ wq_rem (wq_div zv 3) 3 ∧ wq_rem (wq_div zv 3) 3 < 3 := by
        rw [wz_div d40.1 d40.2 (by omega) (by omega), wz_rem (by omega) (by omega) (by omega) (by omega)]
        omega
      obtain ⟨t, et⟩ : ∃ t : Nat, wq_rem zv 3 = (t : Int) := ⟨(wq_rem zv 3).toNat, by omega⟩
      obtain ⟨cc, ec⟩ : ∃ cc : Nat, wq_rem (wq_div zv 3) 3 = (cc : Int) := ⟨(wq_rem (wq_div zv 3) 3).toNat, by omega⟩
      have step : ∀ zr : Int, wz_rp P zr → wz_Fi (j_L_law_208 X LL kx (l_L_law_119 X LL d kx n) d (k : Int) a z9 zv (t : Int) (cc : Int) zr S) := fun zr hr => by
        refine wz_n208 (T := wz_Fi) hWo hZ hd (by omega) r40 d40 (by omega) (by omega) hr (fun P' Q' L9' S' hW' hZ' => ?_)
        rw [show (k : Int) + 1 = ((k + 1 : Nat) : Int) by omega]
        exact wz_l119 hLL hd kx hk n (k + 1) P' Q' L9' S' (by omega) (by omega) hW' hZ'
      rw [et, ec, wy_ix (by omega) (by omega) (by omega), show ((0 : Int)).toNat = 0 from rfl, hZ.2.2.2, h90, wq_w_id (x := P 0 28) (by omega) (by omega)]
      by_cases c0 : P 0 28 = 0
      · rw [if_pos c0]
        exact step 0 (Or.inl ⟨fun h => by have h6 : wy_isR P 0 := h; omega, by omega⟩)
      · rw [if_neg c0, wq_gd_t (by decide), wy_ix (by omega) (by omega) (by omega), show ((0 : Int)).toNat = 0 from rfl, h90, wq_gd_t (by rw [wq_w_id (by omega) (by omega)]; exact c0)]
        have m : 0 ≤ wq_rem (wq_div zv 9) (P 0 28) ∧ wq_rem (wq_div zv 9) (P 0 28) < P 0 28 := by
          rw [wz_div d40.1 d40.2 (by omega) (by omega), wz_rem (by omega) (by omega) (by omega) (by omega)]
          exact ⟨Int.emod_nonneg _ c0, Int.emod_lt_of_pos _ (by omega)⟩
        exact step _ (Or.inr ⟨(wq_rem (wq_div zv 9) (P 0 28)).toNat, by omega, by omega⟩)
theorem wz_l44 {X : Nat → Int} {LL : Nat} (hLL : LL ≤ 260) {c3 : Int} (kx : Int → wq_St → Option (Int × wq_St)) (hk : ∀ (P : wq_St) (L8 : Nat → Int) (S : wq_St), wz_B 3 P → (∀ t : Nat, t < 3 → L8 t = P 1 t) → wz_Z P P L8 (fun _ => 0) S → wz_Fi (kx 1 S)) : ∀ (n k : Nat) (P : wq_St) (L8 : Nat → Int) (S : wq_St), 3 < n + k → k ≤ 3 → wz_B k P → (∀ t : Nat, t < k → L8 t = P 1 t) → wz_Z P P L8 (fun _ => 0) S → wz_Fi (l_L_law_44 X LL c3 kx n 1 (k : Int) S)
  | 0, k, P, L8, S, h1, h2, _, _, _ => by omega
  | n + 1, k, P, L8, S, h1, h2, hB, h8, hZ => by
    rw [l_L_law_44_s]
    unfold b_L_law_44
    rw [show wq_w 3 = 3 from rfl, wq_w_id (x := (k : Int)) (by omega) (by omega)]
    by_cases c : (3 : Int) ≤ (k : Int)
    · rw [if_pos c]
      have k3 : k = 3 := by omega
      subst k3
      exact hk P L8 S hB h8 hZ
    · have hBo := hB
      obtain ⟨hI, hW, h5, h28, h22, h26, h89, h15⟩ := hB
      obtain ⟨v, ev, v0, v1⟩ := wz_x_drawn X hLL (k := 61 + k) (by omega) S
      have r3 : 0 ≤ wq_rem v 3 ∧ wq_rem v 3 < 3 := by
        rw [wz_rem v0 (by omega) (by omega) (by omega)]
        omega
      have ix : ∀ f : Nat → Option (Int × wq_St), wq_ix (k : Int) 3 f = f k := fun f => by rw [wy_ix (by omega) (by omega) (by omega), Int.toNat_natCast]
      rw [if_neg c, show (61 : Int) + (k : Int) = ((61 + k : Nat) : Int) by omega, wy_bd ev, wq_gd_t (by decide), ix, wy_lt, if_neg (by decide), ix]
      have hx : 1 ≤ 1 + wq_rem v 3 ∧ 1 + wq_rem v 3 ≤ 3 := by omega
      generalize 1 + wq_rem v 3 = x at hx ⊢
      have hZ1 := wz_Z8 hZ k x
      generalize wq_set S 568 k x = S1 at hZ1 ⊢
      have e1 : ∀ S', wz_Z P P (fun j => if j = k then x else L8 j) (fun _ => 0) S' → S' 568 k = x := fun S' h => by
        rw [h.2.2.1]
        exact if_pos rfl
      obtain ⟨Sa', ea, ra⟩ := wz_x_addTable hI hZ1.1 hx (by omega)
      obtain ⟨Sb', eb, rb⟩ := wz_x_addTable hI hZ1.2.1 hx (by omega)
      have ea' : f_L_add 0 x (wq_cls S1) = some ((k : Int), Sa') := by
        rw [wz_e_add0, wz_bh0 ea, h5]
        rfl
      have eb' : f_L_add 0 x (wq_clt S1) = some ((k : Int), Sb') := by
        rw [wz_e_add0, wz_bh0 eb, h5]
        rfl
      have hZa := wz_Za hZ1 ra
      have e2 : wq_emb 0 284 S1 Sa' 568 k = x := by
        rw [hZa.2.2.1]
        exact if_pos rfl
      have wk : wq_w (k : Int) = (k : Int) := wq_w_id (by omega) (by omega)
      rw [e1 S1 hZ1, wy_bd ea', wy_lt, if_pos wk, ix, e2, wz_clt_a, wy_bd eb', wy_lt, if_pos wk]
      unfold j_L_law_108
      have hZb := wz_Zb hZa rb
      rw [h5, Int.toNat_natCast] at hZb
      rw [show (k : Int) + 1 = ((k + 1 : Nat) : Int) by omega]
      have iv := wy_iv_addTable hI hx h5 (t := k) (by omega)
      rw [h5] at iv
      refine wz_l44 hLL kx hk n (k + 1) _ _ _ (by omega) (by omega) ⟨iv, fun t ht => ?_, ?_, ?_, fun r => ?_, fun t => ⟨?_, ?_⟩, fun i => ⟨?_, ?_⟩, fun r => ?_⟩ (fun t ht => ?_) hZb
      · rw [wy_set_at rfl rfl] at ht
        rw [wy_set_ne (by omega)]
        by_cases e : t = k
        · rw [wy_set_at rfl e]
          exact hx.1
        · rw [wy_set_ne (by omega)]
          exact hW t (by omega)
      · rw [wy_set_at rfl rfl]
        omega
      · rw [wy_set_ne (by omega), wy_set_ne (by omega)]
        exact h28
      · rw [wy_set_ne (by omega), wy_set_ne (by omega)]
        exact h22 r
      · rw [wy_set_ne (by omega), wy_set_ne (by omega)]
        exact (h26 t).1
      · rw [wy_set_ne (by omega), wy_set_ne (by omega)]
        exact (h26 t).2
      · rw [wy_set_ne (by omega), wy_set_ne (by omega)]
        exact (h89 i).1
      · rw [wy_set_ne (by omega), wy_set_ne (by omega)]
        exact (h89 i).2
      · rw [wy_set_ne (by omega), wy_set_ne (by omega)]
        exact h15 r
      · rw [wy_set_ne (by omega)]
        by_cases e : t = k
        · rw [if_pos e, wy_set_at rfl e]
        · rw [if_neg e, wy_set_ne (by omega)]
          exact h8 t (by omega)
theorem wz_pure (X : Nat → Int) (hX : ∀ j, -2147483648 ≤ X j ∧ X j < 2147483648) (LL : Nat) (hLL : LL ≤ 260) : ∃ (v : Int) (S1 S0 : wq_St), f_L_drawn X LL 0 wq_SL0 = some (v, S1) ∧ f_L_law X LL (fun (u : Int) (S : wq_St) => if u = 1 then some ((1 : Int), S) else none) (1 + wq_rem v 400) 1 0 wq_SL0 = some (1, S0) := by
  obtain ⟨v, ev, v0, v1⟩ := wz_x_drawn X hLL (k := 0) (by omega) wq_SL0
  have r : 0 ≤ wq_rem v 400 ∧ wq_rem v 400 < 400 := by
    rw [wz_rem v0 (by omega) (by omega) (by omega)]
    omega
  have key : wz_Fi (f_L_law X LL (fun (u : Int) (S : wq_St) => if u = 1 then some ((1 : Int), S) else none) (1 + wq_rem v 400) 1 0 wq_SL0) := by
    unfold f_L_law
    refine wz_l44 hLL _ (fun P L8 S hB h8 hZ => ?_) 4 0 wy_P0 (fun _ => 0) wq_SL0 (by omega) (by omega) wz_B0 (fun t ht => absurd ht (Nat.not_lt_zero t)) wz_Z0
    exact wz_l119 hLL (d := 1 + wq_rem v 400) (by omega) _ (fun S => ⟨S, if_pos rfl⟩) 121 1 P P (fun _ => 0) S (by omega) (by omega) (wz_BW _ hB h8) hZ
  obtain ⟨S0, e⟩ := key
  exact ⟨v, wq_SL0, S0, ev, e⟩
