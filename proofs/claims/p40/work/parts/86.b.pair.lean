/-! TWO STORES: each call that changes them -/
def wz_J (d : Int) (P Q : wq_St) : Prop := (wy_iv P ∧ wy_iv Q) ∧ wy_iW P ∧ wz_C P ∧ wz_L d P Q
/-- tables, reports, columns, sums as before -/
def wz_F (P P' : wq_St) : Prop := P' 0 5 = P 0 5 ∧ P' 0 28 = P 0 28 ∧ (∀ t : Nat, P' 1 t = P 1 t) ∧ ∀ r : Nat, P' 22 r = P 22 r
def wz_pr (F : wq_St → Prop) (d : Int) (Sa Sb : wq_St) (xa xb : Option (Nat × Int × wq_St)) : Prop :=
  (∃ v Sa' Sb' P' Q', xa = some (0, v, Sa') ∧ xb = some (0, v, Sb') ∧ wy_R wy_al Sa' P' ∧ wy_R wy_al Sb' Q' ∧ wz_J d P' Q' ∧ F P') ∨ ∃ n, n < 3 ∧ xa = some (n + 1, 0, Sa) ∧ xb = some (n + 1, 0, Sb)
section
variable {P Q Sa Sb : wq_St} {d x y z u v : Int} {t r : Nat}
theorem wz_iWc {P' : wq_St} (hW : wy_iW P) (hF : wz_F P P') : wy_iW P' := fun t ht => by
  rw [hF.1] at ht
  rw [hF.2.2.1]
  exact hW t ht
theorem wz_iWq (hW : wy_iW P) (h : wz_E P Q) : wy_iW Q := fun t ht => by
  rw [wz_e h 0 _ (by decide)] at ht
  rw [wz_e h 1 _ (by decide)]
  exact hW t ht
theorem wz_Es {P Q : wq_St} (h : wz_E P Q) (f i : Nat) (v : Int) : wz_E (wq_set P f i v) (wq_set Q f i v) := fun g j n4 n8 n9 n19 n25 => by
  by_cases e : g = f ∧ j = i
  · rw [wy_set_at e.1 e.2, wy_set_at e.1 e.2]
  · rw [wy_set_ne e, wy_set_ne e]
    exact h g j n4 n8 n9 n19 n25
theorem wz_Ef {P Q : wq_St} (h : wz_E P Q) {f : Nat} (i : Nat) (v v' : Int) (hf : f = 4 ∨ f = 8 ∨ f = 9 ∨ f = 19 ∨ f = 25) : wz_E (wq_set P f i v) (wq_set Q f i v') := fun g j n4 n8 n9 n19 n25 => by
  rw [wy_set_ne (by omega), wy_set_ne (by omega)]
  exact h g j n4 n8 n9 n19 n25
theorem wz_Vc {P' Q' : wq_St} (h : wz_V d P Q) (h1 : ∀ i, P' 1 i = P 1 i) (h2 : ∀ i, P' 2 i = P 2 i) (h4 : ∀ i, P' 4 i = P 4 i) (q4 : ∀ i, Q' 4 i = Q 4 i) : wz_V d P' Q' := fun t i c ht hi hc => by
  rw [h2] at hi
  rw [h1] at hc
  rw [h4, q4]
  exact h t i c ht hi hc
theorem wz_Gc {P' Q' : wq_St} (h : wz_G d P Q) (h1 : ∀ i, P' 1 i = P 1 i) (h6 : ∀ i, P' 6 i = P 6 i) (h8 : ∀ i, P' 8 i = P 8 i) (h9 : ∀ i, P' 9 i = P 9 i) (q8 : ∀ i, Q' 8 i = Q 8 i) (q9 : ∀ i, Q' 9 i = Q 9 i) : wz_G d P' Q' := fun t c ht hc => by
  rw [h1] at hc
  rw [h6, h8, h9, q8, q9]
  exact h t c ht hc
theorem wz_Nc {P' Q' : wq_St} (h : wz_N d P Q) (h15 : ∀ i, P' 15 i = P 15 i) (h16 : ∀ i, P' 16 i = P 16 i) (h19 : ∀ i, P' 19 i = P 19 i) (q19 : ∀ i, Q' 19 i = Q 19 i) : wz_N d P' Q' := fun r k hr hk hn => by
  rw [h15] at hk
  rw [h16] at hn
  rw [h19, q19]
  exact h r k hr hk hn
/-- rows put in: the values of columns that are there greater by d -/
theorem wz_o_insert {y' z' u' : Int} (hJ : wz_J d P Q) (hRa : wy_R wy_al Sa P) (hRb : wy_R wy_al Sb Q) (ht : (t : Int) < P 0 5) (c0 : 0 ≤ y ∧ y ≤ 999) (c1 : 0 ≤ z ∧ z ≤ (if P 1 t ≤ ((1 : Nat) : Int) then 0 else 999)) (c2 : 0 ≤ u ∧ u ≤ (if P 1 t ≤ ((2 : Nat) : Int) then 0 else 999)) (c0' : 0 ≤ y' ∧ y' ≤ 999) (c1' : 0 ≤ z' ∧ z' ≤ (if P 1 t ≤ ((1 : Nat) : Int) then 0 else 999)) (c2' : 0 ≤ u' ∧ u' ≤ (if P 1 t ≤ ((2 : Nat) : Int) then 0 else 999)) (ey : y' = y + d) (ez : 1 < P 1 t → z' = z + d) (eu : 2 < P 1 t → u' = u + d) :
    wz_pr (wz_F P) d Sa Sb (f_X8_insert (t : Int) y z u Sa) (f_X8_insert (t : Int) y' z' u' Sb) := by
  obtain ⟨⟨hI, hI'⟩, hW, hC, hL⟩ := hJ
  have o := wy_o5 hI
  have t4 : t < 4 := by omega
  have b2 := wy_b2 hI t
  have q1 := wz_e hL.1 1 t (by decide)
  have q2 := wz_e hL.1 2 t (by decide)
  have q27 := wz_e hL.1 27 t (by decide)
  have xa := wz_x_insert hI hW hRa ht c0 c1 c2
  have xb := wz_x_insert (t := t) hI' (wz_iWq hW hL.1) hRb (by rw [wz_e hL.1 0 _ (by decide)]; exact ht) c0' (by rw [q1]; exact c1') (by rw [q1]; exact c2')
  rw [q2] at xb
  have cb : ∀ {c : Nat} {w : Int}, w ≤ (if P 1 t ≤ (c : Int) then 0 else 999) → w ≤ 999 := fun h => by
    split at h <;> omega
  by_cases c40 : P 2 t < 40
  · obtain ⟨Sa', ea, ra⟩ := xa.1 c40
    obtain ⟨Sb', eb, rb⟩ := xb.1 c40
    obtain ⟨i, hi⟩ : ∃ i : Nat, P 2 t = (i : Int) := ⟨(P 2 t).toNat, by omega⟩
    have hi' : Q 2 t = (i : Int) := q2.trans hi
    have i40 : i < 40 := by omega
    unfold wz_put at ra rb
    rw [hi, Int.toNat_natCast] at ra
    rw [hi', Int.toNat_natCast] at rb
    have hF : wz_F P (wq_set (wq_set (wq_set (wq_set (wq_set (wq_set P 4 (3 * (40 * t + i)) y) 4 (3 * (40 * t + i) + 1) z) 4 (3 * (40 * t + i) + 2) u) 3 (40 * t + i) 1) 2 t ((i : Int) + 1)) 27 t (P 27 t + 1)) := ⟨by simp (disch := omega) only [wy_set_ne], by simp (disch := omega) only [wy_set_ne], fun _ => by simp (disch := omega) only [wy_set_ne], fun _ => by simp (disch := omega) only [wy_set_ne]⟩
    refine Or.inl ⟨_, Sa', Sb', _, _, ea, eb, ra, rb, ⟨⟨wy_iv_put hI t4 hi i40 c0 ⟨c1.1, cb c1.2⟩ ⟨c2.1, cb c2.2⟩, wy_iv_put hI' t4 hi' i40 c0' ⟨c1'.1, cb c1'.2⟩ ⟨c2'.1, cb c2'.2⟩⟩, wz_iWc hW hF, wz_C_cg hC (fun f j hf => by simp (disch := omega) only [wy_set_ne]), ?_, ?_, ?_, ?_⟩, hF⟩
    · rw [q27]
      exact wz_Es (wz_Es (wz_Es (wz_Ef (wz_Ef (wz_Ef hL.1 _ _ _ (by omega)) _ _ _ (by omega)) _ _ _ (by omega)) _ _ _) _ _ _) _ _ _
    · intro t' i' c ht' hi2 hc
      have b2' := wy_b2 hI t'
      have b1' := wy_b1 hI t'
      simp (disch := omega) only [wy_set_ne] at hc
      rw [wy_set_ne (by omega)] at hi2
      have hi40 : i' < 40 := by
        by_cases et : t' = t
        · rw [wy_set_at rfl et] at hi2
          omega
        · rw [wy_set_ne (by omega)] at hi2
          simp (disch := omega) only [wy_set_ne] at hi2
          omega
      have c3 : c < 3 := by omega
      rw [wy_set_ne (by omega), wy_set_ne (by omega), wy_set_ne (by omega), wy_set_ne (k := 27) (by omega), wy_set_ne (k := 2) (by omega), wy_set_ne (k := 3) (by omega)]
      by_cases et : t' = t ∧ i' = i
      · obtain ⟨rfl, rfl⟩ := et
        by_cases k2 : c = 2
        · subst k2
          rw [wy_set_at rfl rfl, wy_set_at rfl rfl]
          exact eu (by omega)
        · by_cases k1 : c = 1
          · subst k1
            rw [wy_set_ne (by omega), wy_set_at rfl rfl, wy_set_ne (by omega), wy_set_at rfl rfl]
            exact ez (by omega)
          · obtain rfl : c = 0 := by omega
            rw [wy_set_ne (by omega), wy_set_ne (by omega), wy_set_at rfl (Nat.add_zero _), wy_set_ne (by omega), wy_set_ne (by omega), wy_set_at rfl (Nat.add_zero _)]
            exact ey
      · rw [wy_set_ne (by omega), wy_set_ne (by omega), wy_set_ne (by omega), wy_set_ne (by omega), wy_set_ne (by omega), wy_set_ne (by omega)]
        refine hL.2.1 t' i' c ht' ?_ hc
        by_cases et2 : t' = t
        · rw [wy_set_at rfl et2] at hi2
          rw [et2, hi]
          omega
        · rw [wy_set_ne (by omega)] at hi2
          simp (disch := omega) only [wy_set_ne] at hi2
          exact hi2
    · exact wz_Gc hL.2.2.1 (fun _ => by simp (disch := omega) only [wy_set_ne]) (fun _ => by simp (disch := omega) only [wy_set_ne]) (fun _ => by simp (disch := omega) only [wy_set_ne]) (fun _ => by simp (disch := omega) only [wy_set_ne]) (fun _ => by simp (disch := omega) only [wy_set_ne]) (fun _ => by simp (disch := omega) only [wy_set_ne])
    · exact wz_Nc hL.2.2.2 (fun _ => by simp (disch := omega) only [wy_set_ne]) (fun _ => by simp (disch := omega) only [wy_set_ne]) (fun _ => by simp (disch := omega) only [wy_set_ne]) (fun _ => by simp (disch := omega) only [wy_set_ne])
  · exact Or.inr ⟨2, by omega, xa.2 c40, xb.2 c40⟩
theorem wz_o_delete (hJ : wz_J d P Q) (hRa : wy_R wy_al Sa P) (hRb : wy_R wy_al Sb Q) (ht : (t : Int) < P 0 5) (hy : wy_rg y) : wz_pr (wz_F P) d Sa Sb (f_X8_delete (t : Int) y Sa) (f_X8_delete (t : Int) y Sb) := by
  obtain ⟨⟨hI, hI'⟩, hW, hC, hL⟩ := hJ
  have o := wy_o5 hI
  have t4 : t < 4 := by omega
  have xa := wz_x_delete hI hRa ht hy
  have xb := wz_x_delete (t := t) hI' hRb (by rw [wz_e hL.1 0 _ (by decide)]; exact ht) hy
  rw [wz_e hL.1 2 _ (by decide), wz_e hL.1 3 _ (by decide), wz_e hL.1 27 _ (by decide)] at xb
  by_cases c : 0 ≤ y ∧ y < P 2 t ∧ P 3 (40 * t + y.toNat) ≠ 0
  · obtain ⟨Sa', ea, ra⟩ := xa.1 c
    obtain ⟨Sb', eb, rb⟩ := xb.1 c
    unfold wz_del at ra rb
    have hF : wz_F P (wq_set (wq_set P 3 (40 * t + y.toNat) 0) 27 t (P 27 t - 1)) := ⟨by simp (disch := omega) only [wy_set_ne], by simp (disch := omega) only [wy_set_ne], fun _ => by simp (disch := omega) only [wy_set_ne], fun _ => by simp (disch := omega) only [wy_set_ne]⟩
    refine Or.inl ⟨_, Sa', Sb', _, _, ea, eb, ra, rb, ⟨⟨wy_iv_del hI t4 (by omega) c.2.2, wy_iv_del hI' t4 (by rw [wz_e hL.1 2 _ (by decide)]; omega) (by rw [wz_e hL.1 3 _ (by decide)]; exact c.2.2)⟩, wz_iWc hW hF, wz_C_cg hC (fun f j hf => by simp (disch := omega) only [wy_set_ne]), ?_⟩, hF⟩
    rw [wz_e hL.1 27 _ (by decide)]
    exact wz_set (wz_set hL _ (by decide)) _ (by decide)
  · exact Or.inr ⟨0, by omega, xa.2 c, xb.2 c⟩
theorem wz_o_setIndex (hJ : wz_J d P Q) (hRa : wy_R wy_al Sa P) (hRb : wy_R wy_al Sb Q) (ht : (t : Int) < P 0 5) (hy : wy_rg y) (hz : z = 0 ∨ z = 1) : wz_pr (wz_F P) d Sa Sb (f_X8_setIndex (t : Int) y z Sa) (f_X8_setIndex (t : Int) y z Sb) := by
  obtain ⟨⟨hI, hI'⟩, hW, hC, hL⟩ := hJ
  have xa := wz_x_setIndex hI hRa ht hy hz
  have xb := wz_x_setIndex (t := t) hI' hRb (by rw [wz_e hL.1 0 _ (by decide)]; exact ht) hy hz
  rw [wz_e hL.1 1 _ (by decide), wz_e hL.1 5 _ (by decide)] at xb
  by_cases c : 0 ≤ y ∧ y < P 1 t
  · obtain ⟨Sa', ea, ra⟩ := xa.1 c
    obtain ⟨Sb', eb, rb⟩ := xb.1 c
    have hF : wz_F P (wq_set P 5 (3 * t + y.toNat) z) := ⟨by simp (disch := omega) only [wy_set_ne], by simp (disch := omega) only [wy_set_ne], fun _ => by simp (disch := omega) only [wy_set_ne], fun _ => by simp (disch := omega) only [wy_set_ne]⟩
    exact Or.inl ⟨_, Sa', Sb', _, _, ea, eb, ra, rb, ⟨⟨wy_iv_5 hI hz, wy_iv_5 hI' hz⟩, wz_iWc hW hF, wz_C_cg hC (fun f j hf => by simp (disch := omega) only [wy_set_ne]), wz_set hL _ (by decide)⟩, hF⟩
  · exact Or.inr ⟨0, by omega, xa.2 c, xb.2 c⟩
theorem wz_o_renew (hJ : wz_J d P Q) (hRa : wy_R wy_al Sa P) (hRb : wy_R wy_al Sb Q) (ht : (t : Int) < P 0 5) (hy : 1 ≤ y ∧ y ≤ 10) : wz_pr (wz_F P) d Sa Sb (f_X8_renew (t : Int) y Sa) (f_X8_renew (t : Int) y Sb) := by
  obtain ⟨⟨hI, hI'⟩, hW, hC, hL⟩ := hJ
  have o := wy_o5 hI
  obtain ⟨Sa', ea, ra⟩ := wz_x_renew hI hRa ht hy
  obtain ⟨Sb', eb, rb⟩ := wz_x_renew (t := t) hI' hRb (by rw [wz_e hL.1 0 _ (by decide)]; exact ht) hy
  rw [wz_ns hL.1, wz_e hL.1 2 _ (by decide)] at eb
  have hF : wz_F P (wy_rn P t y (P 1 t).toNat) := ⟨wy_rn_o (by decide), wy_rn_o (by decide), fun _ => wy_rn_o (by decide), fun _ => wy_rn_o (by decide)⟩
  exact Or.inl ⟨_, Sa', Sb', _, _, ea, eb, ra, rb, ⟨⟨wy_iv_rn hI hy.1 _, wy_iv_rn hI' hy.1 _⟩, wz_iWc hW hF, wz_C_cg hC (fun f j hf => wy_rn_o (by omega)), wz_rn hI hL (by omega) hy.1 hy.2⟩, hF⟩
theorem wz_o_setStep (hJ : wz_J d P Q) (hRa : wy_R wy_al Sa P) (hRb : wy_R wy_al Sb Q) (hx : 1 ≤ x ∧ x ≤ 10) : wz_pr (wz_F P) d Sa Sb (f_X8_setStep x Sa) (f_X8_setStep x Sb) := by
  obtain ⟨⟨hI, hI'⟩, hW, hC, hL⟩ := hJ
  obtain ⟨Sa', ea, ra⟩ := wz_x_setStep hI hRa hx
  obtain ⟨Sb', eb, rb⟩ := wz_x_setStep hI' hRb hx
  rw [wz_e hL.1 0 11 (by decide)] at eb
  have hF : wz_F P (wq_set P 0 11 x) := ⟨by simp (disch := omega) only [wy_set_ne], by simp (disch := omega) only [wy_set_ne], fun _ => by simp (disch := omega) only [wy_set_ne], fun _ => by simp (disch := omega) only [wy_set_ne]⟩
  exact Or.inl ⟨_, Sa', Sb', _, _, ea, eb, ra, rb, ⟨⟨wy_iv_step hI hx, wy_iv_step hI' hx⟩, wz_iWc hW hF, wz_C_cg hC (fun f j hf => by simp (disch := omega) only [wy_set_ne]), wz_set hL _ (by decide)⟩, hF⟩
theorem wz_o_setDue (hJ : wz_J d P Q) (hRa : wy_R wy_al Sa P) (hRb : wy_R wy_al Sb Q) (hr : (r : Int) < P 0 28) (hy : y = 0 ∨ y = 1) : wz_pr (wz_F P) d Sa Sb (f_X8_setDue (r : Int) y Sa) (f_X8_setDue (r : Int) y Sb) := by
  obtain ⟨⟨hI, hI'⟩, hW, hC, hL⟩ := hJ
  have hr' : (r : Int) < Q 0 28 := by rw [wz_e hL.1 0 _ (by decide)]; exact hr
  obtain ⟨Sa', ea, ra⟩ := wz_x_setDue hI hRa hr hy
  obtain ⟨Sb', eb, rb⟩ := wz_x_setDue hI' hRb hr' hy
  rw [wz_e hL.1 12 _ (by decide)] at eb
  have hF : wz_F P (wq_set P 12 r y) := ⟨by simp (disch := omega) only [wy_set_ne], by simp (disch := omega) only [wy_set_ne], fun _ => by simp (disch := omega) only [wy_set_ne], fun _ => by simp (disch := omega) only [wy_set_ne]⟩
  exact Or.inl ⟨_, Sa', Sb', _, _, ea, eb, ra, rb, ⟨⟨wy_iv_due hI hr hy, wy_iv_due hI' hr' hy⟩, wz_iWc hW hF, wz_C_cg hC (fun f j hf => by simp (disch := omega) only [wy_set_ne]), wz_set hL _ (by decide)⟩, hF⟩
theorem wz_o_addReport (hJ : wz_J d P Q) (hRa : wy_R wy_al Sa P) (hRb : wy_R wy_al Sb Q) (hx : 0 ≤ x ∧ x ≤ 1000) : (P 0 28 < 8 ∧ ∃ Sa' Sb' P' Q', f_X8_addReport x Sa = some (0, P 0 28, Sa') ∧ f_X8_addReport x Sb = some (0, P 0 28, Sb') ∧ wy_R wy_al Sa' P' ∧ wy_R wy_al Sb' Q' ∧ wz_J d P' Q' ∧ P' 0 5 = P 0 5 ∧ P' 0 28 = P 0 28 + 1 ∧ (∀ t : Nat, P' 1 t = P 1 t) ∧ ∀ r : Nat, P' 22 r = P 22 r) ∨ (¬P 0 28 < 8 ∧ f_X8_addReport x Sa = some (2 + 1, 0, Sa) ∧ f_X8_addReport x Sb = some (2 + 1, 0, Sb)) := by
  obtain ⟨⟨hI, hI'⟩, hW, hC, hL⟩ := hJ
  have o := wy_o28 hI
  have xa := wz_x_addReport hI hRa hx
  have xb := wz_x_addReport hI' hRb hx
  have q28 := wz_e hL.1 0 28 (by decide)
  rw [q28] at xb
  by_cases c : P 0 28 < 8
  · obtain ⟨Sa', ea, ra⟩ := xa.1 c
    obtain ⟨Sb', eb, rb⟩ := xb.1 c
    have iv := wy_iv_addReport hI (r := (P 0 28).toNat) hx (by omega) (by omega)
    have iv' := wy_iv_addReport hI' (r := (P 0 28).toNat) hx (by omega) (by omega)
    rw [q28] at iv'
    exact Or.inl ⟨c, Sa', Sb', _, _, ea, eb, ra, rb, ⟨⟨iv, iv'⟩, fun t ht => by
      simp (disch := omega) only [wy_set_ne] at ht ⊢
      exact hW t ht, wz_C_cg hC (fun f j hf => by simp (disch := omega) only [wy_set_ne]), wz_set (wz_set hL _ (by decide)) _ (by decide)⟩, by simp (disch := omega) only [wy_set_ne], wy_set_at rfl rfl, fun _ => by simp (disch := omega) only [wy_set_ne], fun _ => by simp (disch := omega) only [wy_set_ne]⟩
  · exact Or.inr ⟨c, xa.2 c, xb.2 c⟩
theorem wz_o_addSource (hJ : wz_J d P Q) (hRa : wy_R wy_al Sa P) (hRb : wy_R wy_al Sb Q) (hr : (r : Int) < P 0 28) (hy : 0 ≤ y ∧ y < P 0 5) : wz_pr (wz_F P) d Sa Sb (f_X8_addSource (r : Int) y Sa) (f_X8_addSource (r : Int) y Sb) := by
  obtain ⟨⟨hI, hI'⟩, hW, hC, hL⟩ := hJ
  have o := wy_o28 hI
  have b13 := wy_b13 hI r
  have xa := wz_x_addSource hI hRa hr hy
  have xb := wz_x_addSource (r := r) (y := y) hI' hRb (by rw [wz_e hL.1 0 _ (by decide)]; exact hr) (by rw [wz_e hL.1 0 _ (by decide)]; exact hy)
  have q13 := wz_e hL.1 13 r (by decide)
  rw [q13] at xb
  by_cases c : P 13 r < 3
  · obtain ⟨Sa', ea, ra⟩ := xa.1 c
    obtain ⟨Sb', eb, rb⟩ := xb.1 c
    obtain ⟨n, hn⟩ : ∃ n : Nat, P 13 r = (n : Int) := ⟨(P 13 r).toNat, by omega⟩
    have hn' : Q 13 r = (n : Int) := q13.trans hn
    have n3 : n < 3 := by omega
    unfold wz_asr at ra rb
    rw [hn, Int.toNat_natCast] at ra
    rw [hn', Int.toNat_natCast] at rb
    have hF : wz_F P (wq_set (wq_set P 14 (3 * r + n) y) 13 r ((n : Int) + 1)) := ⟨by simp (disch := omega) only [wy_set_ne], by simp (disch := omega) only [wy_set_ne], fun _ => by simp (disch := omega) only [wy_set_ne], fun _ => by simp (disch := omega) only [wy_set_ne]⟩
    refine Or.inl ⟨_, Sa', Sb', _, _, ea, eb, ra, rb, ⟨⟨wy_iv_addSource hI hy hn n3, wy_iv_addSource hI' (by rw [wz_e hL.1 0 _ (by decide)]; exact hy) hn' n3⟩, wz_iWc hW hF, ?_, wz_set (wz_set hL _ (by decide)) _ (by decide)⟩, hF⟩
    have tb : ∀ (r' : Nat) (w : Int), 0 ≤ w → w ≤ 2 → w < P 13 r' → wy_tb (wq_set (wq_set P 14 (3 * r + n) y) 13 r ((n : Int) + 1)) r' w = wy_tb P r' w := fun r' w w0 w2 w3 => by
      unfold wy_tb
      rw [wy_set_ne (by omega), wy_set_ne (fun e => by
        have e2 := e.2
        have er : r' = r := by omega
        subst er
        omega)]
    refine ⟨fun r' k hr' hk => ?_, fun r' hr' h22 => ?_⟩
    · simp (disch := omega) only [wy_set_ne] at hk ⊢
      have hiC := hI.2.2.2.2.2.2.1 r' k hk
      have b17 := wy_b17 hI (6 * r' + k)
      have b20 := wy_b20 hI (6 * r' + k)
      have hc := hC.1 r' k hr' hk
      rw [tb r' _ b17.1 b17.2 hiC.1]
      refine ⟨hc.1, fun k3 => ?_⟩
      rw [tb r' _ b20.1 b20.2 (hiC.2 k3).1]
      exact hc.2 k3
    · simp (disch := omega) only [wy_set_ne] at h22 ⊢
      have b22 := wy_b22 hI r'
      have hs := hI.2.2.2.2.2.2.2.1 r' h22
      rw [tb r' _ (by omega) b22.2 hs.1]
      exact hC.2 r' hr' h22
  · exact Or.inr ⟨2, by omega, xa.2 c, xb.2 c⟩
theorem wz_o_drop (hJ : wz_J d P Q) (hRa : wy_R wy_al Sa P) (hRb : wy_R wy_al Sb Q) (hr : (r : Int) < P 0 28) : wz_pr (wz_F P) d Sa Sb (f_X8_dropCondition (r : Int) Sa) (f_X8_dropCondition (r : Int) Sb) := by
  obtain ⟨⟨hI, hI'⟩, hW, hC, hL⟩ := hJ
  have b15 := wy_b15 hI r
  have xa := wz_x_drop hI hRa hr
  have xb := wz_x_drop (r := r) hI' hRb (by rw [wz_e hL.1 0 _ (by decide)]; exact hr)
  have q15 := wz_e hL.1 15 r (by decide)
  rw [q15] at xb
  by_cases c : P 15 r = 0
  · exact Or.inr ⟨2, by omega, xa.2 c, xb.2 c⟩
  · obtain ⟨Sa', ea, ra⟩ := xa.1 c
    obtain ⟨Sb', eb, rb⟩ := xb.1 c
    obtain ⟨n, hn⟩ : ∃ n : Nat, P 15 r = (n : Int) + 1 := ⟨(P 15 r - 1).toNat, by omega⟩
    rw [show P 15 r - 1 = (n : Int) by omega] at ra rb
    have hF : wz_F P (wq_set P 15 r (n : Int)) := ⟨by simp (disch := omega) only [wy_set_ne], by simp (disch := omega) only [wy_set_ne], fun _ => by simp (disch := omega) only [wy_set_ne], fun _ => by simp (disch := omega) only [wy_set_ne]⟩
    have h15 : ∀ (r' k : Nat), (k : Int) < wq_set P 15 r (n : Int) 15 r' → (k : Int) < P 15 r' := fun r' k hk => by
      by_cases e : r' = r
      · rw [wy_set_at rfl e] at hk
        rw [e]
        omega
      · rw [wy_set_ne (by omega)] at hk
        exact hk
    refine Or.inl ⟨_, Sa', Sb', _, _, ea, eb, ra, rb, ⟨⟨wy_iv_drop hI hn, wy_iv_drop hI' (q15.trans hn)⟩, wz_iWc hW hF, ?_, wz_Es hL.1 _ _ _, wz_Vc hL.2.1 (fun _ => by simp (disch := omega) only [wy_set_ne]) (fun _ => by simp (disch := omega) only [wy_set_ne]) (fun _ => by simp (disch := omega) only [wy_set_ne]) (fun _ => by simp (disch := omega) only [wy_set_ne]), wz_Gc hL.2.2.1 (fun _ => by simp (disch := omega) only [wy_set_ne]) (fun _ => by simp (disch := omega) only [wy_set_ne]) (fun _ => by simp (disch := omega) only [wy_set_ne]) (fun _ => by simp (disch := omega) only [wy_set_ne]) (fun _ => by simp (disch := omega) only [wy_set_ne]) (fun _ => by simp (disch := omega) only [wy_set_ne]), fun r' k hr' hk hn3 => ?_⟩, hF⟩
    · have tb : ∀ (r' : Nat) (w : Int), wy_tb (wq_set P 15 r (n : Int)) r' w = wy_tb P r' w := fun r' w => by
        unfold wy_tb
        rw [wy_set_ne (by omega)]
      refine ⟨fun r' k hr' hk => ?_, fun r' hr' h22 => ?_⟩
      · have hk' := h15 r' k hk
        simp (disch := omega) only [wy_set_ne, tb]
        exact hC.1 r' k hr' hk'
      · simp (disch := omega) only [wy_set_ne, tb] at h22 ⊢
        exact hC.2 r' hr' h22
    · have hk' := h15 r' k hk
      rw [wy_set_ne (by omega)] at hn3
      rw [wy_set_ne (by omega), wy_set_ne (by omega)]
      exact hL.2.2.2 r' k hr' hk' hn3
end
