/-! TWO STORES: sums, conditions, nights -/
section
variable {P Q Sa Sb : wq_St} {d x y z u v : Int} {t r : Nat}
theorem wz_o_setSum (hJ : wz_J d P Q) (hRa : wy_R wy_al Sa P) (hRb : wy_R wy_al Sb Q) (hr : (r : Int) < P 0 28) (hy : 0 ≤ y ∧ y ≤ 2) (hz : wy_rg z) :
    (∃ Sa' Sb' P' Q', f_X8_setSum (r : Int) y z Sa = some (0, 0, Sa') ∧ f_X8_setSum (r : Int) y z Sb = some (0, 0, Sb') ∧ wy_R wy_al Sa' P' ∧ wy_R wy_al Sb' Q' ∧ wz_J d P' Q' ∧ P' 0 5 = P 0 5 ∧ P' 0 28 = P 0 28 ∧ (∀ t : Nat, P' 1 t = P 1 t) ∧ P' 22 r ≠ -1 ∧ ∀ r' : Nat, r' ≠ r → P' 22 r' = P 22 r') ∨ (f_X8_setSum (r : Int) y z Sa = some (0 + 1, 0, Sa) ∧ f_X8_setSum (r : Int) y z Sb = some (0 + 1, 0, Sb)) := by
  obtain ⟨⟨hI, hI'⟩, hW, hC, hL⟩ := hJ
  have o := wy_o28 hI
  have b13 := wy_b13 hI r
  have hr' : (r : Int) < Q 0 28 := by rw [wz_e hL.1 0 _ (by decide)]; exact hr
  have xa := wz_x_setSum hI hRa hr (y := y) (by omega) (by omega) hz
  have xb := wz_x_setSum hI' hRb hr' (y := y) (by omega) (by omega) hz
  have q13 := wz_e hL.1 13 r (by decide)
  rw [q13, wz_e hL.1 14 _ (by decide), wz_e hL.1 1 _ (by decide)] at xb
  by_cases c : (0 ≤ y ∧ y < P 13 r) ∧ 0 ≤ z ∧ z < P 1 (P 14 (3 * r + y.toNat)).toNat
  · obtain ⟨Sa', ea, ra⟩ := xa.1 c
    obtain ⟨Sb', eb, rb⟩ := xb.1 c
    have b1 := wy_b1 hI (P 14 (3 * r + y.toNat)).toNat
    refine Or.inl ⟨Sa', Sb', _, _, ea, eb, ra, rb, ⟨⟨wy_iv_sum1 hI hr c.1 (by omega) (by omega), wy_iv_sum1 hI' hr' (by rw [q13]; exact c.1) (by omega) (by omega)⟩, fun t' ht' => ?_, ⟨?_, ?_⟩, wz_set (wz_set (wz_set hL _ (by decide)) _ (by decide)) _ (by decide)⟩, by simp (disch := omega) only [wy_set_ne], by simp (disch := omega) only [wy_set_ne], fun _ => by simp (disch := omega) only [wy_set_ne], ?_, fun r' e => by simp (disch := omega) only [wy_set_ne]⟩
    · simp (disch := omega) only [wy_set_ne] at ht' ⊢
      exact hW t' ht'
    · intro r' k hr8 hk
      have tb : ∀ (w : Int), wy_tb (wq_set (wq_set (wq_set P 28 r z) 22 r y) 23 r z) r' w = wy_tb P r' w := fun w => by
        unfold wy_tb
        simp (disch := omega) only [wy_set_ne]
      simp (disch := omega) only [wy_set_ne, tb] at hk ⊢
      exact hC.1 r' k hr8 hk
    · intro r' hr8 h22
      have tb : ∀ (w : Int), wy_tb (wq_set (wq_set (wq_set P 28 r z) 22 r y) 23 r z) r' w = wy_tb P r' w := fun w => by
        unfold wy_tb
        simp (disch := omega) only [wy_set_ne]
      by_cases e : r' = r
      · subst e
        have e28 : wq_set (wq_set (wq_set P 28 r' z) 22 r' y) 23 r' z 28 r' = z := by rw [wy_set_ne (by omega), wy_set_ne (by omega), wy_set_at rfl rfl]
        have e22 : wq_set (wq_set (wq_set P 28 r' z) 22 r' y) 23 r' z 22 r' = y := by rw [wy_set_ne (by omega), wy_set_at rfl rfl]
        rw [e28, e22, tb]
        simp (disch := omega) only [wy_set_ne]
        exact c.2.2
      · simp (disch := omega) only [wy_set_ne, tb] at h22 ⊢
        exact hC.2 r' hr8 h22
    · rw [wy_set_ne (by omega), wy_set_at rfl rfl]
      omega
  · exact Or.inr ⟨xa.2 c, xb.2 c⟩
theorem wz_o_addCondition {v' : Int} (hJ : wz_J d P Q) (hRa : wy_R wy_al Sa P) (hRb : wy_R wy_al Sb Q) (hr : (r : Int) < P 0 28) (hy : 0 ≤ y ∧ y ≤ 2) (hz : 0 ≤ z ∧ z ≤ 2) (hu : 0 ≤ u ∧ u ≤ 2) (hv : 0 ≤ v ∧ v ≤ 999) (hv' : 0 ≤ v' ∧ v' ≤ 999) (ev : v' = v + d) : wz_pr (wz_F P) d Sa Sb (f_X8_addCondition (r : Int) y z u v Sa) (f_X8_addCondition (r : Int) y z u v' Sb) := by
  obtain ⟨⟨hI, hI'⟩, hW, hC, hL⟩ := hJ
  have o := wy_o28 hI
  have b13 := wy_b13 hI r
  have b15 := wy_b15 hI r
  have hr' : (r : Int) < Q 0 28 := by rw [wz_e hL.1 0 _ (by decide)]; exact hr
  have xa := wz_x_addCondition hI hRa hr (y := y) (z := z) (by omega) (by omega) hu hv
  have xb := wz_x_addCondition hI' hRb hr' (y := y) (z := z) (by omega) (by omega) hu hv'
  have q13 := wz_e hL.1 13 r (by decide)
  have q15 := wz_e hL.1 15 r (by decide)
  rw [q13, q15, wz_e hL.1 14 _ (by decide), wz_e hL.1 1 _ (by decide)] at xb
  by_cases c : (0 ≤ y ∧ y < P 13 r) ∧ 0 ≤ z ∧ z < P 1 (P 14 (3 * r + y.toNat)).toNat
  · by_cases c6 : P 15 r < 6
    · obtain ⟨Sa', ea, ra⟩ := xa.1 ⟨c, c6⟩
      obtain ⟨Sb', eb, rb⟩ := xb.1 ⟨c, c6⟩
      obtain ⟨n, hn⟩ : ∃ n : Nat, P 15 r = (n : Int) := ⟨(P 15 r).toNat, by omega⟩
      have hn' : Q 15 r = (n : Int) := q15.trans hn
      have n6 : n < 6 := by omega
      unfold wz_acd at ra rb
      rw [hn, Int.toNat_natCast] at ra
      rw [hn', Int.toNat_natCast] at rb
      have iv := wy_iv_addCondition (so := y) (co := z) (ki := u) (nu := v) hI c.1 hy.2 hz hu hv hn n6
      have iv' := wy_iv_addCondition (so := y) (co := z) (ki := u) (nu := v') hI' (by rw [q13]; exact c.1) hy.2 hz hu hv' hn' n6
      generalize hP' : wq_set (wq_set (wq_set (wq_set (wq_set P 17 (6 * r + n) y) 18 (6 * r + n) z) 16 (6 * r + n) u) 19 (6 * r + n) v) 15 r ((n : Int) + 1) = P' at ra iv
      generalize hQ' : wq_set (wq_set (wq_set (wq_set (wq_set Q 17 (6 * r + n) y) 18 (6 * r + n) z) 16 (6 * r + n) u) 19 (6 * r + n) v') 15 r ((n : Int) + 1) = Q' at rb iv'
      have oP : ∀ f i : Nat, (f ≠ 15 ∧ f ≠ 16 ∧ f ≠ 17 ∧ f ≠ 18 ∧ f ≠ 19) ∨ (f ≠ 15 ∧ i ≠ 6 * r + n) ∨ (f = 15 ∧ i ≠ r) → P' f i = P f i := fun f i h => by
        rw [← hP']
        simp (disch := omega) only [wy_set_ne]
      have oQ : ∀ f i : Nat, (f ≠ 15 ∧ f ≠ 16 ∧ f ≠ 17 ∧ f ≠ 18 ∧ f ≠ 19) ∨ (f ≠ 15 ∧ i ≠ 6 * r + n) ∨ (f = 15 ∧ i ≠ r) → Q' f i = Q f i := fun f i h => by
        rw [← hQ']
        simp (disch := omega) only [wy_set_ne]
      have hE : wz_E P' Q' := by
        rw [← hP', ← hQ']
        exact wz_Es (wz_Ef (wz_Es (wz_Es (wz_Es hL.1 _ _ _) _ _ _) _ _ _) _ _ _ (by omega)) _ _ _
      have p15 : P' 15 r = (n : Int) + 1 := by rw [← hP']; exact wy_set_at rfl rfl
      have p16 : P' 16 (6 * r + n) = u := by rw [← hP', wy_set_ne (by omega), wy_set_ne (by omega), wy_set_at rfl rfl]
      have p17 : P' 17 (6 * r + n) = y := by rw [← hP', wy_set_ne (by omega), wy_set_ne (by omega), wy_set_ne (by omega), wy_set_ne (by omega), wy_set_at rfl rfl]
      have p18 : P' 18 (6 * r + n) = z := by rw [← hP', wy_set_ne (by omega), wy_set_ne (by omega), wy_set_ne (by omega), wy_set_at rfl rfl]
      have p19 : P' 19 (6 * r + n) = v := by rw [← hP', wy_set_ne (by omega), wy_set_at rfl rfl]
      have q19 : Q' 19 (6 * r + n) = v' := by rw [← hQ', wy_set_ne (by omega), wy_set_at rfl rfl]
      have hF : wz_F P P' := ⟨oP _ _ (by omega), oP _ _ (by omega), fun _ => oP _ _ (by omega), fun _ => oP _ _ (by omega)⟩
      have old : ∀ r' k : Nat, r' < 8 → (k : Int) < P' 15 r' → ¬(r' = r ∧ k = n) → (k : Int) < P 15 r' ∧ k < 6 ∧ 6 * r' + k ≠ 6 * r + n := fun r' k h8 hk hne => by
        have b15' := wy_b15 hI r'
        by_cases e : r' = r
        · rw [e, p15] at hk
          rw [e, hn]
          omega
        · rw [oP 15 r' (by omega)] at hk
          omega
      have tb : ∀ (r' : Nat) (w : Int), wy_tb P' r' w = wy_tb P r' w := fun r' w => by
        unfold wy_tb
        rw [oP _ _ (by omega)]
      refine Or.inl ⟨_, Sa', Sb', P', Q', ea, eb, ra, rb, ⟨⟨iv, iv'⟩, wz_iWc hW hF, ⟨fun r' k h8 hk => ?_, fun r' h8 h22 => ?_⟩, hE, wz_Vc hL.2.1 (fun _ => oP _ _ (by omega)) (fun _ => oP _ _ (by omega)) (fun _ => oP _ _ (by omega)) (fun _ => oQ _ _ (by omega)), wz_Gc hL.2.2.1 (fun _ => oP _ _ (by omega)) (fun _ => oP _ _ (by omega)) (fun _ => oP _ _ (by omega)) (fun _ => oP _ _ (by omega)) (fun _ => oQ _ _ (by omega)) (fun _ => oQ _ _ (by omega)), fun r' k h8 hk hn3 => ?_⟩, hF⟩
      · by_cases e : r' = r ∧ k = n
        · obtain ⟨rfl, rfl⟩ := e
          rw [p18, p17, tb, p16, oP 1 _ (by omega)]
          exact ⟨c.2.2, fun h3 => absurd h3 (by omega)⟩
        · obtain ⟨k1, k2, k3⟩ := old r' k h8 hk e
          rw [oP 18 _ (by omega), oP 17 _ (by omega), oP 16 _ (by omega), oP 21 _ (by omega), oP 20 _ (by omega), tb, tb, oP 1 _ (by omega), oP 1 _ (by omega)]
          exact hC.1 r' k h8 k1
      · rw [oP 22 _ (by omega)] at h22
        rw [oP 28 _ (by omega), oP 22 _ (by omega), tb, oP 1 _ (by omega)]
        exact hC.2 r' h8 h22
      · by_cases e : r' = r ∧ k = n
        · obtain ⟨rfl, rfl⟩ := e
          rw [p19, q19]
          exact ev
        · obtain ⟨k1, k2, k3⟩ := old r' k h8 hk e
          rw [oP 16 _ (by omega)] at hn3
          rw [oP 19 _ (by omega), oQ 19 _ (by omega)]
          exact hL.2.2.2 r' k h8 k1 hn3
    · exact Or.inr ⟨2, by omega, xa.2.1 ⟨c, c6⟩, xb.2.1 ⟨c, c6⟩⟩
  · exact Or.inr ⟨0, by omega, xa.2.2 c, xb.2.2 c⟩
theorem wz_o_addJoin (hJ : wz_J d P Q) (hRa : wy_R wy_al Sa P) (hRb : wy_R wy_al Sb Q) (hr : (r : Int) < P 0 28) (hy : 0 ≤ y ∧ y ≤ 2) (hz : 0 ≤ z ∧ z ≤ 2) (hu : 0 ≤ u ∧ u ≤ 2) (hv : 0 ≤ v ∧ v ≤ 2) : wz_pr (wz_F P) d Sa Sb (f_X8_addJoin (r : Int) y z u v Sa) (f_X8_addJoin (r : Int) y z u v Sb) := by
  obtain ⟨⟨hI, hI'⟩, hW, hC, hL⟩ := hJ
  have o := wy_o28 hI
  have b13 := wy_b13 hI r
  have b15 := wy_b15 hI r
  have hr' : (r : Int) < Q 0 28 := by rw [wz_e hL.1 0 _ (by decide)]; exact hr
  have xa := wz_x_addJoin hI hRa hr (y := y) (z := z) (u := u) (v := v) (by omega) (by omega) (by omega) (by omega)
  have xb := wz_x_addJoin hI' hRb hr' (y := y) (z := z) (u := u) (v := v) (by omega) (by omega) (by omega) (by omega)
  have q13 := wz_e hL.1 13 r (by decide)
  have q15 := wz_e hL.1 15 r (by decide)
  rw [q13, q15, wz_e hL.1 14 (3 * r + y.toNat) (by decide), wz_e hL.1 14 (3 * r + u.toNat) (by decide), wz_e hL.1 1 (P 14 (3 * r + y.toNat)).toNat (by decide), wz_e hL.1 1 (P 14 (3 * r + u.toNat)).toNat (by decide)] at xb
  by_cases c : ((0 ≤ y ∧ y < P 13 r) ∧ 0 ≤ z ∧ z < P 1 (P 14 (3 * r + y.toNat)).toNat) ∧ ((0 ≤ u ∧ u < P 13 r) ∧ 0 ≤ v ∧ v < P 1 (P 14 (3 * r + u.toNat)).toNat)
  · by_cases cyu : y = u
    · exact Or.inr ⟨1, by omega, xa.2.2.1 ⟨c.1, c.2, cyu⟩, xb.2.2.1 ⟨c.1, c.2, cyu⟩⟩
    · by_cases c6 : P 15 r < 6
      · obtain ⟨Sa', ea, ra⟩ := xa.1 ⟨c.1, c.2, cyu, c6⟩
        obtain ⟨Sb', eb, rb⟩ := xb.1 ⟨c.1, c.2, cyu, c6⟩
        obtain ⟨n, hn⟩ : ∃ n : Nat, P 15 r = (n : Int) := ⟨(P 15 r).toNat, by omega⟩
        have hn' : Q 15 r = (n : Int) := q15.trans hn
        have n6 : n < 6 := by omega
        unfold wz_ajn at ra rb
        rw [hn, Int.toNat_natCast] at ra
        rw [hn', Int.toNat_natCast] at rb
        have iv := wy_iv_addJoin (so := y) (co := z) (ot := u) (oc := v) hI c.1.1 hy.2 hz c.2.1 hu.2 hv cyu hn n6
        have iv' := wy_iv_addJoin (so := y) (co := z) (ot := u) (oc := v) hI' (by rw [q13]; exact c.1.1) hy.2 hz (by rw [q13]; exact c.2.1) hu.2 hv cyu hn' n6
        generalize hP' : wq_set (wq_set (wq_set (wq_set (wq_set (wq_set P 17 (6 * r + n) y) 18 (6 * r + n) z) 16 (6 * r + n) 3) 20 (6 * r + n) u) 21 (6 * r + n) v) 15 r ((n : Int) + 1) = P' at ra iv
        generalize hQ' : wq_set (wq_set (wq_set (wq_set (wq_set (wq_set Q 17 (6 * r + n) y) 18 (6 * r + n) z) 16 (6 * r + n) 3) 20 (6 * r + n) u) 21 (6 * r + n) v) 15 r ((n : Int) + 1) = Q' at rb iv'
        have oP : ∀ f i : Nat, (f ≠ 15 ∧ f ≠ 16 ∧ f ≠ 17 ∧ f ≠ 18 ∧ f ≠ 20 ∧ f ≠ 21) ∨ (f ≠ 15 ∧ i ≠ 6 * r + n) ∨ (f = 15 ∧ i ≠ r) → P' f i = P f i := fun f i h => by
          rw [← hP']
          simp (disch := omega) only [wy_set_ne]
        have oQ : ∀ f i : Nat, (f ≠ 15 ∧ f ≠ 16 ∧ f ≠ 17 ∧ f ≠ 18 ∧ f ≠ 20 ∧ f ≠ 21) ∨ (f ≠ 15 ∧ i ≠ 6 * r + n) ∨ (f = 15 ∧ i ≠ r) → Q' f i = Q f i := fun f i h => by
          rw [← hQ']
          simp (disch := omega) only [wy_set_ne]
        have hE : wz_E P' Q' := by
          rw [← hP', ← hQ']
          exact wz_Es (wz_Es (wz_Es (wz_Es (wz_Es (wz_Es hL.1 _ _ _) _ _ _) _ _ _) _ _ _) _ _ _) _ _ _
        have p15 : P' 15 r = (n : Int) + 1 := by rw [← hP']; exact wy_set_at rfl rfl
        have p16 : P' 16 (6 * r + n) = 3 := by rw [← hP', wy_set_ne (by omega), wy_set_ne (by omega), wy_set_ne (by omega), wy_set_at rfl rfl]
        have p17 : P' 17 (6 * r + n) = y := by rw [← hP', wy_set_ne (by omega), wy_set_ne (by omega), wy_set_ne (by omega), wy_set_ne (by omega), wy_set_ne (by omega), wy_set_at rfl rfl]
        have p18 : P' 18 (6 * r + n) = z := by rw [← hP', wy_set_ne (by omega), wy_set_ne (by omega), wy_set_ne (by omega), wy_set_ne (by omega), wy_set_at rfl rfl]
        have p20 : P' 20 (6 * r + n) = u := by rw [← hP', wy_set_ne (by omega), wy_set_ne (by omega), wy_set_at rfl rfl]
        have p21 : P' 21 (6 * r + n) = v := by rw [← hP', wy_set_ne (by omega), wy_set_at rfl rfl]
        have hF : wz_F P P' := ⟨oP _ _ (by omega), oP _ _ (by omega), fun _ => oP _ _ (by omega), fun _ => oP _ _ (by omega)⟩
        have old : ∀ r' k : Nat, r' < 8 → (k : Int) < P' 15 r' → ¬(r' = r ∧ k = n) → (k : Int) < P 15 r' ∧ k < 6 ∧ 6 * r' + k ≠ 6 * r + n := fun r' k h8 hk hne => by
          have b15' := wy_b15 hI r'
          by_cases e : r' = r
          · rw [e, p15] at hk
            rw [e, hn]
            omega
          · rw [oP 15 r' (by omega)] at hk
            omega
        have tb : ∀ (r' : Nat) (w : Int), wy_tb P' r' w = wy_tb P r' w := fun r' w => by
          unfold wy_tb
          rw [oP _ _ (by omega)]
        refine Or.inl ⟨_, Sa', Sb', P', Q', ea, eb, ra, rb, ⟨⟨iv, iv'⟩, wz_iWc hW hF, ⟨fun r' k h8 hk => ?_, fun r' h8 h22 => ?_⟩, hE, wz_Vc hL.2.1 (fun _ => oP _ _ (by omega)) (fun _ => oP _ _ (by omega)) (fun _ => oP _ _ (by omega)) (fun _ => oQ _ _ (by omega)), wz_Gc hL.2.2.1 (fun _ => oP _ _ (by omega)) (fun _ => oP _ _ (by omega)) (fun _ => oP _ _ (by omega)) (fun _ => oP _ _ (by omega)) (fun _ => oQ _ _ (by omega)) (fun _ => oQ _ _ (by omega)), fun r' k h8 hk hn3 => ?_⟩, hF⟩
        · by_cases e : r' = r ∧ k = n
          · obtain ⟨rfl, rfl⟩ := e
            rw [p18, p17, p21, p20, tb, tb, oP 1 _ (by omega), oP 1 _ (by omega)]
            exact ⟨c.1.2.2, fun _ => c.2.2.2⟩
          · obtain ⟨k1, k2, k3⟩ := old r' k h8 hk e
            rw [oP 18 _ (by omega), oP 17 _ (by omega), oP 16 _ (by omega), oP 21 _ (by omega), oP 20 _ (by omega), tb, tb, oP 1 _ (by omega), oP 1 _ (by omega)]
            exact hC.1 r' k h8 k1
        · rw [oP 22 _ (by omega)] at h22
          rw [oP 28 _ (by omega), oP 22 _ (by omega), tb, oP 1 _ (by omega)]
          exact hC.2 r' h8 h22
        · by_cases e : r' = r ∧ k = n
          · obtain ⟨rfl, rfl⟩ := e
            exact absurd p16 hn3
          · obtain ⟨k1, k2, k3⟩ := old r' k h8 hk e
            rw [oP 16 _ (by omega)] at hn3
            rw [oP 19 _ (by omega), oQ 19 _ (by omega)]
            exact hL.2.2.2 r' k h8 k1 hn3
      · exact Or.inr ⟨2, by omega, xa.2.1 ⟨c.1, c.2, cyu, c6⟩, xb.2.1 ⟨c.1, c.2, cyu, c6⟩⟩
  · exact Or.inr ⟨0, by omega, xa.2.2.2 c, xb.2.2.2 c⟩
theorem wz_o_night (hJ : wz_J d P Q) (hRa : wy_R wy_al Sa P) (hRb : wy_R wy_al Sb Q) (hx : 0 ≤ x ∧ x ≤ 1000) : wz_pr (wz_F P) d Sa Sb (f_X8_night x Sa) (f_X8_night x Sb) := by
  obtain ⟨⟨hI, hI'⟩, hW, hC, hL⟩ := hJ
  have xa := wz_x_night hI hRa hx
  have xb := wz_x_night hI' hRb hx
  rw [wz_e hL.1 0 29 (by decide)] at xb
  by_cases c : wq_w (P 0 29) < wq_w 500
  · obtain ⟨W, D, ln, Sa', a1, a2, ea, ra⟩ := xa.1 c
    obtain ⟨W', D', ln', Sb', b1, b2, eb, rb⟩ := xb.1 c
    have hIp := @wy_pd_iv P x hI
    have hIp' := @wy_pd_iv Q x hI'
    have hLp := wz_pd hI hL hC x
    have hCp := wz_pdC hC x
    obtain ⟨hLn, hCn⟩ := wz_nq hIp hLp hCp 4 (by omega)
    have hIn := wy_nq_iv hIp 4
    have hIn' := wy_nq_iv hIp' 4
    have z0 : ∀ j, j ≠ 31 → j ≠ 30 → wy_nq (wy_pd P x) 4 0 j = P 0 j := fun j j1 j2 => by
      rw [wy_nq_0 j j1 4]
      unfold wy_pd
      rw [wy_set_ne (by omega), wy_set_ne (by omega)]
    have z1 : ∀ t, wy_nq (wy_pd P x) 4 1 t = P 1 t := fun t => by
      rw [wy_nq_1 t 4]
      unfold wy_pd
      rw [wy_set_ne (by omega), wy_set_ne (by omega)]
    have z22 : ∀ r, wy_nq (wy_pd P x) 4 22 r = P 22 r := fun r => by
      have key : ∀ n, wy_nq (wy_pd P x) n 22 r = wy_pd P x 22 r := fun n => by
        induction n with
        | zero => rfl
        | succ n ih =>
          rw [← ih]
          show wy_nw (wy_nq (wy_pd P x) n) n 22 r = _
          generalize wy_nq (wy_pd P x) n = Z
          unfold wy_nw
          by_cases c0 : Z 10 n = 0
          · rw [if_pos c0]
          · rw [if_neg c0]
            by_cases c1 : wq_w (wy_s1 Z n) ≤ wq_w (Z 0 31)
            · rw [if_pos c1, wy_set_ne (by omega), wy_set_ne (by omega), wy_rn_o (by omega)]
            · rw [if_neg c1]
      rw [key 4]
      unfold wy_pd
      rw [wy_set_ne (by omega), wy_set_ne (by omega)]
    generalize wy_nq (wy_pd P x) 4 = Z at a1 a2 ra hLn hCn hIn z0 z1 z22
    generalize wy_nq (wy_pd Q x) 4 = Z' at b1 b2 rb hLn hIn'
    have b1' := wz_lnq hLn.1 b1
    obtain ⟨eW, he⟩ := wz_ln_eq a1 b1'
    subst eW
    have hln : ∀ i, i < W' → ln i < 8 := fun i hi => (a1.2.1 i hi).1
    have eD := wz_dN hIn hLn hCn hln he a2 b2
    subst eD
    have rb' := rb
    rw [wz_Qr_ln he W' (Nat.le_refl _), wz_e hLn.1 0 29 (by decide)] at rb'
    have iv := wy_iv_Qr hIn a1 a2.1
    have b3 := b2.1
    have iv' := wy_iv_Qr hIn' b1 b3
    rw [wz_Qr_ln he W' (Nat.le_refl _)] at iv'
    have hF : wz_F P (wq_set (wy_Qr Z ln D' W') 0 29 (Z 0 29 + 1)) := ⟨by rw [wy_set_ne (by omega), wy_Qr_o (by omega)]; exact z0 5 (by omega) (by omega), by rw [wy_set_ne (by omega), wy_Qr_o (by omega)]; exact z0 28 (by omega) (by omega), fun t => by rw [wy_set_ne (by omega), wy_Qr_o (by omega)]; exact z1 t, fun r => by rw [wy_set_ne (by omega), wy_Qr_o (by omega)]; exact z22 r⟩
    exact Or.inl ⟨_, Sa', Sb', _, _, ea, eb, ra, rb', ⟨⟨wy_iv_0 iv (by omega), wy_iv_0 iv' (by omega)⟩, wz_iWc hW hF, wz_QrC hCn, wz_set (wz_Qr hIn hLn hCn hln W' (Nat.le_refl _)) _ (by decide)⟩, hF⟩
  · exact Or.inr ⟨2, by omega, xa.2 c, xb.2 c⟩
end
