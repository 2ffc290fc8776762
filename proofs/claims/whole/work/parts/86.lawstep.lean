/-! THE LAW: one round -/
set_option maxHeartbeats 4000000 in
theorem wy_law_step {X : Nat → Int} (hX : ∀ j, wy_rg (X j)) {LL : Nat} (hLL : LL ≤ 3072) {i : Nat} (hi : i + 6 ≤ LL) {P S : wq_St} (hL : wy_LI P S) (kx : wq_St → Option (Int × wq_St)) (rec : Int → wq_St → Option (Int × wq_St)) : ∃ P' S', wy_LI P' S' ∧ b_L_law X LL kx rec (i : Int) S = rec ((i : Int) + 6) S' := by
  have hLo := hL
  obtain ⟨hI, hW, hR, hM⟩ := hLo
  unfold b_L_law
  rw [wq_w_id (x := (LL : Int) - 6) (by omega) (by omega), wq_w_id (x := (i : Int)) (by omega) (by omega), if_neg (by omega), wy_ix (by omega) (by omega) (by omega)]
  generalize wq_w (wq_and (X ((i : Int)).toNat) 63) = v
  by_cases h0 : v = 0
  · rw [if_pos h0, wy_ix (by omega) (by omega) (by omega)]
    exact wy_lawI (rec := rec ((i : Int) + 6)) (F9 := f_X9_addTable (X ((i : Int) + 1).toNat)) hL wy_k23_b (wy_c_addTable hI hR hM (hX _)) (wy_wI_of (fun _ => wy_ri_e) (fun _ => wy_t23_e) (f_X8_addTable (X ((i : Int) + 1).toNat) (wq_cls S)) S) (fun r3 S4 => by
      show wq_ix _ LL _ = _
      rw [wy_ix (by omega) (by omega) (by omega)]
      rfl)
  rw [if_neg h0]
  by_cases h1 : v = 1
  · rw [if_pos h1, wy_ix (by omega) (by omega) (by omega), wy_ix (by omega) (by omega) (by omega), wy_ix (by omega) (by omega) (by omega), wy_ix (by omega) (by omega) (by omega)]
    exact wy_lawI (rec := rec ((i : Int) + 6)) (F9 := f_X9_insert (X ((i : Int) + 1).toNat) (X ((i : Int) + 2).toNat) (X ((i : Int) + 3).toNat) (X ((i : Int) + 4).toNat)) hL wy_k123_b (wy_c_insert hI hW hR hM (hX _) (hX _) (hX _) (hX _)) (wy_wI_of (fun _ => wy_ri_e) (fun _ => wy_t123_e) (f_X8_insert (X ((i : Int) + 1).toNat) (X ((i : Int) + 2).toNat) (X ((i : Int) + 3).toNat) (X ((i : Int) + 4).toNat) (wq_cls S)) S) (fun r3 S4 => by
      show wq_ix _ LL _ = _
      rw [wy_ix (by omega) (by omega) (by omega), wy_ix (by omega) (by omega) (by omega), wy_ix (by omega) (by omega) (by omega), wy_ix (by omega) (by omega) (by omega)]
      rfl)
  rw [if_neg h1]
  by_cases h2 : v = 2
  · rw [if_pos h2, wy_ix (by omega) (by omega) (by omega), wy_ix (by omega) (by omega) (by omega)]
    exact wy_lawI (rec := rec ((i : Int) + 6)) (F9 := f_X9_delete (X ((i : Int) + 1).toNat) (X ((i : Int) + 2).toNat)) hL wy_k1_b (wy_c_delete hI hR hM (hX _) (hX _)) (wy_wI_of (fun _ => wy_ri_e) (fun _ => wy_t1_e) (f_X8_delete (X ((i : Int) + 1).toNat) (X ((i : Int) + 2).toNat) (wq_cls S)) S) (fun r3 S4 => by
      show wq_ix _ LL _ = _
      rw [wy_ix (by omega) (by omega) (by omega), wy_ix (by omega) (by omega) (by omega)]
      rfl)
  rw [if_neg h2]
  by_cases h3 : v = 3
  · rw [if_pos h3, wy_ix (by omega) (by omega) (by omega), wy_ix (by omega) (by omega) (by omega), wy_ix (by omega) (by omega) (by omega)]
    by_cases hb : wq_w (X ((i : Int) + 3).toNat) = 0
    · rw [if_pos hb]
      exact wy_lawB (rec := rec ((i : Int) + 6)) (F9 := f_X9_setIndex (X ((i : Int) + 1).toNat) (X ((i : Int) + 2).toNat) 0) hL wy_k1_b (wy_c_setIndex hI hR hM (hX _) (hX _) (Or.inl rfl)) (wy_wI_of (fun _ => wy_rb_e) (fun _ => wy_t1_e) (f_X8_setIndex (X ((i : Int) + 1).toNat) (X ((i : Int) + 2).toNat) 0 (wq_cls S)) S) (fun r3 S4 => by
        show wq_ix _ LL _ = _
        rw [wy_ix (by omega) (by omega) (by omega), wy_ix (by omega) (by omega) (by omega), wy_ix (by omega) (by omega) (by omega), if_pos hb]
        rfl)
    · rw [if_neg hb]
      exact wy_lawB (rec := rec ((i : Int) + 6)) (F9 := f_X9_setIndex (X ((i : Int) + 1).toNat) (X ((i : Int) + 2).toNat) 1) hL wy_k1_b (wy_c_setIndex hI hR hM (hX _) (hX _) (Or.inr rfl)) (wy_wI_of (fun _ => wy_rb_e) (fun _ => wy_t1_e) (f_X8_setIndex (X ((i : Int) + 1).toNat) (X ((i : Int) + 2).toNat) 1 (wq_cls S)) S) (fun r3 S4 => by
        show wq_ix _ LL _ = _
        rw [wy_ix (by omega) (by omega) (by omega), wy_ix (by omega) (by omega) (by omega), wy_ix (by omega) (by omega) (by omega), if_neg hb]
        rfl)
  rw [if_neg h3]
  by_cases h4 : v = 4
  · rw [if_pos h4, wy_ix (by omega) (by omega) (by omega)]
    exact wy_lawI (rec := rec ((i : Int) + 6)) (F9 := f_X9_rows (X ((i : Int) + 1).toNat)) hL wy_k1_b (wy_c_rows hI hR hM (hX _)) (wy_wI_of (fun _ => wy_ri_e) (fun _ => wy_t1_e) (f_X8_rows (X ((i : Int) + 1).toNat) (wq_cls S)) S) (fun r3 S4 => by
      show wq_ix _ LL _ = _
      rw [wy_ix (by omega) (by omega) (by omega)]
      rfl)
  rw [if_neg h4]
  by_cases h5 : v = 5
  · rw [if_pos h5, wy_ix (by omega) (by omega) (by omega), wy_ix (by omega) (by omega) (by omega), wy_ix (by omega) (by omega) (by omega)]
    exact wy_lawI (rec := rec ((i : Int) + 6)) (F9 := f_X9_value (X ((i : Int) + 1).toNat) (X ((i : Int) + 2).toNat) (X ((i : Int) + 3).toNat)) hL wy_k1_b (wy_c_value hI hR hM (hX _) (hX _) (hX _)) (wy_wI_of (fun _ => wy_ri_e) (fun _ => wy_t1_e) (f_X8_value (X ((i : Int) + 1).toNat) (X ((i : Int) + 2).toNat) (X ((i : Int) + 3).toNat) (wq_cls S)) S) (fun r3 S4 => by
      show wq_ix _ LL _ = _
      rw [wy_ix (by omega) (by omega) (by omega), wy_ix (by omega) (by omega) (by omega), wy_ix (by omega) (by omega) (by omega)]
      rfl)
  rw [if_neg h5]
  by_cases h6 : v = 6
  · rw [if_pos h6, wy_ix (by omega) (by omega) (by omega), wy_ix (by omega) (by omega) (by omega)]
    exact wy_lawI (rec := rec ((i : Int) + 6)) (F9 := f_X9_renew (X ((i : Int) + 1).toNat) (X ((i : Int) + 2).toNat)) hL wy_k12_b (wy_c_renew hI hR hM (hX _) (hX _)) (wy_wI_of (fun _ => wy_ri_e) (fun _ => wy_t12_e) (f_X8_renew (X ((i : Int) + 1).toNat) (X ((i : Int) + 2).toNat) (wq_cls S)) S) (fun r3 S4 => by
      show wq_ix _ LL _ = _
      rw [wy_ix (by omega) (by omega) (by omega), wy_ix (by omega) (by omega) (by omega)]
      rfl)
  rw [if_neg h6]
  by_cases h7 : v = 7
  · rw [if_pos h7, wy_ix (by omega) (by omega) (by omega)]
    exact wy_lawI (rec := rec ((i : Int) + 6)) (F9 := f_X9_setStep (X ((i : Int) + 1).toNat)) hL wy_k2_b (wy_c_setStep hI hR hM (hX _)) (wy_wI_of (fun _ => wy_ri_e) (fun _ => wy_t2_e) (f_X8_setStep (X ((i : Int) + 1).toNat) (wq_cls S)) S) (fun r3 S4 => by
      show wq_ix _ LL _ = _
      rw [wy_ix (by omega) (by omega) (by omega)]
      rfl)
  rw [if_neg h7]
  by_cases h8 : v = 8
  · rw [if_pos h8, wy_ix (by omega) (by omega) (by omega)]
    exact wy_lawI (rec := rec ((i : Int) + 6)) (F9 := f_X9_toldRows (X ((i : Int) + 1).toNat)) hL wy_k1_b (wy_c_toldRows hI hR hM (hX _)) (wy_wI_of (fun _ => wy_ri_e) (fun _ => wy_t1_e) (f_X8_toldRows (X ((i : Int) + 1).toNat) (wq_cls S)) S) (fun r3 S4 => by
      show wq_ix _ LL _ = _
      rw [wy_ix (by omega) (by omega) (by omega)]
      rfl)
  rw [if_neg h8]
  by_cases h9 : v = 9
  · rw [if_pos h9, wy_ix (by omega) (by omega) (by omega), wy_ix (by omega) (by omega) (by omega)]
    exact wy_lawI (rec := rec ((i : Int) + 6)) (F9 := f_X9_unlike (X ((i : Int) + 1).toNat) (X ((i : Int) + 2).toNat)) hL wy_k1_b (wy_c_unlike hI hR hM (hX _) (hX _)) (wy_wI_of (fun _ => wy_ri_e) (fun _ => wy_t1_e) (f_X8_unlike (X ((i : Int) + 1).toNat) (X ((i : Int) + 2).toNat) (wq_cls S)) S) (fun r3 S4 => by
      show wq_ix _ LL _ = _
      rw [wy_ix (by omega) (by omega) (by omega), wy_ix (by omega) (by omega) (by omega)]
      rfl)
  rw [if_neg h9]
  by_cases h10 : v = 10
  · rw [if_pos h10, wy_ix (by omega) (by omega) (by omega), wy_ix (by omega) (by omega) (by omega)]
    exact wy_lawI (rec := rec ((i : Int) + 6)) (F9 := f_X9_least (X ((i : Int) + 1).toNat) (X ((i : Int) + 2).toNat)) hL wy_k1_b (wy_c_least hI hR hM (hX _) (hX _)) (wy_wI_of (fun _ => wy_ri_e) (fun _ => wy_t1_e) (f_X8_least (X ((i : Int) + 1).toNat) (X ((i : Int) + 2).toNat) (wq_cls S)) S) (fun r3 S4 => by
      show wq_ix _ LL _ = _
      rw [wy_ix (by omega) (by omega) (by omega), wy_ix (by omega) (by omega) (by omega)]
      rfl)
  rw [if_neg h10]
  by_cases h11 : v = 11
  · rw [if_pos h11, wy_ix (by omega) (by omega) (by omega), wy_ix (by omega) (by omega) (by omega)]
    exact wy_lawI (rec := rec ((i : Int) + 6)) (F9 := f_X9_greatest (X ((i : Int) + 1).toNat) (X ((i : Int) + 2).toNat)) hL wy_k1_b (wy_c_greatest hI hR hM (hX _) (hX _)) (wy_wI_of (fun _ => wy_ri_e) (fun _ => wy_t1_e) (f_X8_greatest (X ((i : Int) + 1).toNat) (X ((i : Int) + 2).toNat) (wq_cls S)) S) (fun r3 S4 => by
      show wq_ix _ LL _ = _
      rw [wy_ix (by omega) (by omega) (by omega), wy_ix (by omega) (by omega) (by omega)]
      rfl)
  rw [if_neg h11]
  by_cases h12 : v = 12
  · rw [if_pos h12, wy_ix (by omega) (by omega) (by omega)]
    exact wy_lawB (rec := rec ((i : Int) + 6)) (F9 := f_X9_isMarked (X ((i : Int) + 1).toNat)) hL wy_k1_b (wy_c_isMarked hI hR hM (hX _)) (wy_wI_of (fun _ => wy_rb_e) (fun _ => wy_t1_e) (f_X8_isMarked (X ((i : Int) + 1).toNat) (wq_cls S)) S) (fun r3 S4 => by
      show wq_ix _ LL _ = _
      rw [wy_ix (by omega) (by omega) (by omega)]
      rfl)
  rw [if_neg h12]
  by_cases h13 : v = 13
  · rw [if_pos h13, wy_ix (by omega) (by omega) (by omega)]
    exact wy_lawI (rec := rec ((i : Int) + 6)) (F9 := f_X9_addReport (X ((i : Int) + 1).toNat)) hL wy_k23_b (wy_c_addReport hI hR hM (hX _)) (wy_wI_of (fun _ => wy_ri_e) (fun _ => wy_t23_e) (f_X8_addReport (X ((i : Int) + 1).toNat) (wq_cls S)) S) (fun r3 S4 => by
      show wq_ix _ LL _ = _
      rw [wy_ix (by omega) (by omega) (by omega)]
      rfl)
  rw [if_neg h13]
  by_cases h14 : v = 14
  · rw [if_pos h14, wy_ix (by omega) (by omega) (by omega), wy_ix (by omega) (by omega) (by omega)]
    exact wy_lawI (rec := rec ((i : Int) + 6)) (F9 := f_X9_addSource (X ((i : Int) + 1).toNat) (X ((i : Int) + 2).toNat)) hL wy_k13_b (wy_c_addSource hI hR hM (hX _) (hX _)) (wy_wI_of (fun _ => wy_ri_e) (fun _ => wy_t13_e) (f_X8_addSource (X ((i : Int) + 1).toNat) (X ((i : Int) + 2).toNat) (wq_cls S)) S) (fun r3 S4 => by
      show wq_ix _ LL _ = _
      rw [wy_ix (by omega) (by omega) (by omega), wy_ix (by omega) (by omega) (by omega)]
      rfl)
  rw [if_neg h14]
  by_cases h15 : v = 15
  · rw [if_pos h15, wy_ix (by omega) (by omega) (by omega), wy_ix (by omega) (by omega) (by omega), wy_ix (by omega) (by omega) (by omega), wy_ix (by omega) (by omega) (by omega), wy_ix (by omega) (by omega) (by omega)]
    exact wy_lawI (rec := rec ((i : Int) + 6)) (F9 := f_X9_addCondition (X ((i : Int) + 1).toNat) (X ((i : Int) + 2).toNat) (X ((i : Int) + 3).toNat) (X ((i : Int) + 4).toNat) (X ((i : Int) + 5).toNat)) hL wy_k123_b (wy_c_addCondition hI hR hM (hX _) (hX _) (hX _) (hX _) (hX _)) (wy_wI_of (fun _ => wy_ri_e) (fun _ => wy_t123_e) (f_X8_addCondition (X ((i : Int) + 1).toNat) (X ((i : Int) + 2).toNat) (X ((i : Int) + 3).toNat) (X ((i : Int) + 4).toNat) (X ((i : Int) + 5).toNat) (wq_cls S)) S) (fun r3 S4 => by
      show wq_ix _ LL _ = _
      rw [wy_ix (by omega) (by omega) (by omega), wy_ix (by omega) (by omega) (by omega), wy_ix (by omega) (by omega) (by omega), wy_ix (by omega) (by omega) (by omega), wy_ix (by omega) (by omega) (by omega)]
      rfl)
  rw [if_neg h15]
  by_cases h16 : v = 16
  · rw [if_pos h16, wy_ix (by omega) (by omega) (by omega), wy_ix (by omega) (by omega) (by omega), wy_ix (by omega) (by omega) (by omega), wy_ix (by omega) (by omega) (by omega), wy_ix (by omega) (by omega) (by omega)]
    exact wy_lawI (rec := rec ((i : Int) + 6)) (F9 := f_X9_addJoin (X ((i : Int) + 1).toNat) (X ((i : Int) + 2).toNat) (X ((i : Int) + 3).toNat) (X ((i : Int) + 4).toNat) (X ((i : Int) + 5).toNat)) hL wy_k123_b (wy_c_addJoin hI hR hM (hX _) (hX _) (hX _) (hX _) (hX _)) (wy_wI_of (fun _ => wy_ri_e) (fun _ => wy_t123_e) (f_X8_addJoin (X ((i : Int) + 1).toNat) (X ((i : Int) + 2).toNat) (X ((i : Int) + 3).toNat) (X ((i : Int) + 4).toNat) (X ((i : Int) + 5).toNat) (wq_cls S)) S) (fun r3 S4 => by
      show wq_ix _ LL _ = _
      rw [wy_ix (by omega) (by omega) (by omega), wy_ix (by omega) (by omega) (by omega), wy_ix (by omega) (by omega) (by omega), wy_ix (by omega) (by omega) (by omega), wy_ix (by omega) (by omega) (by omega)]
      rfl)
  rw [if_neg h16]
  by_cases h17 : v = 17
  · rw [if_pos h17, wy_ix (by omega) (by omega) (by omega)]
    exact wy_lawI (rec := rec ((i : Int) + 6)) (F9 := f_X9_dropCondition (X ((i : Int) + 1).toNat)) hL wy_k13_b (wy_c_drop hI hR hM (hX _)) (wy_wI_of (fun _ => wy_ri_e) (fun _ => wy_t13_e) (f_X8_dropCondition (X ((i : Int) + 1).toNat) (wq_cls S)) S) (fun r3 S4 => by
      show wq_ix _ LL _ = _
      rw [wy_ix (by omega) (by omega) (by omega)]
      rfl)
  rw [if_neg h17]
  by_cases h18 : v = 18
  · rw [if_pos h18, wy_ix (by omega) (by omega) (by omega), wy_ix (by omega) (by omega) (by omega), wy_ix (by omega) (by omega) (by omega)]
    exact wy_lawV (rec := rec ((i : Int) + 6)) (F9 := f_X9_setSum (X ((i : Int) + 1).toNat) (X ((i : Int) + 2).toNat) (X ((i : Int) + 3).toNat)) hL wy_k1_b (wy_c_setSum hI hR hM (hX _) (hX _) (hX _)) (wy_wI_of (fun _ => wy_rv_e) (fun _ => wy_t1_e) (f_X8_setSum (X ((i : Int) + 1).toNat) (X ((i : Int) + 2).toNat) (X ((i : Int) + 3).toNat) (wq_cls S)) S) (fun r3 S4 => by
      show wq_ix _ LL _ = _
      rw [wy_ix (by omega) (by omega) (by omega), wy_ix (by omega) (by omega) (by omega), wy_ix (by omega) (by omega) (by omega)]
      unfold wy_asks; simp only [ite_self])
  rw [if_neg h18]
  by_cases h19 : v = 19
  · rw [if_pos h19, wy_ix (by omega) (by omega) (by omega), wy_ix (by omega) (by omega) (by omega)]
    by_cases hb : wq_w (X ((i : Int) + 2).toNat) = 0
    · rw [if_pos hb]
      exact wy_lawB (rec := rec ((i : Int) + 6)) (F9 := f_X9_setDue (X ((i : Int) + 1).toNat) 0) hL wy_k1_b (wy_c_setDue hI hR hM (hX _) (Or.inl rfl)) (wy_wI_of (fun _ => wy_rb_e) (fun _ => wy_t1_e) (f_X8_setDue (X ((i : Int) + 1).toNat) 0 (wq_cls S)) S) (fun r3 S4 => by
        show wq_ix _ LL _ = _
        rw [wy_ix (by omega) (by omega) (by omega), wy_ix (by omega) (by omega) (by omega), if_pos hb]
        rfl)
    · rw [if_neg hb]
      exact wy_lawB (rec := rec ((i : Int) + 6)) (F9 := f_X9_setDue (X ((i : Int) + 1).toNat) 1) hL wy_k1_b (wy_c_setDue hI hR hM (hX _) (Or.inr rfl)) (wy_wI_of (fun _ => wy_rb_e) (fun _ => wy_t1_e) (f_X8_setDue (X ((i : Int) + 1).toNat) 1 (wq_cls S)) S) (fun r3 S4 => by
        show wq_ix _ LL _ = _
        rw [wy_ix (by omega) (by omega) (by omega), wy_ix (by omega) (by omega) (by omega), if_neg hb]
        rfl)
  rw [if_neg h19]
  by_cases h20 : v = 20
  · rw [if_pos h20, wy_ix (by omega) (by omega) (by omega)]
    exact wy_lawB (rec := rec ((i : Int) + 6)) (F9 := f_X9_isDue (X ((i : Int) + 1).toNat)) hL wy_k1_b (wy_c_isDue hI hR hM (hX _)) (wy_wI_of (fun _ => wy_rb_e) (fun _ => wy_t1_e) (f_X8_isDue (X ((i : Int) + 1).toNat) (wq_cls S)) S) (fun r3 S4 => by
      show wq_ix _ LL _ = _
      rw [wy_ix (by omega) (by omega) (by omega)]
      rfl)
  rw [if_neg h20]
  by_cases h21 : v = 21
  · rw [if_pos h21, wy_ix (by omega) (by omega) (by omega), wy_ix (by omega) (by omega) (by omega)]
    exact wy_lawI (rec := rec ((i : Int) + 6)) (F9 := f_X9_planSource (X ((i : Int) + 1).toNat) (X ((i : Int) + 2).toNat)) hL wy_k1_b (wy_c_planSource hI hR hM (hX _) (hX _)) (wy_wI_of (fun _ => wy_ri_e) (fun _ => wy_t1_e) (f_X8_planSource (X ((i : Int) + 1).toNat) (X ((i : Int) + 2).toNat) (wq_cls S)) S) (fun r3 S4 => by
      show wq_ix _ LL _ = _
      rw [wy_ix (by omega) (by omega) (by omega), wy_ix (by omega) (by omega) (by omega)]
      rfl)
  rw [if_neg h21]
  by_cases h22 : v = 22
  · rw [if_pos h22, wy_ix (by omega) (by omega) (by omega), wy_ix (by omega) (by omega) (by omega)]
    exact wy_lawI (rec := rec ((i : Int) + 6)) (F9 := f_X9_planWay (X ((i : Int) + 1).toNat) (X ((i : Int) + 2).toNat)) hL wy_k1_b (wy_c_planWay hI hR hM (hX _) (hX _)) (wy_wI_of (fun _ => wy_ri_e) (fun _ => wy_t1_e) (f_X8_planWay (X ((i : Int) + 1).toNat) (X ((i : Int) + 2).toNat) (wq_cls S)) S) (fun r3 S4 => by
      show wq_ix _ LL _ = _
      rw [wy_ix (by omega) (by omega) (by omega), wy_ix (by omega) (by omega) (by omega)]
      rfl)
  rw [if_neg h22]
  by_cases h23 : v = 23
  · rw [if_pos h23, wy_ix (by omega) (by omega) (by omega)]
    exact wy_lawI (rec := rec ((i : Int) + 6)) (F9 := f_X9_foretold (X ((i : Int) + 1).toNat)) hL wy_k1_b (wy_c_foretold hI hR hM (hX _)) (wy_wI_of (fun _ => wy_ri_e) (fun _ => wy_t1_e) (f_X8_foretold (X ((i : Int) + 1).toNat) (wq_cls S)) S) (fun r3 S4 => by
      show wq_ix _ LL _ = _
      rw [wy_ix (by omega) (by omega) (by omega)]
      rfl)
  rw [if_neg h23]
  by_cases h24 : v = 24
  · rw [if_pos h24, wy_ix (by omega) (by omega) (by omega)]
    exact wy_lawI (rec := rec ((i : Int) + 6)) (F9 := f_X9_minutes (X ((i : Int) + 1).toNat)) hL wy_k1_b (wy_c_minutes hI hR hM (hX _)) (wy_wI_of (fun _ => wy_ri_e) (fun _ => wy_t1_e) (f_X8_minutes (X ((i : Int) + 1).toNat) (wq_cls S)) S) (fun r3 S4 => by
      show wq_ix _ LL _ = _
      rw [wy_ix (by omega) (by omega) (by omega)]
      rfl)
  rw [if_neg h24]
  by_cases h25 : v = 25
  · rw [if_pos h25, wy_ix (by omega) (by omega) (by omega)]
    exact wy_lawI (rec := rec ((i : Int) + 6)) (F9 := f_X9_answer (X ((i : Int) + 1).toNat)) hL wy_k1_b (wy_c_answer hI hR hM (hX _)) (wy_wI_of (fun _ => wy_ri_e) (fun _ => wy_t1_e) (f_X8_answer (X ((i : Int) + 1).toNat) (wq_cls S)) S) (fun r3 S4 => by
      show wq_ix _ LL _ = _
      rw [wy_ix (by omega) (by omega) (by omega)]
      rfl)
  rw [if_neg h25]
  by_cases h26 : v = 26
  · rw [if_pos h26, wy_ix (by omega) (by omega) (by omega)]
    exact wy_lawI (rec := rec ((i : Int) + 6)) (F9 := f_X9_sum (X ((i : Int) + 1).toNat)) hL wy_k1_b (wy_c_sum hI hR hM (hX _)) (wy_wI_of (fun _ => wy_ri_e) (fun _ => wy_t1_e) (f_X8_sum (X ((i : Int) + 1).toNat) (wq_cls S)) S) (fun r3 S4 => by
      show wq_ix _ LL _ = _
      rw [wy_ix (by omega) (by omega) (by omega)]
      rfl)
  rw [if_neg h26]
  by_cases h27 : v = 27
  · rw [if_pos h27, wy_ix (by omega) (by omega) (by omega)]
    exact wy_lawI (rec := rec ((i : Int) + 6)) (F9 := f_X9_plainAnswer (X ((i : Int) + 1).toNat)) hL wy_k1_b (wy_c_plainAnswer hI hR hM (hX _)) (wy_wI_of (fun _ => wy_ri_e) (fun _ => wy_t1_e) (f_X8_plainAnswer (X ((i : Int) + 1).toNat) (wq_cls S)) S) (fun r3 S4 => by
      show wq_ix _ LL _ = _
      rw [wy_ix (by omega) (by omega) (by omega)]
      rfl)
  rw [if_neg h27]
  by_cases h28 : v = 28
  · rw [if_pos h28, wy_ix (by omega) (by omega) (by omega)]
    exact wy_lawI (rec := rec ((i : Int) + 6)) (F9 := f_X9_plainSum (X ((i : Int) + 1).toNat)) hL wy_k1_b (wy_c_plainSum hI hR hM (hX _)) (wy_wI_of (fun _ => wy_ri_e) (fun _ => wy_t1_e) (f_X8_plainSum (X ((i : Int) + 1).toNat) (wq_cls S)) S) (fun r3 S4 => by
      show wq_ix _ LL _ = _
      rw [wy_ix (by omega) (by omega) (by omega)]
      rfl)
  rw [if_neg h28]
  by_cases h29 : v = 29
  · rw [if_pos h29, wy_ix (by omega) (by omega) (by omega)]
    exact wy_lawI (rec := rec ((i : Int) + 6)) (F9 := f_X9_night (X ((i : Int) + 1).toNat)) hL wy_k23_b (wy_c_night hI hR hM (hX _)) (wy_wI_of (fun _ => wy_ri_e) (fun _ => wy_t23_e) (f_X8_night (X ((i : Int) + 1).toNat) (wq_cls S)) S) (fun r3 S4 => by
      show wq_ix _ LL _ = _
      rw [wy_ix (by omega) (by omega) (by omega)]
      rfl)
  rw [if_neg h29]
  by_cases h30 : v = 30
  · rw [if_pos h30]
    exact wy_law0 (rec := rec ((i : Int) + 6)) (f8 := f_X8_nights) (f9 := f_X9_nights) (c := 6) (j := 29) (by omega) hL (fun A => rfl) (wy_cG hR) (fun A => rfl)
  rw [if_neg h30]
  by_cases h31 : v = 31
  · rw [if_pos h31]
    exact wy_law0 (rec := rec ((i : Int) + 6)) (f8 := f_X8_paid) (f9 := f_X9_paid) (c := 7) (j := 30) (by omega) hL (fun A => rfl) (wy_cP hR) (fun A => rfl)
  rw [if_neg h31]
  by_cases h32 : v = 32
  · rw [if_pos h32]
    exact wy_law0 (rec := rec ((i : Int) + 6)) (f8 := f_X8_left) (f9 := f_X9_left) (c := 8) (j := 31) (by omega) hL (fun A => rfl) (wy_cL hR) (fun A => rfl)
  rw [if_neg h32]
  by_cases h33 : v = 33
  · rw [if_pos h33]
    exact wy_law0 (rec := rec ((i : Int) + 6)) (f8 := f_X8_owed) (f9 := f_X9_owed) (c := 9) (j := 32) (by omega) hL (fun A => rfl) (wy_cO hR) (fun A => rfl)
  rw [if_neg h33]
  by_cases h34 : v = 34
  · rw [if_pos h34, wy_ix (by omega) (by omega) (by omega)]
    exact wy_lawI (rec := rec ((i : Int) + 6)) (F9 := f_X9_kept (X ((i : Int) + 1).toNat)) hL wy_k1_b (wy_c_kept hI hR hM (hX _)) (wy_wI_of (fun _ => wy_ri_e) (fun _ => wy_t1_e) (f_X8_kept (X ((i : Int) + 1).toNat) (wq_cls S)) S) (fun r3 S4 => by
      show wq_ix _ LL _ = _
      rw [wy_ix (by omega) (by omega) (by omega)]
      rfl)
  rw [if_neg h34]
  by_cases h35 : v = 35
  · rw [if_pos h35, wy_ix (by omega) (by omega) (by omega)]
    exact wy_lawI (rec := rec ((i : Int) + 6)) (F9 := f_X9_keptSum (X ((i : Int) + 1).toNat)) hL wy_k1_b (wy_c_keptSum hI hR hM (hX _)) (wy_wI_of (fun _ => wy_ri_e) (fun _ => wy_t1_e) (f_X8_keptSum (X ((i : Int) + 1).toNat) (wq_cls S)) S) (fun r3 S4 => by
      show wq_ix _ LL _ = _
      rw [wy_ix (by omega) (by omega) (by omega)]
      rfl)
  rw [if_neg h35]
  by_cases h36 : v = 36
  · rw [if_pos h36, wy_ix (by omega) (by omega) (by omega)]
    exact wy_lawI (rec := rec ((i : Int) + 6)) (F9 := f_X9_keptIn (X ((i : Int) + 1).toNat)) hL wy_k1_b (wy_c_keptIn hI hR hM (hX _)) (wy_wI_of (fun _ => wy_ri_e) (fun _ => wy_t1_e) (f_X8_keptIn (X ((i : Int) + 1).toNat) (wq_cls S)) S) (fun r3 S4 => by
      show wq_ix _ LL _ = _
      rw [wy_ix (by omega) (by omega) (by omega)]
      rfl)
  rw [if_neg h36]
  exact ⟨P, S, hL, rfl⟩
