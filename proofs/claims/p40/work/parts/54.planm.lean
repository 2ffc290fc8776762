/-! the model: steps of conditions, what is left of choices -/
section
variable {P M : wq_St} {r : Nat} {o w : Nat → Int} {s : Nat} {ch : Int}
def wy_pm (o : Nat → Int) : Prop := (∀ j, j < 3 → 0 ≤ o j ∧ o j ≤ 2) ∧ ∀ x : Int, 0 ≤ x → x ≤ 2 → wy_ps o x < 3
theorem wy_m_stepOf (hp : wy_pm o) (h27 : ∀ j, j < 3 → M 27 j = o j) {x : Int} (h0 : 0 ≤ x) (h2 : x ≤ 2) : f_X9_stepOf x M = some (wy_ps o x, M) := by
  unfold f_X9_stepOf
  have hx := hp.2 x h0 h2
  have key := wy_up (fun n i (_ : Unit) => l_X9_stepOf_2 x (fun u2 S3 => some (u2, S3)) n (i : Int) M = some (wy_ps o x, M)) 3 (fun i _ => ∀ j, j < i → o j ≠ x) ?_ ?_ wq_fu 0 () (by omega) (wy_fu' (by omega)) (fun j hj => by omega)
  · exact key
  · intro n i _ hi hv ih
    have hb := hp.1 i hi
    rw [l_X9_stepOf_2_s]
    unfold b_X9_stepOf_2
    simp (disch := omega) only [wy_ix, Int.toNat_natCast, h27, wq_w_id]
    by_cases e : o i = x
    · rw [if_pos e]
      have : i = 0 ∨ i = 1 ∨ i = 2 := by omega
      unfold wy_ps
      rcases this with rfl | rfl | rfl
      · rw [if_pos e]; rfl
      · rw [if_neg (hv 0 (by omega)), if_pos e]; rfl
      · rw [if_neg (hv 0 (by omega)), if_neg (hv 1 (by omega)), if_pos e]; rfl
    · rw [if_neg e]
      refine ih () fun j hj => ?_
      by_cases ej : j = i
      · rw [ej]; exact e
      · exact hv j (by omega)
  · intro n _ hv
    exfalso
    unfold wy_ps at hx
    rw [if_neg (hv 0 (by omega)), if_neg (hv 1 (by omega)), if_neg (hv 2 (by omega))] at hx
    omega
theorem wy_m_soc (hI : wy_iv P) (hM : wy_M wy_co M P) (hp : wy_pm o) (h27 : ∀ j, j < 3 → M 27 j = o j) (hr : r < 8) {k : Nat} (hk : k < 6) : f_X9_stepOfCondition (6 * (r : Int) + (k : Int)) M = some (wy_cs (wy_ps o) P r k, M) := by
  have b16 := wy_b16 hI (6 * r + k)
  have b17 := wy_b17 hI (6 * r + k)
  have b20 := wy_b20 hI (6 * r + k)
  have e16 : M 16 (6 * r + k) = P 16 (6 * r + k) := wy_m hM (by omega)
  have e17 : M 17 (6 * r + k) = P 17 (6 * r + k) := wy_m hM (by omega)
  have e20 : M 20 (6 * r + k) = P 20 (6 * r + k) := wy_m hM (by omega)
  have p17 := wy_ps_b o (P 17 (6 * r + k))
  have p20 := wy_ps_b o (P 20 (6 * r + k))
  unfold f_X9_stepOfCondition wy_cs
  simp (disch := omega) only [wy_ix, wy_n6, e17]
  rw [wy_bd (wy_m_stepOf hp h27 b17.1 b17.2)]
  simp (disch := omega) only [e16, e20, wq_w_id]
  by_cases h3 : P 16 (6 * r + k) = 3
  · rw [if_pos h3, wy_bd (wy_m_stepOf hp h27 b20.1 b20.2)]
    simp (disch := omega) only [wq_w_id]
    by_cases hl : wy_ps o (P 20 (6 * r + k)) ≤ wy_ps o (P 17 (6 * r + k))
    · rw [if_pos hl, if_neg (by omega)]
    · rw [if_neg hl, if_pos (by omega)]
  · rw [if_neg h3, if_pos (Int.le_refl _), if_neg (fun h => h3 h.1)]
theorem wy_cs_b (o : Nat → Int) (k : Nat) : 0 ≤ wy_cs (wy_ps o) P r k ∧ wy_cs (wy_ps o) P r k ≤ 3 := by
  have p17 := wy_ps_b o (P 17 (6 * r + k))
  have p20 := wy_ps_b o (P 20 (6 * r + k))
  unfold wy_cs
  split <;> omega
theorem wy_m_useOf (hI : wy_iv P) (hM : wy_M wy_co M P) (hp : wy_pm o) (h27 : ∀ j, j < 3 → M 27 j = o j) (hr : r < 8) (hs : s < 3) {c : Int} (hc : -1000 ≤ c ∧ c ≤ 1000) : f_X9_useOf (r : Int) (s : Int) c M = some ((if wy_uo P r o s c (P 15 r).toNat = -1 then -1 else 6 * (r : Int) + wy_uo P r o s c (P 15 r).toNat), M) := by
  have b15 := wy_b15 hI r
  have e15 : M 15 r = P 15 r := wy_m hM (by omega)
  unfold f_X9_useOf
  have key := wy_up (fun n i (_ : Unit) => l_X9_useOf_6 (r : Int) (s : Int) c (fun S8 => some ((-1), S8)) n (6 * (r : Int) + (i : Int)) M = some ((if wy_uo P r o s c (P 15 r).toNat = -1 then -1 else 6 * (r : Int) + wy_uo P r o s c (P 15 r).toNat), M)) (P 15 r).toNat (fun i _ => wy_uo P r o s c i = -1) ?_ ?_ wq_fu 0 () (by omega) (wy_fu' (by omega)) rfl
  · simpa using key
  · intro n i _ hi h0 ih
    have b16 := wy_b16 hI (6 * r + i)
    have b17 := wy_b17 hI (6 * r + i)
    have b18 := wy_b18 hI (6 * r + i)
    have b21 := wy_b21 hI (6 * r + i)
    have bs := hp.1 s hs
    have hcs := @wy_cs_b P r o i
    have e16 : M 16 (6 * r + i) = P 16 (6 * r + i) := wy_m hM (by omega)
    have e17 : M 17 (6 * r + i) = P 17 (6 * r + i) := wy_m hM (by omega)
    have e18 : M 18 (6 * r + i) = P 18 (6 * r + i) := wy_m hM (by omega)
    have e21 : M 21 (6 * r + i) = P 21 (6 * r + i) := wy_m hM (by omega)
    have e : (6 * (r : Int) + (i : Int) + 1) = 6 * (r : Int) + ((i + 1 : Nat) : Int) := by omega
    have hcol : f_X9_columnAt (6 * (r : Int) + (i : Int)) (s : Int) M = some ((if P 17 (6 * r + i) = o s then P 18 (6 * r + i) else P 21 (6 * r + i)), M) := by
      unfold f_X9_columnAt
      simp (disch := omega) only [wy_ix, wy_n6, Int.toNat_natCast, e17, e18, e21, h27, wq_w_id]
      split <;> rfl
    have hcb : 0 ≤ (if P 17 (6 * r + i) = o s then P 18 (6 * r + i) else P 21 (6 * r + i)) ∧ (if P 17 (6 * r + i) = o s then P 18 (6 * r + i) else P 21 (6 * r + i)) ≤ 2 := by split <;> omega
    rw [l_X9_useOf_6_s]
    unfold b_X9_useOf_6 j_X9_useOf_43
    simp (disch := omega) only [wy_ix, wy_n6, Int.toNat_natCast, e15, e16, wq_w_id]
    rw [if_neg (by omega)]
    have nxt : ¬wy_us P r o s c i → wy_uo P r o s c (i + 1) = -1 := fun h => by
      simp only [wy_uo]
      rw [if_neg (fun h => h h0), if_neg h]
    have mid : P 16 (6 * r + i) = 0 ∨ P 16 (6 * r + i) = 3 → (wq_bd (f_X9_stepOfCondition (6 * (r : Int) + (i : Int)) M) fun r3 S4 => if wq_w r3 = wq_w (s : Int) then wq_bd (f_X9_columnAt (6 * (r : Int) + (i : Int)) (s : Int) S4) fun r5 S6 => if wq_w r5 = wq_w c then some (6 * (r : Int) + (i : Int), S6) else l_X9_useOf_6 (r : Int) (s : Int) c (fun S8 => some ((-1), S8)) n (6 * (r : Int) + (i : Int) + 1) S6 else l_X9_useOf_6 (r : Int) (s : Int) c (fun S8 => some ((-1), S8)) n (6 * (r : Int) + (i : Int) + 1) S4) = some ((if wy_uo P r o s c (P 15 r).toNat = -1 then -1 else 6 * (r : Int) + wy_uo P r o s c (P 15 r).toNat), M) := by
      intro hkd
      rw [wy_bd (wy_m_soc hI hM hp h27 hr (by omega)), e]
      simp (disch := omega) only [wq_w_id]
      by_cases ha : wy_cs (wy_ps o) P r i = (s : Int)
      · rw [if_pos ha, wy_bd hcol]
        rw [wq_w_id (by omega) (by omega)]
        by_cases hcc : (if P 17 (6 * r + i) = o s then P 18 (6 * r + i) else P 21 (6 * r + i)) = c
        · rw [if_pos hcc, wy_uo_hit h0 ⟨hkd, ha, hcc⟩ hi, if_neg (by omega)]
        · rw [if_neg hcc]
          exact ih () (nxt fun h => hcc h.2.2)
      · rw [if_neg ha]
        exact ih () (nxt fun h => ha h.2.1)
    by_cases k0 : P 16 (6 * r + i) = 0
    · rw [if_pos k0]
      have h := mid (Or.inl k0)
      rw [wq_w_id (x := (s : Int)) (by omega) (by omega), wq_w_id (x := c) (by omega) (by omega)] at h
      exact h
    · rw [if_neg k0]
      by_cases k3 : P 16 (6 * r + i) = 3
      · rw [if_pos k3]
        have h := mid (Or.inr k3)
        rw [wq_w_id (x := (s : Int)) (by omega) (by omega), wq_w_id (x := c) (by omega) (by omega)] at h
        exact h
      · rw [if_neg k3, e]
        exact ih () (nxt fun h => by have := h.1; omega)
  · intro n _ h0
    rw [l_X9_useOf_6_s]
    unfold b_X9_useOf_6
    simp (disch := omega) only [wy_ix, Int.toNat_natCast, e15, wq_w_id]
    rw [if_pos (by omega), if_pos h0]
theorem wy_m_changed (hI : wy_iv P) (hM : wy_M wy_co M P) (hr : r < 8) {k : Nat} (hk : k < 6) (hc : 0 ≤ ch ∧ ch ≤ 1000000000000) : f_X9_changed (r : Int) (6 * (r : Int) + (k : Int)) ch M = some (wy_cg P r k ch, M) := by
  have b16 := wy_b16 hI (6 * r + k)
  have b17 := wy_b17 hI (6 * r + k)
  have b18 := wy_b18 hI (6 * r + k)
  have b19 := wy_b19 hI (6 * r + k)
  have b20 := wy_b20 hI (6 * r + k)
  have b21 := wy_b21 hI (6 * r + k)
  have e16 : M 16 (6 * r + k) = P 16 (6 * r + k) := wy_m hM (by omega)
  have e17 : M 17 (6 * r + k) = P 17 (6 * r + k) := wy_m hM (by omega)
  have e18 : M 18 (6 * r + k) = P 18 (6 * r + k) := wy_m hM (by omega)
  have e19 : M 19 (6 * r + k) = P 19 (6 * r + k) := wy_m hM (by omega)
  have e20 : M 20 (6 * r + k) = P 20 (6 * r + k) := wy_m hM (by omega)
  have e21 : M 21 (6 * r + k) = P 21 (6 * r + k) := wy_m hM (by omega)
  have e14 : ∀ j, M 14 j = P 14 j := fun j => wy_m hM (by omega)
  have e7 : ∀ j, M 7 j = P 7 j := fun j => wy_m hM (by omega)
  have e8 : ∀ j, M 8 j = P 8 j := fun j => wy_m hM (by omega)
  have e9 : ∀ j, M 9 j = P 9 j := fun j => wy_m hM (by omega)
  have b14 := wy_b14 hI (3 * r + (P 17 (6 * r + k)).toNat)
  have b14' := wy_b14 hI (3 * r + (P 20 (6 * r + k)).toNat)
  have b7 := wy_b7 hI (wy_ce P r k)
  have b8 := wy_b8 hI (wy_ce P r k)
  have b9 := wy_b9 hI (wy_ce P r k)
  have b7' := wy_b7 hI (wy_ce2 P r k)
  have hL := hI.2.2.2.2.1 (wy_ce P r k)
  have u1 : 1 ≤ wy_u1 (P 7 (wy_ce P r k)) ∧ wy_u1 (P 7 (wy_ce P r k)) ≤ 40 := by unfold wy_u1; split <;> omega
  have hcell : f_X9_cellAt (r : Int) (P 17 (6 * r + k)) (P 18 (6 * r + k)) M = some (((wy_ce P r k : Nat) : Int), M) := by
    unfold f_X9_cellAt
    have en : (3 * (r : Int) + P 17 (6 * r + k)).toNat = 3 * r + (P 17 (6 * r + k)).toNat := by omega
    simp (disch := omega) only [wy_ix, en, e14]
    have : 3 * P 14 (3 * r + (P 17 (6 * r + k)).toNat) + P 18 (6 * r + k) = ((wy_ce P r k : Nat) : Int) := by
      unfold wy_ce wy_tb
      omega
    rw [this]
  have hcell' : f_X9_cellAt (r : Int) (P 20 (6 * r + k)) (P 21 (6 * r + k)) M = some (((wy_ce2 P r k : Nat) : Int), M) := by
    unfold f_X9_cellAt
    have en : (3 * (r : Int) + P 20 (6 * r + k)).toNat = 3 * r + (P 20 (6 * r + k)).toNat := by omega
    simp (disch := omega) only [wy_ix, en, e14]
    have : 3 * P 14 (3 * r + (P 20 (6 * r + k)).toNat) + P 21 (6 * r + k) = ((wy_ce2 P r k : Nat) : Int) := by
      unfold wy_ce2 wy_tb
      omega
    rw [this]
  have hce : wy_ce P r k < 12 := by unfold wy_ce wy_tb; omega
  have hce' : wy_ce2 P r k < 12 := by unfold wy_ce2 wy_tb; omega
  have h189 : ∀ part, -1000 ≤ part → part ≤ 1000 → j_X9_changed_189 ch (P 9 (wy_ce P r k) - P 8 (wy_ce P r k) + 1) part M = some (Int.tdiv (ch * wy_cl part (P 9 (wy_ce P r k) - P 8 (wy_ce P r k) + 1)) (P 9 (wy_ce P r k) - P 8 (wy_ce P r k) + 1), M) := by
    intro part hp1 hp2
    have hcl := @wy_cl_b part (P 9 (wy_ce P r k) - P 8 (wy_ce P r k) + 1) (by omega)
    have hml := @wy_mul_le ch _ 1000 hc.1 hcl.1 (by omega)
    unfold j_X9_changed_189
    by_cases h0 : 0 ≤ part
    · by_cases h1 : part ≤ P 9 (wy_ce P r k) - P 8 (wy_ce P r k) + 1
      · have ec : wy_cl part (P 9 (wy_ce P r k) - P 8 (wy_ce P r k) + 1) = part := by unfold wy_cl; rw [if_neg (by omega), if_neg (by omega)]
        rw [ec] at hml ⊢
        simp (disch := omega) only [wq_w_id, wq_v_id, wq_gd_t, wq_divL]
        rw [if_pos h0, if_pos h1]
      · have ec : wy_cl part (P 9 (wy_ce P r k) - P 8 (wy_ce P r k) + 1) = P 9 (wy_ce P r k) - P 8 (wy_ce P r k) + 1 := by unfold wy_cl; rw [if_neg (by omega), if_pos (by omega)]
        rw [ec] at hml ⊢
        simp (disch := omega) only [wq_w_id, wq_v_id, wq_gd_t, wq_divL]
        rw [if_pos h0, if_neg h1]
    · have ec : wy_cl part (P 9 (wy_ce P r k) - P 8 (wy_ce P r k) + 1) = 0 := by unfold wy_cl; rw [if_pos (by omega)]
      rw [ec] at hml ⊢
      simp (disch := omega) only [wq_w_id, wq_v_id, wq_gd_t, wq_divL]
      rw [if_neg h0]
  have h60 : ∀ z, z = wy_u1 (P 7 (wy_ce P r k)) → j_X9_changed_60 (r : Int) (6 * (r : Int) + (k : Int)) ch z M = some ((if P 16 (6 * r + k) = 3 then Int.tdiv ch (wy_mx (wy_u1 (P 7 (wy_ce P r k))) (P 7 (wy_ce2 P r k))) else Int.tdiv ch (wy_u1 (P 7 (wy_ce P r k)))), M) := by
    intro z hz
    subst hz
    unfold j_X9_changed_60
    simp (disch := omega) only [wy_ix, wy_n6, e16, e20, e21, wq_w_id]
    by_cases h3 : P 16 (6 * r + k) = 3
    · rw [if_pos h3, if_pos h3, wy_bd hcell']
      simp (disch := omega) only [wy_ix, Int.toNat_natCast, e7, e20, e21, wq_w_id]
      unfold wy_mx
      by_cases hl : P 7 (wy_ce2 P r k) ≤ wy_u1 (P 7 (wy_ce P r k))
      · rw [if_pos hl, if_neg (by omega)]
        unfold wq_divL
        simp (disch := omega) only [wq_v_id, wq_gd_t]
      · rw [if_neg hl, if_pos (by omega), wy_bd hcell']
        simp (disch := omega) only [wy_ix, Int.toNat_natCast, e7, wq_w_id, wq_divL, wq_v_id, wq_gd_t]
    · rw [if_neg h3, if_neg h3]
      unfold wq_divL
      simp (disch := omega) only [wq_v_id, wq_gd_t]
  have h38 : j_X9_changed_38 (r : Int) (6 * (r : Int) + (k : Int)) ch ((wy_ce P r k : Nat) : Int) M = some ((if P 16 (6 * r + k) = 3 then Int.tdiv ch (wy_mx (wy_u1 (P 7 (wy_ce P r k))) (P 7 (wy_ce2 P r k))) else Int.tdiv ch (wy_u1 (P 7 (wy_ce P r k)))), M) := by
    unfold j_X9_changed_38
    simp (disch := omega) only [wy_ix, Int.toNat_natCast, e7, wq_w_id]
    by_cases h1 : 1 ≤ P 7 (wy_ce P r k)
    · rw [if_pos h1]
      exact h60 _ (by unfold wy_u1; rw [if_neg (by omega)])
    · rw [if_neg h1]
      exact h60 _ (by unfold wy_u1; rw [if_pos (by omega)])
  unfold f_X9_changed
  simp (disch := omega) only [wy_ix, wy_n6, e17, e18]
  rw [wy_bd hcell]
  simp (disch := omega) only [wy_ix, Int.toNat_natCast, e16, e19, e8, e9, wq_w_id, wq_lt]
  unfold wy_cg
  by_cases k0 : P 16 (6 * r + k) = 0
  · rw [if_pos k0, if_pos k0, h38, if_neg (by omega)]
  · rw [if_neg k0, if_neg k0]
    by_cases k3 : P 16 (6 * r + k) = 3
    · rw [if_pos k3, if_neg (by omega), if_neg (by omega), h38, if_pos k3]
    · rw [if_neg k3]
      by_cases k1 : P 16 (6 * r + k) = 1
      · rw [if_pos k1, if_pos k1]
        exact h189 _ (by omega) (by omega)
      · rw [if_neg k1, if_neg k1, if_pos (by omega)]
        exact h189 _ (by omega) (by omega)
end
