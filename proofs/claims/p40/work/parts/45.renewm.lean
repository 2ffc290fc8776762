section
variable {P : wq_St} {t : Nat} {by_ : Int} {S M : wq_St}
theorem wy_m_col (hI : wy_iv P) (h2' : ∀ j, M 2 j = P 2 j) (h3 : ∀ j, M 3 j = P 3 j) (h4 : ∀ j, M 4 j = P 4 j) (ht : t < 4) (h1 : 1 ≤ by_) (h2 : by_ ≤ 10) {c : Nat} (hc : c < 3) (kx : wq_St → Option (Int × wq_St)) :
    l_X9_renews_60 (t : Int) by_ (c : Int) (3 * (t : Int) + (c : Int)) kx wq_fu 0 0 (wy_m3 M (3 * t + c) 0 0 0) = kx (wy_m3 M (3 * t + c) (by_ * wy_un P t by_ c (P 2 t).toNat) (wy_le P t by_ c (P 2 t).toNat) (wy_gr P t by_ c (P 2 t).toNat)) := by
  have b2 := wy_b2 hI t
  have g2 : ∀ u l g j, wy_m3 M (3 * t + c) u l g 2 j = P 2 j := fun u l g j => by rw [wy_m3_o (by omega), h2']
  have g3 : ∀ u l g j, wy_m3 M (3 * t + c) u l g 3 j = P 3 j := fun u l g j => by rw [wy_m3_o (by omega), h3]
  have g4 : ∀ u l g j, wy_m3 M (3 * t + c) u l g 4 j = P 4 j := fun u l g j => by rw [wy_m3_o (by omega), h4]
  have key := wy_up (fun n i (_ : Unit) => l_X9_renews_60 (t : Int) by_ (c : Int) (3 * (t : Int) + (c : Int)) kx n (if wy_ns P t by_ i = 0 then 0 else 1) (i : Int) (wy_m3 M (3 * t + c) (by_ * wy_un P t by_ c i) (wy_le P t by_ c i) (wy_gr P t by_ c i)) = kx (wy_m3 M (3 * t + c) (by_ * wy_un P t by_ c (P 2 t).toNat) (wy_le P t by_ c (P 2 t).toNat) (wy_gr P t by_ c (P 2 t).toNat))) (P 2 t).toNat (fun _ _ => True) ?_ ?_ wq_fu 0 () (by omega) (wy_fu' (by omega)) trivial
  · simpa [wy_ns, wy_un, wy_le, wy_gr] using key
  · intro n i s hi _ ih
    have ih := ih () trivial
    have hlg := @wy_legr P t by_ hI c i
    have b4 : 0 ≤ wy_va P t c i ∧ wy_va P t c i ≤ 999 := wy_b4 hI _
    have hnb := @wy_nx_b P t by_ c (wy_va P t c i) i
    have e : ((i : Int) + 1) = ((i + 1 : Nat) : Int) := by omega
    rw [l_X9_renews_60_s]
    unfold b_X9_renews_60
    simp (disch := omega) only [wy_ix, Int.toNat_natCast, g2, wq_w_id]
    rw [if_neg (by omega), wy_bd (wy_m_isSampled hI (g3 _ _ _) ht h1 h2 (by omega))]
    by_cases hm : wy_sm P t by_ i
    · rw [if_pos hm, if_neg (by decide), wy_bd (wy_m_valueAt (g4 _ _ _) ht (by omega) hc)]
      rw [wy_ns_s1 hm] at ih
      simp only [wy_un, wy_le, wy_gr] at ih
      rw [if_neg (by omega), if_pos hm, if_pos hm] at ih
      have h163 : ∀ g' g l, g' = (if wy_ns P t by_ i = 0 ∨ wy_gr P t by_ c i < wy_va P t c i then wy_va P t c i else wy_gr P t by_ c i) → l = (if wy_ns P t by_ i = 0 ∨ wy_va P t c i < wy_le P t by_ c i then wy_va P t c i else wy_le P t by_ c i) →
          j_X9_renews_163 kx (l_X9_renews_60 (t : Int) by_ (c : Int) (3 * (t : Int) + (c : Int)) kx n) (t : Int) by_ (c : Int) (3 * (t : Int) + (c : Int)) (i : Int) (wy_va P t c i) g' (3 * (t : Int) + (c : Int)) (wy_m3 M (3 * t + c) (by_ * wy_un P t by_ c i) l g) = kx (wy_m3 M (3 * t + c) (by_ * wy_un P t by_ c (P 2 t).toNat) (wy_le P t by_ c (P 2 t).toNat) (wy_gr P t by_ c (P 2 t).toNat)) := by
        intro g' g l hg hl
        subst hg hl
        unfold j_X9_renews_163
        simp (disch := omega) only [wy_ix, wy_n3, wq_lt, wy_m3_9]
        rw [wy_m_nx hI (g3 _ _ _) (g4 _ _ _) ht h1 h2 hc (by omega) b4, e]
        simp only [wy_m3_7, wy_m3_r7]
        rcases hnb with hz | hz
        · rw [hz] at ih ⊢
          rw [if_neg (fun h => h.2 rfl)] at ih
          rw [if_pos wq_w_0]
          simp only [Int.add_zero] at ih ⊢
          exact ih
        · rw [hz] at ih ⊢
          rw [if_pos ⟨hm, by omega⟩, Int.mul_add, Int.mul_one] at ih
          rw [if_neg (by decide)]
          exact ih
      have h127 : ∀ l' , l' = (if wy_ns P t by_ i = 0 ∨ wy_va P t c i < wy_le P t by_ c i then wy_va P t c i else wy_le P t by_ c i) →
          j_X9_renews_127 kx (l_X9_renews_60 (t : Int) by_ (c : Int) (3 * (t : Int) + (c : Int)) kx n) (t : Int) by_ (c : Int) (3 * (t : Int) + (c : Int)) (if wy_ns P t by_ i = 0 then 0 else 1) (i : Int) (wy_va P t c i) l' (3 * (t : Int) + (c : Int)) (wy_m3 M (3 * t + c) (by_ * wy_un P t by_ c i) (wy_le P t by_ c i) (wy_gr P t by_ c i)) = kx (wy_m3 M (3 * t + c) (by_ * wy_un P t by_ c (P 2 t).toNat) (wy_le P t by_ c (P 2 t).toNat) (wy_gr P t by_ c (P 2 t).toNat)) := by
        intro l' hl
        unfold j_X9_renews_127 j_X9_renews_151
        simp (disch := omega) only [wy_ix, wy_n3, wq_lt, wy_m3_8, wy_m3_r9]
        by_cases hq : wy_ns P t by_ i = 0
        · rw [if_pos hq, if_pos wq_w_0]
          exact h163 _ _ _ (by rw [if_pos (Or.inl hq)]) hl
        · rw [if_neg hq, if_neg (by decide), wq_w_id (by omega) (by omega), wq_w_id (by omega) (by omega)]
          by_cases hg : wy_va P t c i ≤ wy_gr P t by_ c i
          · rw [if_pos hg]
            exact h163 _ _ _ (by rw [if_neg (by omega)]) hl
          · rw [if_neg hg]
            exact h163 _ _ _ (by rw [if_pos (by omega)]) hl
      unfold j_X9_renews_115
      simp (disch := omega) only [wy_ix, wy_n3, wy_m3_r8]
      by_cases hq : wy_ns P t by_ i = 0
      · have h127' := h127 (wy_va P t c i) (by rw [if_pos (Or.inl hq)])
        rw [if_pos hq] at h127' ⊢
        rw [if_pos (by decide)]
        exact h127'
      · have h127' := h127
        rw [if_neg hq] at h127' ⊢
        rw [if_neg (by decide), wq_w_id (by omega) (by omega), wq_w_id (by omega) (by omega)]
        by_cases hg : wy_le P t by_ c i ≤ wy_va P t c i
        · rw [if_pos hg]
          exact h127' _ (by rw [if_neg (by omega)])
        · rw [if_neg hg]
          exact h127' _ (by rw [if_pos (by omega)])
    · rw [if_neg hm, if_pos wq_w_0, e]
      rw [wy_ns_s0 hm] at ih
      simp only [wy_un, wy_le, wy_gr] at ih
      rw [if_neg (show ¬(wy_sm P t by_ i ∧ wy_nx P t by_ c (wy_va P t c i) i ≠ 0) from fun h => hm h.1), if_neg hm, if_neg hm, Int.add_zero] at ih
      exact ih
  · intro n s _
    rw [l_X9_renews_60_s]
    unfold b_X9_renews_60
    simp (disch := omega) only [wy_ix, Int.toNat_natCast, g2, wq_w_id]
    rw [if_pos (by omega)]
theorem wy_m_renews (hI : wy_iv P) (hM : wy_M wy_al M P) (ht : t < 4) (h1 : 1 ≤ by_) (h2 : by_ ≤ 10) : ∃ M', f_X9_renews (t : Int) by_ M = some (0, M') ∧ wy_M wy_al M' (wy_rn P t by_ (P 1 t).toNat) ∧ (∀ f j, ¬(6 ≤ f ∧ f ≤ 9) → M' f j = M f j) := by
  have b1 := wy_b1 hI t
  have b2 := wy_b2 hI t
  have hcb := wy_ct_b P t (P 2 t).toNat
  have m2 : ∀ j, M 2 j = P 2 j := fun j => wy_ma hM (by omega)
  have m3 : ∀ j, M 3 j = P 3 j := fun j => wy_ma hM (by omega)
  unfold f_X9_renews
  rw [wy_bd (wy_m_rowsOf hI m2 m3 ht)]
  simp (disch := omega) only [wy_ix, Int.toNat_natCast, wq_lt]
  have key := wy_up (fun n i (M1 : wq_St) => ∃ M', l_X9_renews_13 (t : Int) by_ (fun S45 => some (0, S45)) n (i : Int) M1 = some (0, M') ∧ wy_M wy_al M' (wy_rn P t by_ (P 1 t).toNat) ∧ (∀ f j, ¬(6 ≤ f ∧ f ≤ 9) → M' f j = M f j)) (P 1 t).toNat (fun i M1 => wy_M wy_al M1 (wy_rn P t by_ i) ∧ (∀ f j, ¬(6 ≤ f ∧ f ≤ 9) → M1 f j = M f j)) ?_ ?_ wq_fu 0 (wq_set M 6 t (wy_ct P t (P 2 t).toNat)) (by omega) (wy_fu' (by omega)) ⟨?_, ?_⟩
  · exact key
  · intro n i M1 hi ⟨hm, hf⟩ ih
    have q1 : M1 1 t = P 1 t := by rw [wy_ma hm (by omega), wy_rn_o (by omega)]
    have q2 : ∀ j, M1 2 j = P 2 j := fun j => by rw [wy_ma hm (by omega), wy_rn_o (by omega)]
    have q3 : ∀ j, M1 3 j = P 3 j := fun j => by rw [wy_ma hm (by omega), wy_rn_o (by omega)]
    have q4 : ∀ j, M1 4 j = P 4 j := fun j => by rw [wy_ma hm (by omega), wy_rn_o (by omega)]
    have q6 : M1 6 t = wy_ct P t (P 2 t).toNat := by
      rw [wy_ma hm (by omega)]
      unfold wy_rn
      rw [if_pos ⟨rfl, rfl⟩]
    have hu := @wy_un_b P t by_ i (P 2 t).toNat
    have hmb := wy_mul_b h1 h2 (y := wy_un P t by_ i (P 2 t).toNat) (by omega) (by omega)
    have e : ((i : Int) + 1) = ((i + 1 : Nat) : Int) := by omega
    rw [l_X9_renews_13_s]
    unfold b_X9_renews_13
    simp (disch := omega) only [wy_ix, Int.toNat_natCast, wy_n3, q1, wq_w_id, wq_lt]
    rw [if_neg (by omega)]
    have hcol : ∀ kx, l_X9_renews_60 (t : Int) by_ (i : Int) (3 * (t : Int) + (i : Int)) kx wq_fu 0 0 (wq_set (wq_set (wq_set M1 7 (3 * t + i) 0) 8 (3 * t + i) 0) 9 (3 * t + i) 0) = kx (wy_m3 M1 (3 * t + i) (by_ * wy_un P t by_ i (P 2 t).toNat) (wy_le P t by_ i (P 2 t).toNat) (wy_gr P t by_ i (P 2 t).toNat)) := fun kx => wy_m_col hI q2 q3 q4 ht h1 h2 (by omega) kx
    rw [hcol]
    simp only [wy_m3_r7, wy_m3_7]
    rw [wy_m3_o (by omega), q6, wq_w_id (by omega) (by omega), wq_w_id (by omega) (by omega), e]
    have fin : ∀ u, u = (if wy_ct P t (P 2 t).toNat < by_ * wy_un P t by_ i (P 2 t).toNat then wy_ct P t (P 2 t).toNat else by_ * wy_un P t by_ i (P 2 t).toNat) → wy_M wy_al (wy_m3 M1 (3 * t + i) u (wy_le P t by_ i (P 2 t).toNat) (wy_gr P t by_ i (P 2 t).toNat)) (wy_rn P t by_ (i + 1)) ∧ (∀ f j, ¬(6 ≤ f ∧ f ≤ 9) → wy_m3 M1 (3 * t + i) u (wy_le P t by_ i (P 2 t).toNat) (wy_gr P t by_ i (P 2 t).toNat) f j = M f j) := by
      intro u hu
      subst hu
      refine ⟨?_, fun f j h => by rw [wy_m3_o (by omega)]; exact hf f j h⟩
      rw [wy_rn_s]
      unfold wy_m3
      exact wy_M_set (wy_M_set (wy_M_set hm _ (by omega)) _ (by omega)) _ (by omega)
    by_cases hl : by_ * wy_un P t by_ i (P 2 t).toNat ≤ wy_ct P t (P 2 t).toNat
    · rw [if_pos hl]
      exact ih _ (fin _ (by rw [if_neg (by omega)]))
    · rw [if_neg hl]
      exact ih _ (fin _ (by rw [if_pos (by omega)]))
  · intro n M1 ⟨hm, hf⟩
    have q1 : M1 1 t = P 1 t := by rw [wy_ma hm (by omega), wy_rn_o (by omega)]
    rw [l_X9_renews_13_s]
    unfold b_X9_renews_13
    simp (disch := omega) only [wy_ix, Int.toNat_natCast, q1, wq_w_id]
    rw [if_pos (by omega)]
    exact ⟨M1, rfl, hm, hf⟩
  · rw [wy_rn_0]
    exact wy_M_set hM _ (by omega)
  · intro f j h
    exact wy_set_ne (by omega)
end
