/-! NIGHTS: tables are marked -/
def wy_mtn (P : wq_St) (r : Nat) : Nat → wq_St → wq_St
  | 0, Q => Q
  | k + 1, Q => wq_set (wy_mtn P r k Q) 10 (P 14 (3 * r + k)).toNat 1
def wy_mt (P : wq_St) (r : Nat) (Q : wq_St) : wq_St := wy_mtn P r (P 13 r).toNat Q
def wy_tm (P : wq_St) (r j : Nat) : Prop := ∃ k : Nat, (k : Int) < P 13 r ∧ (P 14 (3 * r + k)).toNat = j
section
variable {P Q S M : wq_St} {r : Nat}
theorem wy_mtn_p : ∀ n : Nat, (∀ j, (∃ k, k < n ∧ (P 14 (3 * r + k)).toNat = j) → wy_mtn P r n Q 10 j = 1) ∧ (∀ j, (¬∃ k, k < n ∧ (P 14 (3 * r + k)).toNat = j) → wy_mtn P r n Q 10 j = Q 10 j) ∧ ∀ f j, f ≠ 10 → wy_mtn P r n Q f j = Q f j
  | 0 => ⟨fun j ⟨k, hk, _⟩ => by omega, fun _ _ => rfl, fun _ _ _ => rfl⟩
  | n + 1 => by
    obtain ⟨h1, h2, h3⟩ := @wy_mtn_p n
    refine ⟨fun j hj => ?_, fun j hj => ?_, fun f j hf => ?_⟩
    · by_cases e : j = (P 14 (3 * r + n)).toNat
      · exact wy_set_at rfl e
      · refine (wy_set_ne (by omega)).trans (h1 j ?_)
        obtain ⟨k, hk, hkj⟩ := hj
        have : k ≠ n := fun e' => e (by rw [← hkj, e'])
        exact ⟨k, by omega, hkj⟩
    · have e : j ≠ (P 14 (3 * r + n)).toNat := fun e => hj ⟨n, by omega, e.symm⟩
      refine (wy_set_ne (by omega)).trans (h2 j ?_)
      rintro ⟨k, hk, hkj⟩
      exact hj ⟨k, by omega, hkj⟩
    · exact (wy_set_ne (by omega)).trans (h3 f j hf)
theorem wy_mt_1 {j : Nat} (h : wy_tm P r j) : wy_mt P r Q 10 j = 1 := by
  obtain ⟨k, hk, hj⟩ := h
  exact (wy_mtn_p (P 13 r).toNat).1 j ⟨k, by omega, hj⟩
theorem wy_mt_0 {j : Nat} (h : ¬wy_tm P r j) : wy_mt P r Q 10 j = Q 10 j := (wy_mtn_p (P 13 r).toNat).2.1 j (fun ⟨k, hk, hj⟩ => h ⟨k, by omega, hj⟩)
theorem wy_mt_o {f j : Nat} (h : f ≠ 10) : wy_mt P r Q f j = Q f j := (wy_mtn_p (P 13 r).toNat).2.2 f j h
theorem wy_x_marks (hI : wy_iv P) (hP : wy_R wy_co S P) (hR : wy_R wy_al S Q) (hr : r < 8) : ∃ S', f_X2_markTables (199 + 9 * r) S = some (0, S') ∧ wy_R wy_al S' (wy_mt P r Q) ∧ wy_R wy_co S' P ∧ ∀ j, S' 283 j = S 283 j := by
  have b13 := wy_b13 hI r
  unfold f_X2_markTables wy_mt
  have key := wy_up (fun n i (s : wq_St) => ∃ S', l_X2_markTables_2 (199 + 9 * r) (fun S4 => some (0, S4)) n (i : Int) s = some (0, S') ∧ wy_R wy_al S' (wy_mtn P r (P 13 r).toNat Q) ∧ wy_R wy_co S' P ∧ ∀ j, S' 283 j = S 283 j) (P 13 r).toNat (fun i s => wy_R wy_al s (wy_mtn P r i Q) ∧ wy_R wy_co s P ∧ ∀ j, s 283 j = S 283 j) ?_ ?_ wq_fu 0 S (by omega) (wy_fu' (by omega)) ⟨hR, hP, fun _ => rfl⟩
  · exact key
  · intro n i s hi ⟨hs, hp, hl⟩ ih
    have b14 := wy_b14 hI (3 * r + i)
    have e : ((i : Int) + 1) = ((i + 1 : Nat) : Int) := by omega
    rw [l_X2_markTables_2_s]
    unfold b_X2_markTables_2
    rw [wy_c13 hp hr, wq_w_id (x := P 13 r) (by omega) (by omega), wq_w_id (x := (i : Int)) (by omega) (by omega), if_neg (by omega), wy_ix (by omega) (by omega) (by omega), Int.toNat_natCast, wy_c14 hp hr (by omega), wy_ix (by omega) (by omega) (by omega), wy_lt, e]
    have h4 : (P 14 (3 * r + i)).toNat < 4 := by omega
    refine ih _ ⟨wy_R_set hs _ (f₀ := 10) (i₀ := (P 14 (3 * r + i)).toNat) ⟨h4, fun e => by omega⟩ rfl rfl, wy_R_off hp (f₀ := 10) (i₀ := (P 14 (3 * r + i)).toNat) ⟨h4, fun e => by omega⟩ rfl rfl (by unfold wy_co; omega), fun j => ?_⟩
    rw [wy_set_ne (by omega)]
    exact hl j
  · intro n s ⟨hs, hp, hl⟩
    rw [l_X2_markTables_2_s]
    unfold b_X2_markTables_2
    rw [wy_c13 hp hr, wq_w_id (x := P 13 r) (by omega) (by omega), wq_w_id (by omega) (by omega), if_pos (by omega)]
    exact ⟨s, rfl, hs, hp, hl⟩
theorem wy_m_marks (hI : wy_iv P) (hP : wy_M wy_co M P) (hM : wy_M wy_al M Q) (hr : r < 8) : ∃ M', f_X9_marks (r : Int) M = some (0, M') ∧ wy_M wy_al M' (wy_mt P r Q) ∧ wy_M wy_co M' P ∧ M' 0 42 = M 0 42 := by
  have b13 := wy_b13 hI r
  unfold f_X9_marks wy_mt
  have key := wy_up (fun n i (s : wq_St) => ∃ M', l_X9_marks_2 (r : Int) (fun S5 => some (0, S5)) n (i : Int) s = some (0, M') ∧ wy_M wy_al M' (wy_mtn P r (P 13 r).toNat Q) ∧ wy_M wy_co M' P ∧ M' 0 42 = M 0 42) (P 13 r).toNat (fun i s => wy_M wy_al s (wy_mtn P r i Q) ∧ wy_M wy_co s P ∧ s 0 42 = M 0 42) ?_ ?_ wq_fu 0 M (by omega) (wy_fu' (by omega)) ⟨hM, hP, rfl⟩
  · exact key
  · intro n i s hi ⟨hs, hp, h42⟩ ih
    have b14 := wy_b14 hI (3 * r + i)
    have e : ((i : Int) + 1) = ((i + 1 : Nat) : Int) := by omega
    have e13 : s 13 r = P 13 r := wy_m hp (by omega)
    have e14 : s 14 (3 * r + i) = P 14 (3 * r + i) := wy_m hp (by omega)
    rw [l_X9_marks_2_s]
    unfold b_X9_marks_2
    rw [wy_ix (by omega) (by omega) (by omega), Int.toNat_natCast, e13, wq_w_id (x := P 13 r) (by omega) (by omega), wq_w_id (x := (i : Int)) (by omega) (by omega), if_neg (by omega), wy_ix (by omega) (by omega) (by omega), wy_n3, e14, wy_ix (by omega) (by omega) (by omega), wy_lt, e]
    exact ih _ ⟨wy_M_set hs _ (by omega), wy_M_off hp (Or.inr (Or.inr (by unfold wy_co; omega))), by rw [wy_set_ne (by omega)]; exact h42⟩
  · intro n s ⟨hs, hp, h42⟩
    have e13 : s 13 r = P 13 r := wy_m hp (by omega)
    rw [l_X9_marks_2_s]
    unfold b_X9_marks_2
    rw [wy_ix (by omega) (by omega) (by omega), Int.toNat_natCast, e13, wq_w_id (x := P 13 r) (by omega) (by omega), wq_w_id (by omega) (by omega), if_pos (by omega)]
    exact ⟨s, rfl, hs, hp, h42⟩
end
