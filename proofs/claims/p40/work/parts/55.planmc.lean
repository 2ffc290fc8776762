/-! the model: what a plan costs -/
def wy_ck (P : wq_St) (r : Nat) (o w : Nat → Int) : Nat → Nat → Int → Int → Option Int
  | 0, _, _, sm => some sm
  | d + 1, s, ch, sm => match wy_wy P r o s ch (w s + 1).toNat with
    | none => none
    | some a => wy_ck P r o w d (s + 1) (wy_nt P r o s ch) (sm + a.1)
section
variable {P M : wq_St} {r : Nat} {o w : Nat → Int} {s : Nat} {ch : Int}
theorem wy_wy_b (hI : wy_iv P) (hc : 0 ≤ ch) (i : Nat) {a : Int × Int} (h : wy_wy P r o s ch i = some a) : 0 ≤ a.1 ∧ a.1 ≤ ch + ch * P 6 (wy_tb P r (o s)) := by
  have b6 := wy_b6 hI (wy_tb P r (o s))
  have hm := wy_mul_le hc b6.1 b6.2
  cases i with
  | zero =>
    cases h
    dsimp only
    omega
  | succ i =>
    simp only [wy_wy] at h
    unfold wy_wi at h
    split at h
    · cases h
      have hd := @wy_tdiv_b _ (wy_u1 (P 7 (3 * wy_tb P r (o s) + i))) hm.1 (wy_u1_b _)
      dsimp only
      omega
    · cases h
theorem wy_nt_b (hI : wy_iv P) (hc : 0 ≤ ch) : 0 ≤ wy_nt P r o s ch ∧ wy_nt P r o s ch ≤ 40 * ch := by
  have b6 := wy_b6 hI (wy_tb P r (o s))
  have hm := wy_mul_le hc b6.1 b6.2
  have h := @wy_bh_b P r hI o s _ hm.1 (P 15 r).toNat
  unfold wy_nt
  omega
theorem wy_ck_b (hI : wy_iv P) : ∀ (d s : Nat) (ch sm : Int), d + s ≤ 3 → 0 ≤ ch ∧ ch ≤ wy_cb s → 0 ≤ sm ∧ sm ≤ 2 * wy_cb (s + 1) → ∀ c, wy_ck P r o w d s ch sm = some c → 0 ≤ c ∧ c ≤ 1000000000000
  | 0, s, ch, sm, hd, hc, hs, c, h => by
    cases h
    have := @wy_cb_b (s + 1) (by omega)
    omega
  | d + 1, s, ch, sm, hd, hc, hs, c, h => by
    have hcb1 : wy_cb (s + 1) = 40 * wy_cb s := rfl
    have hcb2 : wy_cb (s + 1 + 1) = 40 * wy_cb (s + 1) := rfl
    have b6 := wy_b6 hI (wy_tb P r (o s))
    have hm := wy_mul_le hc.1 b6.1 b6.2
    have hn := @wy_nt_b P r o s ch hI hc.1
    simp only [wy_ck] at h
    split at h
    · cases h
    · rename_i a ha
      have hab := wy_wy_b hI hc.1 _ ha
      exact wy_ck_b hI d (s + 1) _ _ (by omega) ⟨hn.1, by omega⟩ ⟨by omega, by omega⟩ c h
theorem wy_m_behind (hI : wy_iv P) (hM : wy_M wy_co M P) (hp : wy_pm o) (h27 : ∀ j, j < 3 → M 27 j = o j) (hr : r < 8) (hs : s < 3) (hc : 0 ≤ ch ∧ ch ≤ 1000000000000) (y4 : Int) (kx : Int → wq_St → Option (Int × wq_St)) :
    l_X9_cost_197 (r : Int) y4 (s : Int) kx wq_fu ch (6 * (r : Int)) M = kx (wy_bh P r o s (P 15 r).toNat ch) M := by
  have b15 := wy_b15 hI r
  have e15 : M 15 r = P 15 r := wy_m hM (by omega)
  have key := wy_up (fun n i (_ : Unit) => l_X9_cost_197 (r : Int) y4 (s : Int) kx n (wy_bh P r o s i ch) (6 * (r : Int) + (i : Int)) M = kx (wy_bh P r o s (P 15 r).toNat ch) M) (P 15 r).toNat (fun _ _ => True) ?_ ?_ wq_fu 0 () (by omega) (wy_fu' (by omega)) trivial
  · simpa [wy_bh] using key
  · intro n i _ hi _ ih
    have ih := ih () trivial
    have hcs := @wy_cs_b P r o i
    have hb := @wy_bh_b P r hI o s ch hc.1 i
    have e : (6 * (r : Int) + (i : Int) + 1) = 6 * (r : Int) + ((i + 1 : Nat) : Int) := by omega
    rw [l_X9_cost_197_s]
    unfold b_X9_cost_197
    simp (disch := omega) only [wy_ix, Int.toNat_natCast, e15, wq_w_id]
    rw [if_neg (by omega), wy_bd (wy_m_soc hI hM hp h27 hr (by omega)), e, wq_w_id (by omega) (by omega)]
    simp only [wy_bh] at ih
    by_cases ha : wy_cs (wy_ps o) P r i = (s : Int)
    · rw [if_pos ha] at ih ⊢
      rw [wy_bd (wy_m_changed hI hM hr (by omega) ⟨hb.1, by omega⟩)]
      exact ih
    · rw [if_neg ha] at ih ⊢
      exact ih
  · intro n _ _
    rw [l_X9_cost_197_s]
    unfold b_X9_cost_197
    simp (disch := omega) only [wy_ix, Int.toNat_natCast, e15, wq_w_id]
    rw [if_pos (by omega)]
theorem wy_m_cost (hI : wy_iv P) (hM : wy_M wy_co M P) (hp : wy_pm o) (h27 : ∀ j, j < 3 → M 27 j = o j) (h28 : ∀ j, j < 3 → M 28 j = w j) (hw : ∀ j, j < 3 → -1 ≤ w j ∧ w j ≤ 2) (hr : r < 8) :
    f_X9_cost (r : Int) M = some ((wy_ck P r o w (P 13 r).toNat 0 1000 0).getD (-1), M) := by
  have b13 := wy_b13 hI r
  have e13 : M 13 r = P 13 r := wy_m hM (by omega)
  have e1 : ∀ j, M 1 j = P 1 j := fun j => wy_m hM (by omega)
  have e5 : ∀ j, M 5 j = P 5 j := fun j => wy_m hM (by omega)
  have e6 : ∀ j, M 6 j = P 6 j := fun j => wy_m hM (by omega)
  have e7 : ∀ j, M 7 j = P 7 j := fun j => wy_m hM (by omega)
  unfold f_X9_cost
  have key := wy_up (fun n i (q : Int × Int) => l_X9_cost_10 (r : Int) (fun u26 S27 => some (u26, S27)) n q.1 q.2 (i : Int) M = some ((wy_ck P r o w ((P 13 r).toNat - i) i q.1 q.2).getD (-1), M)) (P 13 r).toNat (fun i q => 0 ≤ q.1 ∧ q.1 ≤ wy_cb i) ?_ ?_ wq_fu 0 (1000, 0) (by omega) (wy_fu' (by omega)) ⟨by decide, by decide⟩
  · exact key
  · intro n i ⟨c0, sm⟩ hi hc ih
    dsimp only at hc ih ⊢
    have hcb := @wy_cb_b i (by omega)
    have hcb1 : wy_cb (i + 1) = 40 * wy_cb i := rfl
    have bo := hp.1 i (by omega)
    have bw := hw i (by omega)
    have b14 := wy_b14 hI (3 * r + (o i).toNat)
    have ht := @wy_tb_lt P r hI (o i)
    have e14 : M 14 (3 * r + (o i).toNat) = ((wy_tb P r (o i) : Nat) : Int) := by
      rw [wy_m hM (by omega)]
      unfold wy_tb
      omega
    have en : (3 * (r : Int) + o i).toNat = 3 * r + (o i).toNat := by omega
    have q27 := h27 i (by omega)
    have q28 := h28 i (by omega)
    have b1 := wy_b1 hI (wy_tb P r (o i))
    have b6 := wy_b6 hI (wy_tb P r (o i))
    have hm := wy_mul_le hc.1 b6.1 b6.2
    have hn := @wy_nt_b P r o i c0 hI hc.1
    have e : ((i : Int) + 1) = ((i + 1 : Nat) : Int) := by omega
    have ed : (P 13 r).toNat - i = ((P 13 r).toNat - (i + 1)) + 1 := by omega
    have h180 : ∀ sm', j_X9_cost_180 (fun u26 S27 => some (u26, S27)) (l_X9_cost_10 (r : Int) (fun u26 S27 => some (u26, S27)) n) (r : Int) c0 sm' (i : Int) ((wy_tb P r (o i) : Nat) : Int) M = some ((wy_ck P r o w ((P 13 r).toNat - (i + 1)) (i + 1) (wy_nt P r o i c0) sm').getD (-1), M) := by
      intro sm'
      unfold j_X9_cost_180
      simp (disch := omega) only [wy_ix, Int.toNat_natCast, e6, wq_w_id]
      rw [wy_m_behind hI hM hp h27 hr (by omega) ⟨hm.1, by omega⟩, e]
      exact ih (wy_nt P r o i c0, sm') ⟨hn.1, by omega⟩
    rw [l_X9_cost_10_s]
    unfold b_X9_cost_10
    simp (disch := omega) only [wy_ix, Int.toNat_natCast, e13, q27, q28, en, e14, wq_w_id, wq_lt, e6, e1]
    rw [if_neg (by omega), ed]
    simp only [wy_ck]
    by_cases hw1 : w i = -1
    · rw [if_pos hw1, hw1]
      exact h180 _
    · rw [if_neg hw1]
      obtain ⟨c, hcw⟩ : ∃ c : Nat, w i = (c : Int) := ⟨(w i).toNat, by omega⟩
      have hcw1 : (w i + 1).toNat = c + 1 := by omega
      rw [hcw1]
      simp only [wy_wy]
      unfold wy_wi
      rw [hcw]
      by_cases g1 : P 1 (wy_tb P r (o i)) ≤ (c : Int)
      · rw [if_pos g1, if_neg (fun h => by omega)]
        rfl
      · have b5 := wy_b5 hI (3 * wy_tb P r (o i) + c)
        have b7 := wy_b7 hI (3 * wy_tb P r (o i) + c)
        have hub := @wy_uo_b P r o i (c : Int) (P 15 r).toNat
        have b15 := wy_b15 hI r
        rw [if_neg g1]
        simp (disch := omega) only [wy_ix, wy_n3, e5, e7, wq_w_id]
        by_cases g2 : P 5 (3 * wy_tb P r (o i) + c) = 0
        · rw [if_pos g2, if_neg (fun h => h.2.1 g2)]
          rfl
        · rw [if_neg g2, wy_bd (wy_m_useOf hI hM hp h27 hr (by omega) (by omega))]
          by_cases g3 : wy_uo P r o i (c : Int) (P 15 r).toNat = -1
          · rw [if_pos g3, if_pos (by decide), if_neg (fun h => h.2.2 g3)]
            rfl
          · rw [if_neg g3, wq_w_id (by omega) (by omega), if_neg (by omega), if_pos ⟨by omega, g2, g3⟩]
            simp (disch := omega) only [wy_ix, Int.toNat_natCast, q28, hcw, wy_n3, e7, e6, wq_w_id]
            have h167 : ∀ z, z = wy_u1 (P 7 (3 * wy_tb P r (o i) + c)) → j_X9_cost_167 (fun u26 S27 => some (u26, S27)) (l_X9_cost_10 (r : Int) (fun u26 S27 => some (u26, S27)) n) (r : Int) c0 (i : Int) ((wy_tb P r (o i) : Nat) : Int) z (c0 * P 6 (wy_tb P r (o i))) c0 sm M = some ((wy_ck P r o w ((P 13 r).toNat - (i + 1)) (i + 1) (wy_nt P r o i c0) (sm + (c0 + Int.tdiv (c0 * P 6 (wy_tb P r (o i))) (wy_u1 (P 7 (3 * wy_tb P r (o i) + c)))))).getD (-1), M) := by
              intro z hz
              have hz1 := wy_u1_b (P 7 (3 * wy_tb P r (o i) + c))
              have hz2 : wy_u1 (P 7 (3 * wy_tb P r (o i) + c)) ≤ 40 := by unfold wy_u1; split <;> omega
              rw [hz]
              unfold j_X9_cost_167 wq_divL
              simp (disch := omega) only [wq_w_id, wq_v_id, wq_gd_t, wq_lt]
              exact h180 _
            by_cases g4 : 1 ≤ P 7 (3 * wy_tb P r (o i) + c)
            · rw [if_pos g4]
              exact h167 _ (by unfold wy_u1; rw [if_neg (by omega)])
            · rw [if_neg g4]
              exact h167 _ (by unfold wy_u1; rw [if_pos (by omega)])
  · intro n ⟨c0, sm⟩ hc
    rw [l_X9_cost_10_s]
    unfold b_X9_cost_10
    simp (disch := omega) only [wy_ix, Int.toNat_natCast, e13, wq_w_id]
    rw [if_pos (by omega), Nat.sub_self]
    rfl
end
