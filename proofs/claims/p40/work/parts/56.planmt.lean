/-! the model tries all ways of all orders -/
def wy_fm (M M' : wq_St) : Prop := ∀ f j, ¬(28 ≤ f ∧ f ≤ 30) → ¬(f = 0 ∧ j = 37) → M' f j = M f j
def wy_bm (M : wq_St) (b : Option (Int × wy_pl)) : Prop := match b with
  | none => M 0 37 = -1
  | some p => M 0 37 = p.1 ∧ 0 ≤ p.1 ∧ p.1 ≤ 1000000000000000 ∧ ∀ j : Nat, j < 3 → M 29 j = p.2.1 j ∧ M 30 j = p.2.2 j
def wy_w3 (a b c : Int) : Nat → Int := wy_ud (wy_ud (wy_ud (fun _ => -1) 0 a) 1 b) 2 c
def wy_o3 (a b c : Int) : Nat → Int := wy_ud (wy_ud (wy_ud (fun j => (j : Int)) 0 a) 1 b) 2 c
def wy_cd (P : wq_St) (r : Nat) (o : Nat → Int) (a b c : Int) : Option (Int × wy_pl) := match wy_ck P r o (wy_w3 a b c) (P 13 r).toNat 0 1000 0 with
  | none => none
  | some z => some (z, (o, wy_w3 a b c))
def wy_nc (P : wq_St) (r : Nat) (k : Int) : Nat := if P 13 r ≤ k then 1 else 4
def wy_g1 (P : wq_St) (r : Nat) (o : Nat → Int) (a b : Int) : Option (Int × wy_pl) := wy_mf (fun i => wy_cd P r o a b ((i : Int) - 1)) (wy_nc P r 2)
def wy_g2 (P : wq_St) (r : Nat) (o : Nat → Int) (a : Int) : Option (Int × wy_pl) := wy_mf (fun i => wy_g1 P r o a ((i : Int) - 1)) (wy_nc P r 1)
def wy_g3 (P : wq_St) (r : Nat) (o : Nat → Int) : Option (Int × wy_pl) := wy_mf (fun i => wy_g2 P r o ((i : Int) - 1)) 4
section
variable {P M : wq_St} {r : Nat} {o w : Nat → Int} {s : Nat} {ch : Int}
theorem wy_w3_0 (a b c : Int) : wy_w3 a b c 0 = a := rfl
theorem wy_w3_1 (a b c : Int) : wy_w3 a b c 1 = b := rfl
theorem wy_w3_2 (a b c : Int) : wy_w3 a b c 2 = c := rfl
theorem wy_fm_M {C : Nat → Prop} {M' : wq_St} (h : wy_M C M P) (hf : wy_fm M M') : wy_M C M' P := fun f i h1 h2 h3 h4 => by
  rw [hf f i (by omega) (fun e => by have := h3 e.1; omega)]
  exact h f i h1 h2 h3 h4
theorem wy_fm_t {M' M'' : wq_St} (h1 : wy_fm M M') (h2 : wy_fm M' M'') : wy_fm M M'' := fun f j a b => by rw [h2 f j a b, h1 f j a b]
theorem wy_m_copyb (M : wq_St) (c1 c2 c3 c4 c5 : Int) (kx : wq_St → Option (Int × wq_St)) : ∃ M', l_X9_triesWays_119 c1 c2 c3 c4 c5 kx wq_fu 0 M = kx M' ∧ (∀ j, j < 3 → M' 29 j = M 27 j ∧ M' 30 j = M 28 j) ∧ (∀ f j, ¬(29 ≤ f ∧ f ≤ 30) → M' f j = M f j) := by
  have key := wy_up (fun n i (M1 : wq_St) => ∃ M', l_X9_triesWays_119 c1 c2 c3 c4 c5 kx n (i : Int) M1 = kx M' ∧ (∀ j, j < 3 → M' 29 j = M 27 j ∧ M' 30 j = M 28 j) ∧ (∀ f j, ¬(29 ≤ f ∧ f ≤ 30) → M' f j = M f j)) 3 (fun i M1 => (∀ j, j < i → M1 29 j = M 27 j ∧ M1 30 j = M 28 j) ∧ (∀ f j, ¬(29 ≤ f ∧ f ≤ 30) → M1 f j = M f j)) ?_ ?_ wq_fu 0 M (by omega) (wy_fu' (by omega)) ⟨fun j hj => by omega, fun _ _ _ => rfl⟩
  · exact key
  · intro n i M1 hi ⟨hc, hf⟩ ih
    rw [l_X9_triesWays_119_s]
    unfold b_X9_triesWays_119
    simp (disch := omega) only [wy_ix, Int.toNat_natCast, wq_w_id, wq_lt, wy_set_ne]
    rw [if_neg (by omega)]
    have e : ((i : Int) + 1) = ((i + 1 : Nat) : Int) := by omega
    rw [e]
    refine ih _ ⟨?_, ?_⟩
    · intro j hj
      by_cases ej : j = i
      · subst ej
        simp (disch := omega) only [wy_set_ne, wy_set_at, hf]
        exact ⟨trivial, trivial⟩
      · have h := hc j (by omega)
        simp (disch := omega) only [wy_set_ne]
        exact h
    · intro k j hk
      simp (disch := omega) only [wy_set_ne]
      exact hf k j hk
  · intro n M1 ⟨hc, hf⟩
    rw [l_X9_triesWays_119_s]
    unfold b_X9_triesWays_119
    simp (disch := omega) only [wq_w_id]
    rw [if_pos (by omega)]
    exact ⟨M1, rfl, hc, hf⟩
theorem wy_cmpE {a b : Int} (h1 : -9223372036854775808 ≤ a) (h2 : a < 9223372036854775808) (h3 : -9223372036854775808 ≤ b) (h4 : b < 9223372036854775808) : (wq_w (wq_cmp a b) = 0) ↔ a = b := by
  unfold wq_cmp
  rw [wq_v_id h1 h2, wq_v_id h3 h4]
  by_cases h : a < b
  · rw [if_pos h]
    have : a ≠ b := by omega
    simp [this]
    decide
  · rw [if_neg h]
    by_cases h' : a = b
    · rw [if_pos h']
      simp [h']
      decide
    · rw [if_neg h']
      simp [h']
      decide
theorem wy_cmpN : wq_w (wq_cmp (-1) (-1)) = 0 := by
  unfold wq_cmp
  rw [if_neg (Int.lt_irrefl _), if_pos rfl]
  rfl
theorem wy_v1 : wq_v (-1) = -1 := rfl
theorem wy_cmpM {a : Int} (h1 : 0 ≤ a) (h2 : a ≤ 1000000000000000) : ¬(wq_w (wq_cmp a (-1)) = 0) := by
  unfold wq_cmp
  rw [wq_v_id (by omega) (by omega), wy_v1, if_neg (by omega), if_neg (by omega)]
  decide
theorem wy_lt {α β : Type} {e : β} {k : β → Option α} : wq_lt e k = k e := by rw [wq_lt]
theorem wy_ix0 {α : Type} {k : Nat → Option α} : wq_ix 0 3 k = k 0 := wq_ix_t 0 rfl (by omega) (by omega)
theorem wy_ix1 {α : Type} {k : Nat → Option α} : wq_ix 1 3 k = k 1 := wq_ix_t 1 rfl (by omega) (by omega)
theorem wy_ix2 {α : Type} {k : Nat → Option α} : wq_ix 2 3 k = k 2 := wq_ix_t 2 rfl (by omega) (by omega)
/-- one choice of ways -/
theorem wy_m_try (hI : wy_iv P) (hM : wy_M wy_co M P) (hp : wy_pm o) (h27 : ∀ j, j < 3 → M 27 j = o j) (hr : r < 8) {a b c : Int} (ha : -1 ≤ a ∧ a ≤ 2) (hb : -1 ≤ b ∧ b ≤ 2) (hc : -1 ≤ c ∧ c ≤ 2) {B : Option (Int × wy_pl)} (hB : wy_bm M B) {z : Int} (hz : z = 0 ∨ z = 3) (hcz : c < z) (kx : wq_St → Option (Int × wq_St)) (rec : Int → wq_St → Option (Int × wq_St)) (x2 : Int) :
    ∃ M', j_X9_triesWays_47 kx rec (r : Int) x2 a b c z c M = rec (c + 1) M' ∧ wy_fm M M' ∧ wy_bm M' (wy_mn B (wy_cd P r o a b c)) := by
  unfold j_X9_triesWays_47
  rw [wy_ix0, wy_lt, wy_ix1, wy_lt, wy_ix2, wy_lt]
  rw [wq_w_id (x := z) (by omega) (by omega), wq_w_id (x := c) (by omega) (by omega), if_neg (by omega)]
  have hf5 : wy_fm M (wq_set (wq_set (wq_set M 28 0 a) 28 1 b) 28 2 c) := fun f j h1 h2 => by
    rw [wy_set_ne (by omega), wy_set_ne (by omega), wy_set_ne (by omega)]
  have h28 : ∀ j, j < 3 → wq_set (wq_set (wq_set M 28 0 a) 28 1 b) 28 2 c 28 j = wy_w3 a b c j := fun j hj => by
    have : j = 0 ∨ j = 1 ∨ j = 2 := by omega
    rcases this with rfl | rfl | rfl
    · rw [wy_set_ne (by omega), wy_set_ne (by omega), wy_set_at rfl rfl]; rfl
    · rw [wy_set_ne (by omega), wy_set_at rfl rfl]; rfl
    · rw [wy_set_at rfl rfl]; rfl
  have hB5 : ∀ M1 : wq_St, (∀ f j, (f = 29 ∨ f = 30 ∨ (f = 0 ∧ j = 37)) → M1 f j = M f j) → wy_bm M1 B := fun M1 hq => by
    cases B with
    | none => exact (hq 0 37 (by omega)).trans hB
    | some p =>
      obtain ⟨z1, z2, z3, z4⟩ := hB
      exact ⟨(hq 0 37 (by omega)).trans z1, z2, z3, fun j hj => by rw [hq 29 j (by omega), hq 30 j (by omega)]; exact z4 j hj⟩
  generalize hM5 : wq_set (wq_set (wq_set M 28 0 a) 28 1 b) 28 2 c = M5 at hf5 h28 ⊢
  have q5 : ∀ f j, (f = 29 ∨ f = 30 ∨ (f = 0 ∧ j = 37)) → M5 f j = M f j := fun f j h => by
    rw [← hM5, wy_set_ne (by omega), wy_set_ne (by omega), wy_set_ne (by omega)]
  have hM' := wy_fm_M hM hf5
  have h27' : ∀ j, j < 3 → M5 27 j = o j := fun j hj => by rw [hf5 _ _ (by omega) (by omega)]; exact h27 j hj
  have hwb : ∀ j, j < 3 → -1 ≤ wy_w3 a b c j ∧ wy_w3 a b c j ≤ 2 := fun j hj => by
    have : j = 0 ∨ j = 1 ∨ j = 2 := by omega
    rcases this with rfl | rfl | rfl
    · exact ha
    · exact hb
    · exact hc
  rw [wy_bd (wy_m_cost hI hM' hp h27' h28 hwb hr)]
  have b13 := wy_b13 hI r
  have hck := @wy_ck_b P r o (wy_w3 a b c) hI (P 13 r).toNat 0 1000 0 (by omega) ⟨by decide, by decide⟩ ⟨by decide, by have := @wy_cb_b (0 + 1) (by omega); omega⟩
  unfold wy_cd
  cases hk : wy_ck P r o (wy_w3 a b c) (P 13 r).toNat 0 1000 0 with
  | none =>
    simp only [Option.getD_none]
    rw [if_pos (wy_cmpN), wy_mn_0]
    exact ⟨M5, rfl, hf5, hB5 _ q5⟩
  | some y =>
    have hy := hck y hk
    simp only [Option.getD_some]
    rw [if_neg (wy_cmpM (by omega) (by omega))]
    have h110 : ∃ M', j_X9_triesWays_110 kx rec (r : Int) x2 a b c y M5 = rec (c + 1) M' ∧ wy_fm M M' ∧ wy_bm M' (some (y, (o, wy_w3 a b c))) := by
      unfold j_X9_triesWays_110
      simp only [wq_lt]
      obtain ⟨M', e1, e2, e3⟩ := wy_m_copyb (wq_set M5 0 37 y) (r : Int) x2 a b c (fun S17 => rec (c + 1) S17)
      refine ⟨M', e1, fun f j h1 h2 => ?_, ?_, by dsimp only; omega, by dsimp only; omega, fun j hj => ?_⟩
      · rw [e3 f j (by omega), wy_set_ne (by omega)]
        exact hf5 f j h1 h2
      · rw [e3 0 37 (by omega), wy_set_at rfl rfl]
      · have h := e2 j hj
        rw [wy_set_ne (by omega), wy_set_ne (by omega), h27' j hj, h28 j hj] at h
        exact h
    cases B with
    | none =>
      have hb0 : M5 0 37 = -1 := (q5 0 37 (by omega)).trans hB
      rw [hb0, if_pos (wy_cmpN), wy_mn_1]
      exact h110
    | some p =>
      obtain ⟨z1, z2, z3, z4⟩ := hB
      have hb0 : M5 0 37 = p.1 := (q5 0 37 (by omega)).trans z1
      have hcm3 := @wy_cmp0 y p.1 (by omega) (by omega) (by omega) (by omega)
      rw [hb0, if_neg (wy_cmpM (by omega) (by omega)), wy_mn_s]
      dsimp only
      by_cases hlt : y < p.1
      · rw [if_neg (by rw [hcm3]; omega), if_pos hlt]
        exact h110
      · rw [if_pos (by rw [hcm3]; omega), if_neg hlt]
        exact ⟨M5, rfl, hf5, hB5 _ q5⟩
theorem wy_m_tw1 (hI : wy_iv P) (hM : wy_M wy_co M P) (hp : wy_pm o) (h27 : ∀ j, j < 3 → M 27 j = o j) (hr : r < 8) {a b : Int} (ha : -1 ≤ a ∧ a ≤ 2) (hb : -1 ≤ b ∧ b ≤ 2) {B : Option (Int × wy_pl)} (hB : wy_bm M B) (kx : wq_St → Option (Int × wq_St)) :
    ∃ M', l_X9_triesWays_35 (r : Int) (P 13 r) a b kx wq_fu (-1) M = kx M' ∧ wy_fm M M' ∧ wy_bm M' (wy_mn B (wy_g1 P r o a b)) := by
  have b13 := wy_b13 hI r
  have hnc : wy_nc P r 2 ≤ 4 := by unfold wy_nc; split <;> omega
  have key := wy_up (fun n i (M1 : wq_St) => ∃ M', l_X9_triesWays_35 (r : Int) (P 13 r) a b kx n ((i : Int) - 1) M1 = kx M' ∧ wy_fm M M' ∧ wy_bm M' (wy_mn B (wy_g1 P r o a b))) (wy_nc P r 2) (fun i M1 => wy_fm M M1 ∧ wy_bm M1 (wy_mn B (wy_mf (fun i => wy_cd P r o a b ((i : Int) - 1)) i))) ?_ ?_ wq_fu 0 M (by omega) (wy_fu' (by omega)) ⟨fun _ _ _ _ => rfl, by simp only [wy_mf]; rw [wy_mn_0]; exact hB⟩
  · exact key
  · intro n i M1 hi ⟨hf, hb1⟩ ih
    have hM1 := wy_fm_M hM hf
    have h27' : ∀ j, j < 3 → M1 27 j = o j := fun j hj => by rw [hf _ _ (by omega) (by omega)]; exact h27 j hj
    have e : ((i : Int) - 1 + 1) = ((i + 1 : Nat) : Int) - 1 := by omega
    rw [l_X9_triesWays_35_s]
    unfold b_X9_triesWays_35
    simp (disch := omega) only [wq_w_id]
    have fin : ∀ z, (z = 0 ∨ z = 3) → (i : Int) - 1 < z → ∃ M', j_X9_triesWays_47 kx (l_X9_triesWays_35 (r : Int) (P 13 r) a b kx n) (r : Int) (P 13 r) a b ((i : Int) - 1) z ((i : Int) - 1) M1 = kx M' ∧ wy_fm M M' ∧ wy_bm M' (wy_mn B (wy_g1 P r o a b)) := by
      intro z hz hcz
      obtain ⟨M2, e1, e2, e3⟩ := wy_m_try hI hM1 hp h27' hr ha hb (c := (i : Int) - 1) (by omega) hb1 hz hcz kx (l_X9_triesWays_35 (r : Int) (P 13 r) a b kx n) (P 13 r)
      rw [e1, e]
      refine ih M2 ⟨wy_fm_t hf e2, ?_⟩
      simp only [wy_mf]
      rw [← wy_mn_a]
      exact e3
    unfold wy_nc at hi
    by_cases h2 : P 13 r ≤ 2
    · rw [if_pos h2] at hi ⊢
      exact fin 0 (by omega) (by omega)
    · rw [if_neg h2] at hi ⊢
      exact fin 3 (by omega) (by omega)
  · intro n M1 ⟨hf, hb1⟩
    rw [l_X9_triesWays_35_s]
    unfold b_X9_triesWays_35 j_X9_triesWays_47
    refine ⟨M1, ?_, hf, hb1⟩
    unfold wy_nc
    simp (disch := omega) only [wq_w_id]
    by_cases h2 : P 13 r ≤ 2
    · rw [if_pos h2, if_pos h2, if_pos (by decide)]
    · rw [if_neg h2, if_neg h2, if_pos (by decide)]
theorem wy_m_tw2 (hI : wy_iv P) (hM : wy_M wy_co M P) (hp : wy_pm o) (h27 : ∀ j, j < 3 → M 27 j = o j) (hr : r < 8) {a : Int} (ha : -1 ≤ a ∧ a ≤ 2) {B : Option (Int × wy_pl)} (hB : wy_bm M B) (kx : wq_St → Option (Int × wq_St)) :
    ∃ M', l_X9_triesWays_17 (r : Int) (P 13 r) a kx wq_fu (-1) M = kx M' ∧ wy_fm M M' ∧ wy_bm M' (wy_mn B (wy_g2 P r o a)) := by
  have b13 := wy_b13 hI r
  have hnc : wy_nc P r 1 ≤ 4 := by unfold wy_nc; split <;> omega
  have key := wy_up (fun n i (M1 : wq_St) => ∃ M', l_X9_triesWays_17 (r : Int) (P 13 r) a kx n ((i : Int) - 1) M1 = kx M' ∧ wy_fm M M' ∧ wy_bm M' (wy_mn B (wy_g2 P r o a))) (wy_nc P r 1) (fun i M1 => wy_fm M M1 ∧ wy_bm M1 (wy_mn B (wy_mf (fun i => wy_g1 P r o a ((i : Int) - 1)) i))) ?_ ?_ wq_fu 0 M (by omega) (wy_fu' (by omega)) ⟨fun _ _ _ _ => rfl, by simp only [wy_mf]; rw [wy_mn_0]; exact hB⟩
  · exact key
  · intro n i M1 hi ⟨hf, hb1⟩ ih
    have hM1 := wy_fm_M hM hf
    have h27' : ∀ j, j < 3 → M1 27 j = o j := fun j hj => by rw [hf _ _ (by omega) (by omega)]; exact h27 j hj
    have e : ((i : Int) - 1 + 1) = ((i + 1 : Nat) : Int) - 1 := by omega
    rw [l_X9_triesWays_17_s]
    unfold b_X9_triesWays_17
    simp (disch := omega) only [wq_w_id]
    have fin : ∀ z, (z = 0 ∨ z = 3) → (i : Int) - 1 < z → ∃ M', j_X9_triesWays_29 kx (l_X9_triesWays_17 (r : Int) (P 13 r) a kx n) (r : Int) (P 13 r) a ((i : Int) - 1) z ((i : Int) - 1) M1 = kx M' ∧ wy_fm M M' ∧ wy_bm M' (wy_mn B (wy_g2 P r o a)) := by
      intro z hz hcz
      unfold j_X9_triesWays_29
      simp (disch := omega) only [wq_w_id]
      rw [if_neg (by omega)]
      obtain ⟨M2, e1, e2, e3⟩ := wy_m_tw1 hI hM1 hp h27' hr ha (b := (i : Int) - 1) (by omega) hb1 (fun S18 => l_X9_triesWays_17 (r : Int) (P 13 r) a kx n ((i : Int) - 1 + 1) S18)
      rw [e1, e]
      refine ih M2 ⟨wy_fm_t hf e2, ?_⟩
      simp only [wy_mf]
      rw [← wy_mn_a]
      exact e3
    unfold wy_nc at hi
    by_cases h2 : P 13 r ≤ 1
    · rw [if_pos h2] at hi ⊢
      exact fin 0 (by omega) (by omega)
    · rw [if_neg h2] at hi ⊢
      exact fin 3 (by omega) (by omega)
  · intro n M1 ⟨hf, hb1⟩
    rw [l_X9_triesWays_17_s]
    unfold b_X9_triesWays_17 j_X9_triesWays_29
    refine ⟨M1, ?_, hf, hb1⟩
    unfold wy_nc
    simp (disch := omega) only [wq_w_id]
    by_cases h2 : P 13 r ≤ 1
    · rw [if_pos h2, if_pos h2, if_pos (by decide)]
    · rw [if_neg h2, if_neg h2, if_pos (by decide)]
theorem wy_m_tw3 (hI : wy_iv P) (hM : wy_M wy_co M P) (hp : wy_pm o) (h27 : ∀ j, j < 3 → M 27 j = o j) (hr : r < 8) {B : Option (Int × wy_pl)} (hB : wy_bm M B) :
    ∃ M', f_X9_triesWays (r : Int) M = some (0, M') ∧ wy_fm M M' ∧ wy_bm M' (wy_mn B (wy_g3 P r o)) := by
  have e13 : M 13 r = P 13 r := wy_m hM (by omega)
  unfold f_X9_triesWays
  simp (disch := omega) only [wy_ix, Int.toNat_natCast, e13]
  have key := wy_up (fun n i (M1 : wq_St) => ∃ M', l_X9_triesWays_9 (r : Int) (P 13 r) (fun S20 => some (0, S20)) n ((i : Int) - 1) M1 = some (0, M') ∧ wy_fm M M' ∧ wy_bm M' (wy_mn B (wy_g3 P r o))) 4 (fun i M1 => wy_fm M M1 ∧ wy_bm M1 (wy_mn B (wy_mf (fun i => wy_g2 P r o ((i : Int) - 1)) i))) ?_ ?_ wq_fu 0 M (by omega) (wy_fu' (by omega)) ⟨fun _ _ _ _ => rfl, by simp only [wy_mf]; rw [wy_mn_0]; exact hB⟩
  · exact key
  · intro n i M1 hi ⟨hf, hb1⟩ ih
    have hM1 := wy_fm_M hM hf
    have h27' : ∀ j, j < 3 → M1 27 j = o j := fun j hj => by rw [hf _ _ (by omega) (by omega)]; exact h27 j hj
    have e : ((i : Int) - 1 + 1) = ((i + 1 : Nat) : Int) - 1 := by omega
    rw [l_X9_triesWays_9_s]
    unfold b_X9_triesWays_9
    simp (disch := omega) only [wq_w_id]
    rw [if_neg (by omega)]
    obtain ⟨M2, e1, e2, e3⟩ := wy_m_tw2 hI hM1 hp h27' hr (a := (i : Int) - 1) (by omega) hb1 (fun S19 => l_X9_triesWays_9 (r : Int) (P 13 r) (fun S20 => some (0, S20)) n ((i : Int) - 1 + 1) S19)
    rw [e1, e]
    refine ih M2 ⟨wy_fm_t hf e2, ?_⟩
    simp only [wy_mf]
    rw [← wy_mn_a]
    exact e3
  · intro n M1 ⟨hf, hb1⟩
    rw [l_X9_triesWays_9_s]
    unfold b_X9_triesWays_9
    simp (disch := omega) only [wq_w_id]
    rw [if_pos (by decide)]
    exact ⟨M1, rfl, hf, hb1⟩
end
