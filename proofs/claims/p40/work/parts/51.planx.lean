/-! the class: steps of conditions, indexes that can be used, what is left of choices -/
def wy_sp (P : wq_St) (r : Nat) (o : Nat → Int) (s q : Nat) (S : wq_St) : Prop := ∀ k : Nat, (k : Int) < P 15 r → ∃ v, f_X1_stepIn (199 + 9 * r + 3 + k) q S = some (v, S) ∧ wq_w v = v ∧ (v = (s : Int) ↔ wy_as P r o s k)
section
variable {P S : wq_St} {r : Nat} {o : Nat → Int} {s q : Nat}
theorem wy_sp_of (hI : wy_iv P) (hR : wy_R wy_co S P) (hr : r < 8) {n : Nat} (hsn : s < n) (hn : n ≤ 3) (hst : ∀ x : Nat, (x : Int) < P 13 r → S (q + 3) x = if wy_ps o x < (n : Int) then wy_ps o x else 3) : wy_sp P r o s q S := by
  intro k hk
  have b15 := wy_b15 hI r
  have b13 := wy_b13 hI r
  have b16 := wy_b16 hI (6 * r + k)
  have b17 := wy_b17 hI (6 * r + k)
  have b20 := wy_b20 hI (6 * r + k)
  have hk6 : k < 6 := by omega
  obtain ⟨h17, h20⟩ := hI.2.2.2.2.2.2.1 r k hk
  have e16 := wy_c16 hR hr hk6
  have e17 := wy_c17 hR hr hk6
  have e20 := wy_c20 hR hr hk6
  have p17 := wy_ps_b o (P 17 (6 * r + k))
  have p20 := wy_ps_b o (P 20 (6 * r + k))
  have s17 := hst (P 17 (6 * r + k)).toNat (by omega)
  rw [Int.toNat_of_nonneg b17.1] at s17
  have tw := @wy_cs_two P r (wy_ps o) (fun x => if wy_ps o x < (n : Int) then wy_ps o x else 3) s k (by split <;> omega) (fun _ => by split <;> omega)
  have hv17 : 0 ≤ S (q + 3) (P 17 (6 * r + k)).toNat ∧ S (q + 3) (P 17 (6 * r + k)).toNat ≤ 3 := by rw [s17]; split <;> omega
  refine ⟨wy_cs (fun x => if wy_ps o x < (n : Int) then wy_ps o x else 3) P r k, ?_, ?_, tw⟩
  · unfold f_X1_stepIn wy_cs
    by_cases h3 : P 16 (6 * r + k) = 3
    · have s20 := hst (P 20 (6 * r + k)).toNat (by have := h20 h3; omega)
      rw [Int.toNat_of_nonneg b20.1] at s20
      have hv20 : 0 ≤ S (q + 3) (P 20 (6 * r + k)).toNat ∧ S (q + 3) (P 20 (6 * r + k)).toNat ≤ 3 := by rw [s20]; split <;> omega
      simp (disch := omega) only [e16, e17, e20, wy_ix, wq_w_id]
      rw [if_pos h3]
      by_cases hl : S (q + 3) (P 20 (6 * r + k)).toNat ≤ S (q + 3) (P 17 (6 * r + k)).toNat
      · rw [if_pos hl, if_neg (by rw [← s17, ← s20]; omega), s17]
      · rw [if_neg hl, if_pos (by rw [← s17, ← s20]; omega), s20]
    · simp (disch := omega) only [e16, e17, wy_ix, wq_w_id]
      rw [if_neg h3, if_neg (fun h => h3 h.1), s17]
  · refine wq_w_id ?_ ?_
    · unfold wy_cs; dsimp only; repeat' split
      all_goals omega
    · unfold wy_cs; dsimp only; repeat' split
      all_goals omega
theorem wy_x_asks (hI : wy_iv P) (hR : wy_R wy_co S P) (hr : r < 8) (hs : s < 3) {k c : Nat} (hc : c < 3) (hk : (k : Int) < P 15 r) (ho : 0 ≤ o s ∧ o s ≤ 2) (hps : wy_ps o (o s) = (s : Int)) (ha : wy_as P r o s k) :
    f_X1_asksForOneValueOf (199 + 9 * r + 3 + k) (o s) (c : Int) S = some ((if wy_us P r o s (c : Int) k then 1 else 0), S) := by
  have b15 := wy_b15 hI r
  have b16 := wy_b16 hI (6 * r + k)
  have b17 := wy_b17 hI (6 * r + k)
  have b18 := wy_b18 hI (6 * r + k)
  have b20 := wy_b20 hI (6 * r + k)
  have b21 := wy_b21 hI (6 * r + k)
  have hk6 : k < 6 := by omega
  obtain ⟨h17, h20⟩ := hI.2.2.2.2.2.2.1 r k hk
  unfold f_X1_asksForOneValueOf j_X1_asksForOneValueOf_15 j_X1_asksForOneValueOf_33
  simp (disch := omega) only [wy_c16 hR hr hk6, wy_c17 hR hr hk6, wy_c18 hR hr hk6, wy_c20 hR hr hk6, wy_c21 hR hr hk6, wq_w_id]
  have hap : wy_as P r o s k := ha
  unfold wy_as wy_cs at ha
  by_cases k0 : P 16 (6 * r + k) = 0
  · rw [if_pos k0]
    rw [if_neg (fun h => by omega)] at ha
    have hso := wy_ps_o hs ha
    rw [if_pos hso.symm]
    by_cases hcc : P 18 (6 * r + k) = (c : Int)
    · rw [if_pos hcc, if_pos ⟨Or.inl k0, hap, by rw [if_pos hso.symm]; exact hcc⟩]
    · rw [if_neg hcc, if_neg (by omega), if_neg (fun h => hcc (by have := h.2.2; rw [if_pos hso.symm] at this; exact this))]
  · rw [if_neg k0]
    by_cases k3 : P 16 (6 * r + k) = 3
    · have h20' := h20 k3
      rw [if_pos k3]
      by_cases hso : P 17 (6 * r + k) = o s
      · rw [if_pos hso]
        by_cases hcc : P 18 (6 * r + k) = (c : Int)
        · rw [if_pos hcc, if_pos ⟨Or.inr k3, hap, by rw [if_pos hso]; exact hcc⟩]
        · rw [if_neg hcc, if_pos k3, if_neg (by omega), if_neg (fun h => hcc (by have := h.2.2; rw [if_pos hso] at this; exact this))]
      · rw [if_neg hso, if_pos k3]
        have hot : P 20 (6 * r + k) = o s := by
          by_cases hlt : wy_ps o (P 17 (6 * r + k)) < wy_ps o (P 20 (6 * r + k))
          · rw [if_pos ⟨k3, hlt⟩] at ha
            exact (wy_ps_o hs ha).symm
          · rw [if_neg (fun h => hlt h.2)] at ha
            exact absurd (wy_ps_o hs ha).symm hso
        rw [if_pos hot]
        by_cases hcc : P 21 (6 * r + k) = (c : Int)
        · rw [if_pos hcc, if_pos ⟨Or.inr k3, hap, by rw [if_neg hso]; exact hcc⟩]
        · rw [if_neg hcc, if_neg (fun h => hcc (by have := h.2.2; rw [if_neg hso] at this; exact this))]
    · rw [if_neg k3, if_neg k3, if_neg (fun h => by omega)]
theorem wy_x_cfi (hI : wy_iv P) (hR : wy_R wy_co S P) (hr : r < 8) (hs : s < 3) {c : Nat} (hc : c < 3) (hsp : wy_sp P r o s q S) (hord : S (q + 1) s = o s) (ho : 0 ≤ o s ∧ o s ≤ 2) (hps : wy_ps o (o s) = (s : Int)) :
    f_X5_conditionForIndex (199 + 9 * r) q (s : Int) (c : Int) S = some (wy_uo P r o s (c : Int) (P 15 r).toNat, S) := by
  have b15 := wy_b15 hI r
  unfold f_X5_conditionForIndex
  simp (disch := omega) only [wy_ix, Int.toNat_natCast, hord]
  have key := wy_up (fun n i (_ : Unit) => l_X5_conditionForIndex_11 (199 + 9 * r) q (s : Int) (c : Int) (o s) (fun S7 => some ((-1), S7)) n (i : Int) S = some (wy_uo P r o s (c : Int) (P 15 r).toNat, S)) (P 15 r).toNat (fun i _ => wy_uo P r o s (c : Int) i = -1) ?_ ?_ wq_fu 0 () (by omega) (wy_fu' (by omega)) rfl
  · exact key
  · intro n i _ hi h0 ih
    have hk : (i : Int) < P 15 r := by omega
    obtain ⟨v, e1, e2, e3⟩ := hsp i hk
    rw [l_X5_conditionForIndex_11_s]
    unfold b_X5_conditionForIndex_11
    simp (disch := omega) only [wy_ix, Int.toNat_natCast, wy_c15 hR hr, wq_w_id]
    rw [if_neg (by omega), wy_bd e1, e2]
    have e : ((i : Int) + 1) = ((i + 1 : Nat) : Int) := by omega
    rw [e]
    by_cases ha : v = (s : Int)
    · have hap := e3.mp ha
      rw [if_pos ha, wy_bd (wy_x_asks hI hR hr hs hc hk ho hps hap)]
      by_cases hu : wy_us P r o s (c : Int) i
      · rw [if_pos hu, if_neg (by decide), wy_uo_hit h0 hu hi]
      · rw [if_neg hu, if_pos wq_w_0]
        refine ih () ?_
        simp only [wy_uo]
        rw [if_neg (fun h => h h0), if_neg hu]
    · rw [if_neg ha]
      refine ih () ?_
      simp only [wy_uo]
      rw [if_neg (fun h => h h0), if_neg (fun h => ha (e3.mpr h.2.1))]
  · intro n _ h0
    rw [l_X5_conditionForIndex_11_s]
    unfold b_X5_conditionForIndex_11
    simp (disch := omega) only [wy_c15 hR hr, wq_w_id]
    rw [if_pos (by omega), h0]
theorem wy_wmax (u : Int) (h : 0 ≤ u ∧ u ≤ 40) : wq_max u 1 = wy_u1 u := by
  unfold wq_max wy_u1
  simp (disch := omega) only [wq_w_id]
theorem wy_x_narrow (hI : wy_iv P) (hR : wy_R wy_co S P) (hr : r < 8) {k : Nat} (hk : (k : Int) < P 15 r) {ch : Int} (hc : 0 ≤ ch ∧ ch ≤ 1000000000000) :
    f_X4_narrow (199 + 9 * r) (199 + 9 * r + 3 + k) ch S = some (wy_cg P r k ch, S) := by
  have b15 := wy_b15 hI r
  have b16 := wy_b16 hI (6 * r + k)
  have b17 := wy_b17 hI (6 * r + k)
  have b18 := wy_b18 hI (6 * r + k)
  have b19 := wy_b19 hI (6 * r + k)
  have b20 := wy_b20 hI (6 * r + k)
  have b21 := wy_b21 hI (6 * r + k)
  have hk6 : k < 6 := by omega
  have s17 := wy_c14 hR hr (j := (P 17 (6 * r + k)).toNat) (by omega)
  have s20 := wy_c14 hR hr (j := (P 20 (6 * r + k)).toNat) (by omega)
  have b14 := wy_b14 hI (3 * r + (P 17 (6 * r + k)).toNat)
  have b14' := wy_b14 hI (3 * r + (P 20 (6 * r + k)).toNat)
  have et : (P 14 (3 * r + (P 17 (6 * r + k)).toNat)).toNat = wy_tb P r (P 17 (6 * r + k)) := rfl
  have et' : (P 14 (3 * r + (P 20 (6 * r + k)).toNat)).toNat = wy_tb P r (P 20 (6 * r + k)) := rfl
  have ht : wy_tb P r (P 17 (6 * r + k)) < 4 := by omega
  have ht' : wy_tb P r (P 20 (6 * r + k)) < 4 := by omega
  have hc18 : (P 18 (6 * r + k)).toNat < 3 := by omega
  have hc21 : (P 21 (6 * r + k)).toNat < 3 := by omega
  have b7 := wy_b7 hI (wy_ce P r k)
  have b8 := wy_b8 hI (wy_ce P r k)
  have b9 := wy_b9 hI (wy_ce P r k)
  have b7' := wy_b7 hI (wy_ce2 P r k)
  have hL := hI.2.2.2.2.1 (wy_ce P r k)
  have u1 : 1 ≤ wy_u1 (P 7 (wy_ce P r k)) ∧ wy_u1 (P 7 (wy_ce P r k)) ≤ 40 := by unfold wy_u1; split <;> omega
  have mx : 1 ≤ wy_mx (wy_u1 (P 7 (wy_ce P r k))) (P 7 (wy_ce2 P r k)) ∧ wy_mx (wy_u1 (P 7 (wy_ce P r k))) (P 7 (wy_ce2 P r k)) ≤ 40 := by unfold wy_mx; split <;> omega
  have c7 : S (6 + 48 * wy_tb P r (P 17 (6 * r + k)) + 45 + (P 18 (6 * r + k)).toNat) 1 = P 7 (wy_ce P r k) := wy_c7 hR ht hc18
  have c8 : S (6 + 48 * wy_tb P r (P 17 (6 * r + k)) + 45 + (P 18 (6 * r + k)).toNat) 2 = P 8 (wy_ce P r k) := wy_c8 hR ht hc18
  have c9 : S (6 + 48 * wy_tb P r (P 17 (6 * r + k)) + 45 + (P 18 (6 * r + k)).toNat) 3 = P 9 (wy_ce P r k) := wy_c9 hR ht hc18
  have c7' : S (6 + 48 * wy_tb P r (P 20 (6 * r + k)) + 45 + (P 21 (6 * r + k)).toNat) 1 = P 7 (wy_ce2 P r k) := wy_c7 hR ht' hc21
  have em : wq_max (wy_u1 (P 7 (wy_ce P r k))) (P 7 (wy_ce2 P r k)) = wy_mx (wy_u1 (P 7 (wy_ce P r k))) (P 7 (wy_ce2 P r k)) := by
    unfold wq_max wy_mx
    simp (disch := omega) only [wq_w_id]
  have share : ∀ part, -1000 ≤ part → part ≤ 1000 → f_X4_share ch part (6 + 48 * wy_tb P r (P 17 (6 * r + k)) + 45 + (P 18 (6 * r + k)).toNat) S = some (Int.tdiv (ch * wy_cl part (P 9 (wy_ce P r k) - P 8 (wy_ce P r k) + 1)) (P 9 (wy_ce P r k) - P 8 (wy_ce P r k) + 1), S) := by
    intro part hp1 hp2
    have hcl := @wy_cl_b part (P 9 (wy_ce P r k) - P 8 (wy_ce P r k) + 1) (by omega)
    have hml := @wy_mul_le ch _ 1000 hc.1 hcl.1 (by omega)
    unfold f_X4_share
    simp only [c8, c9, wq_lt]
    have e1 : wq_max (P 9 (wy_ce P r k) - P 8 (wy_ce P r k) + 1) 1 = P 9 (wy_ce P r k) - P 8 (wy_ce P r k) + 1 := by
      unfold wq_max
      simp (disch := omega) only [wq_w_id]
      rw [if_neg (by omega)]
    have e2 : wq_max 0 (wq_min part (P 9 (wy_ce P r k) - P 8 (wy_ce P r k) + 1)) = wy_cl part (P 9 (wy_ce P r k) - P 8 (wy_ce P r k) + 1) := by
      unfold wq_max wq_min wy_cl
      simp (disch := omega) only [wq_w_id]
      repeat' split
      all_goals omega
    rw [e1, e2]
    unfold wq_divL
    rw [wq_w_id (x := wy_cl _ _) (by omega) (by omega), wq_w_id (by omega) (by omega), wq_v_id (x := P 9 (wy_ce P r k) - P 8 (wy_ce P r k) + 1) (by omega) (by omega), wq_v_id (by omega) (by omega), wq_gd_t (by omega)]
  unfold f_X4_narrow
  simp (disch := omega) only [wy_c16 hR hr hk6, wy_c17 hR hr hk6, wy_c18 hR hr hk6, wy_c19 hR hr hk6, wy_c20 hR hr hk6, wy_c21 hR hr hk6, wy_ix, s17, s20, et, et', c7, c8, c9, c7', wy_wmax, wq_lt, wq_w_id, wq_v_id, wq_gd_t, em, wq_divL]
  unfold wy_cg
  by_cases k0 : P 16 (6 * r + k) = 0
  · rw [if_pos k0, if_pos k0]
  · rw [if_neg k0, if_neg k0]
    by_cases k1 : P 16 (6 * r + k) = 1
    · rw [if_pos k1, if_pos k1, wy_bd (share _ (by omega) (by omega))]
    · rw [if_neg k1, if_neg k1]
      by_cases k2 : P 16 (6 * r + k) = 2
      · rw [if_pos k2, if_pos k2, wy_bd (share _ (by omega) (by omega))]
      · rw [if_neg k2, if_neg k2]
end
