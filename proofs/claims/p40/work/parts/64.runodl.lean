section
variable {P M : wq_St} {r q s : Nat} {o w : Nat → Int} {g : Nat → Nat} {kx : wq_St → Option (Int × wq_St)}
theorem wy_cm_gu (hI : wy_iv P) (hv : wy_vp P r o w) (hs : (s : Int) < P 13 r) {i : Nat} (h : wy_cm o (s + 1) M (wy_gu g (o s) i)) (h0 : ∀ j, j < s → g (o j).toNat < 40) : wy_cm o s M g := fun j hj => by
  have b13 := wy_b13 hI r
  have hj1 := hv.2.1 j (by omega)
  have hj2 := hv.1.1 j (by omega)
  have hs1 := hv.2.1 s hs
  have hs2 := hv.1.1 s (by omega)
  have hjs : o j ≠ o s := fun e => by
    rw [e, hs1.2] at hj1
    omega
  have h' := h j (by omega)
  rw [wy_gu_ne (by omega)] at h'
  exact h'
theorem wy_od_k (hI : wy_iv P) (hr : r < 8) (hv : wy_vp P r o w) {d : Nat} (hs : (d : Int) + 1 + (s : Int) = P 13 r) (hrk : wy_rk P r o w kx d s) : wy_od P r o w kx d s := by
  intro g k
  have b13 := wy_b13 hI r
  have hs3 : s < 3 := by omega
  have hos := hv.1.1 s hs3
  have ht := @wy_tb_lt P r hI (o s)
  have b2 := wy_b2 hI (wy_tb P r (o s))
  have h40 : wy_is P r o s ≤ 40 := by unfold wy_is; omega
  have b14 := wy_b14 hI (3 * r + (o s).toNat)
  have en : (3 * (r : Int) + o s).toNat = 3 * r + (o s).toNat := by omega
  have ixs : ∀ {α : Type} {f : Nat → Option α}, wq_ix (s : Int) 3 f = f s := fun {α f} => by rw [wy_ix (by omega) (by omega) (by omega), Int.toNat_natCast]
  have hs1 := hv.2.1 s (by omega)
  -- the head of the loop's body
  have body : ∀ (n i : Nat) (M : wq_St), wy_mq P o w s M g → M 31 s = (i : Int) - 1 → i ≤ 40 → l_X9_runs_45 (r : Int) (P 13 r) kx (n + 1) (s : Int) M = (if (i : Int) < P 2 (wy_tb P r (o s)) then (wq_ix ((40 * ((wy_tb P r (o s) : Nat) : Int)) + (i : Int)) 160 fun t13 => if wq_w (wq_set M 31 s (i : Int) 3 t13) = 0 then l_X9_runs_45 (r : Int) (P 13 r) kx n (s : Int) (wq_set M 31 s (i : Int)) else wq_bd (f_X9_holdsAt (r : Int) (s : Int) (wq_set M 31 s (i : Int))) fun r14 S15 => if wq_w r14 = 0 then l_X9_runs_45 (r : Int) (P 13 r) kx n (s : Int) S15 else wy_kk (r : Int) (P 13 r) (l_X9_runs_45 (r : Int) (P 13 r) kx n) (s : Int) S15) else l_X9_runs_45 (r : Int) (P 13 r) kx n ((s : Int) + (-1)) (wq_set M 31 s (i : Int))) := by
    intro n i M hq h31 hi
    have q27 := hq.2.1 s hs3
    have e14 : M 14 (3 * r + (o s).toNat) = ((wy_tb P r (o s) : Nat) : Int) := by
      rw [wy_m hq.1 (by omega)]
      unfold wy_tb
      omega
    have e2 : M 2 (wy_tb P r (o s)) = P 2 (wy_tb P r (o s)) := wy_m hq.1 (by omega)
    rw [l_X9_runs_45_s]
    unfold b_X9_runs_45
    rw [wq_w_id (x := P 13 r) (by omega) (by omega), if_neg (by omega), wq_w_id (x := (s : Int)) (by omega) (by omega), if_neg (by omega), ixs, q27, wy_ix (by omega) (by omega) (by omega), en, ixs, ixs, h31, wy_lt]
    have e1 : (i : Int) - 1 + 1 = (i : Int) := by omega
    rw [e1, ixs, e14, wy_ix (by omega) (by omega) (by omega), Int.toNat_natCast, wy_set_at rfl rfl, wy_set_ne (by omega), e2, wq_w_id (x := (i : Int)) (by omega) (by omega), wq_w_id (x := P 2 (wy_tb P r (o s))) (by omega) (by omega)]
    by_cases hlt : (i : Int) < P 2 (wy_tb P r (o s))
    · rw [if_pos hlt, if_pos hlt, ixs, wy_set_at rfl rfl]
      unfold wy_kk
      rw [wq_w_id (x := (s : Int)) (by omega) (by omega)]
    · rw [if_neg hlt, if_neg hlt]
  induction k with
  | zero =>
    intro i M hik hq h31
    have hf : wy_fk M (wq_set M 31 s (i : Int)) := wy_fk_s (fun _ _ _ _ => rfl) (by omega)
    refine ⟨1, wq_set M 31 s (i : Int), by omega, fun n => ?_, hf, fun j hj => by rw [wy_set_ne (by omega)]; exact hq.2.2.2 j hj, ?_, ?_, ?_⟩
    · rw [body n i M hq h31 (by omega), if_neg (by unfold wy_is at hik; omega)]
    · rw [wy_set_ne (by omega)]
      have : i = wy_is P r o s := by omega
      rw [← this]
    · rw [wy_set_ne (by omega)]
      have : i = wy_is P r o s := by omega
      rw [← this]
    · rw [wy_set_ne (by omega)]
      have : i = wy_is P r o s := by omega
      rw [← this]
  | succ k ih =>
    intro i M hik hq h31
    have hi40 : i < 40 := by omega
    have hlt : (i : Int) < P 2 (wy_tb P r (o s)) := by unfold wy_is at hik; omega
    have hf9 : wy_fk M (wq_set M 31 s (i : Int)) := wy_fk_s (fun _ _ _ _ => rfl) (by omega)
    have hc9 : wy_cm o (s + 1) (wq_set M 31 s (i : Int)) (wy_gu g (o s) i) := by
      intro j hj
      by_cases ej : j = s
      · subst ej
        rw [wy_set_at rfl rfl, wy_gu_at]
        exact ⟨rfl, hi40⟩
      · have hj1 := hv.2.1 j (by omega)
        have hj2 := hv.1.1 j (by omega)
        have hjs : o j ≠ o s := fun e => by
          rw [e, hs1.2] at hj1
          omega
        have h := hq.2.2.2 j (by omega)
        rw [wy_set_ne (by omega), wy_gu_ne (by omega)]
        exact h
    have c39 : wq_set M 31 s (i : Int) 0 39 = M 0 39 := wy_set_ne (by omega)
    have c40 : wq_set M 31 s (i : Int) 0 40 = M 0 40 := wy_set_ne (by omega)
    have c41 : wq_set M 31 s (i : Int) 0 41 = M 0 41 := wy_set_ne (by omega)
    have c31 : wq_set M 31 s (i : Int) 31 s = (i : Int) := wy_set_at rfl rfl
    have hbody := fun n => body n i M hq h31 (by omega)
    generalize wq_set M 31 s (i : Int) = M9 at *
    have hq9 := wy_fk_q hq hf9 hc9
    have b3 := wy_b3 hI (40 * wy_tb P r (o s) + i)
    have e3 : M9 3 (40 * wy_tb P r (o s) + i) = P 3 (40 * wy_tb P r (o s) + i) := wy_m hq9.1 (by omega)
    have hbody2 : ∀ n, l_X9_runs_45 (r : Int) (P 13 r) kx (n + 1) (s : Int) M = (if P 3 (40 * wy_tb P r (o s) + i) = 0 then l_X9_runs_45 (r : Int) (P 13 r) kx n (s : Int) M9 else if wy_ha P r o s (wy_gu g (o s) i) (P 15 r).toNat = true then wy_kk (r : Int) (P 13 r) (l_X9_runs_45 (r : Int) (P 13 r) kx n) (s : Int) M9 else l_X9_runs_45 (r : Int) (P 13 r) kx n (s : Int) M9) := fun n => by
      rw [hbody n, if_pos hlt, wy_ix (by omega) (by omega) (by omega), wy_n40, e3, wq_w_id (by omega) (by omega)]
      by_cases h0 : P 3 (40 * wy_tb P r (o s) + i) = 0
      · rw [if_pos h0, if_pos h0]
      · rw [if_neg h0, if_neg h0, wy_bd (wy_m_holdsAt hI hq9.1 hv.1 hq9.2.1 hr hs3 hc9)]
        by_cases hh : wy_ha P r o s (wy_gu g (o s) i) (P 15 r).toNat = true
        · rw [if_pos hh, if_neg (by decide), if_pos hh]
        · rw [if_neg hh, if_pos wq_w_0, if_neg hh]
    have hob : (k + 1) * wy_ob d = k * wy_ob d + wy_ob d := Nat.succ_mul k (wy_ob d)
    have hob1 : 1 ≤ wy_ob d := by cases d <;> simp only [wy_ob] <;> omega
    have hq9s : wy_mq P o w s M9 g := wy_fk_q hq hf9 (wy_cm_gu hI hv (by omega) hc9 fun j hj => (hq.2.2.2 j hj).2)
    by_cases hgg : wy_gg P r o s g i
    · obtain ⟨u1, M1, hu1, hl1, hf1, hc1, y1, y2, y3⟩ := hrk (wy_gu g (o s) i) M9 hq9
      have hcs := wy_cm_gu hI hv (by omega) hc1 fun j hj => (hq.2.2.2 j hj).2
      have h31' := (hc1 s (by omega)).1
      rw [wy_gu_at] at h31'
      obtain ⟨u2, M2, hu2, hl2, hf2, hc2, z1, z2, z3⟩ := ih (i + 1) M1 (by omega) (wy_fk_q hq9s hf1 hcs) (by omega)
      refine ⟨u2 + u1 + 1, M2, by omega, fun n => ?_, wy_fk_t hf9 (wy_fk_t hf1 hf2), hc2, ?_, ?_, ?_⟩
      · have e : n + (u2 + u1 + 1) = (n + u2) + u1 + 1 := by omega
        rw [e, hbody2, if_neg hgg.1, if_pos hgg.2, hl1 (n + u2), hl2 n]
      · simp only [wy_su] at z1
        rw [if_pos hgg] at z1
        omega
      · simp only [wy_su] at z2
        rw [if_pos hgg] at z2
        omega
      · simp only [wy_su] at z3
        rw [if_pos hgg] at z3
        omega
    · obtain ⟨u2, M2, hu2, hl2, hf2, hc2, z1, z2, z3⟩ := ih (i + 1) M9 (by omega) hq9s (by omega)
      refine ⟨u2 + 1, M2, by omega, fun n => ?_, wy_fk_t hf9 hf2, hc2, ?_, ?_, ?_⟩
      · have e : n + (u2 + 1) = (n + u2) + 1 := by omega
        rw [e, hbody2]
        by_cases h0 : P 3 (40 * wy_tb P r (o s) + i) = 0
        · rw [if_pos h0, hl2 n]
        · rw [if_neg h0, if_neg (fun h => hgg ⟨h0, h⟩), hl2 n]
      · simp only [wy_su] at z1
        rw [if_neg hgg] at z1
        omega
      · simp only [wy_su] at z2
        rw [if_neg hgg] at z2
        omega
      · simp only [wy_su] at z3
        rw [if_neg hgg] at z3
        omega
theorem wy_od_all (hI : wy_iv P) (hr : r < 8) (hrn : (r : Int) < P 0 28) (hv : wy_vp P r o w) : ∀ (d s : Nat), (d : Int) + 1 + (s : Int) = P 13 r → wy_od P r o w kx d s
  | 0, s, h => wy_od_k hI hr hv h (wy_rk0 hI hr hrn hv (by omega))
  | d + 1, s, h => wy_od_k hI hr hv h (wy_rk1 hI hr hv (by omega) (wy_od_all hI hr hrn hv d (s + 1) (by omega)))
end
