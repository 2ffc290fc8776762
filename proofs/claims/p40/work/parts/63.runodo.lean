/-! the model's run: rows picked in turn, step by step -/
def wy_fk (M M' : wq_St) : Prop := ∀ f j, f ≠ 31 → ¬(f = 0 ∧ (j = 39 ∨ j = 40 ∨ j = 41)) → M' f j = M f j
def wy_ob : Nat → Nat
  | 0 => 1
  | d + 1 => 2 + 40 * wy_ob d
/-- the model's cells of a run at step s -/
def wy_mq (P : wq_St) (o w : Nat → Int) (s : Nat) (M : wq_St) (g : Nat → Nat) : Prop := wy_M wy_co M P ∧ (∀ j, j < 3 → M 27 j = o j) ∧ (∀ j, j < 3 → M 28 j = w j) ∧ wy_cm o s M g
/-- what goes on when a row is found good -/
def wy_kk (r : Int) (m : Int) (rec : Int → wq_St → Option (Int × wq_St)) (s : Int) (S15 : wq_St) : Option (Int × wq_St) :=
  if wq_w s = wq_w (m - 1) then
    wq_lt (wq_set S15 0 40 ((S15 0 40) + 1)) fun S20 =>
    wq_ix r 8 fun t21 =>
    if wq_w (S20 22 t21) = wq_w (-1) then
      rec s (wq_set S20 0 41 ((S20 0 41) + 0))
    else
      wq_ix r 8 fun t22 =>
      wq_ix r 8 fun t23 =>
      wq_bd (f_X9_pickedAt r (S20 22 t22) (S20 23 t23) S20) fun r24 S25 =>
      rec s (wq_set S25 0 41 ((S20 0 41) + r24))
  else
    wq_bd (f_X9_minutesAt r (s + 1) S15) fun r16 S17 =>
    wq_lt (wq_set S17 0 39 ((S15 0 39) + r16)) fun S18 =>
    wq_ix (s + 1) 3 fun t19 =>
    rec (s + 1) (wq_set S18 31 t19 (-1))
def wy_rk (P : wq_St) (r : Nat) (o w : Nat → Int) (kx : wq_St → Option (Int × wq_St)) (d s : Nat) : Prop := ∀ (g : Nat → Nat) (M : wq_St), wy_mq P o w (s + 1) M g → ∃ u M', u + 1 ≤ wy_ob d ∧ (∀ n, wy_kk (r : Int) (P 13 r) (l_X9_runs_45 (r : Int) (P 13 r) kx (n + u)) (s : Int) M = l_X9_runs_45 (r : Int) (P 13 r) kx n (s : Int) M') ∧ wy_fk M M' ∧ wy_cm o (s + 1) M' g ∧ M' 0 39 = M 0 39 + wy_rt P r o w d (s + 1) g ∧ M' 0 40 = M 0 40 + wy_rw (fun _ => 1) P r o d (s + 1) g ∧ M' 0 41 = M 0 41 + wy_rw (wy_sv P r) P r o d (s + 1) g
def wy_od (P : wq_St) (r : Nat) (o w : Nat → Int) (kx : wq_St → Option (Int × wq_St)) (d s : Nat) : Prop := ∀ (g : Nat → Nat) (k i : Nat) (M : wq_St), i + k = wy_is P r o s → wy_mq P o w s M g → M 31 s = (i : Int) - 1 →
  ∃ u M', u ≤ k * wy_ob d + 1 ∧ (∀ n, l_X9_runs_45 (r : Int) (P 13 r) kx (n + u) (s : Int) M = l_X9_runs_45 (r : Int) (P 13 r) kx n ((s : Int) + (-1)) M') ∧ wy_fk M M' ∧ wy_cm o s M' g ∧
    M' 0 39 + wy_su (fun i => if wy_gg P r o s g i then wy_rt P r o w d (s + 1) (wy_gu g (o s) i) else 0) i = M 0 39 + wy_su (fun i => if wy_gg P r o s g i then wy_rt P r o w d (s + 1) (wy_gu g (o s) i) else 0) (wy_is P r o s) ∧
    M' 0 40 + wy_su (fun i => if wy_gg P r o s g i then wy_rw (fun _ => 1) P r o d (s + 1) (wy_gu g (o s) i) else 0) i = M 0 40 + wy_su (fun i => if wy_gg P r o s g i then wy_rw (fun _ => 1) P r o d (s + 1) (wy_gu g (o s) i) else 0) (wy_is P r o s) ∧
    M' 0 41 + wy_su (fun i => if wy_gg P r o s g i then wy_rw (wy_sv P r) P r o d (s + 1) (wy_gu g (o s) i) else 0) i = M 0 41 + wy_su (fun i => if wy_gg P r o s g i then wy_rw (wy_sv P r) P r o d (s + 1) (wy_gu g (o s) i) else 0) (wy_is P r o s)
section
variable {P M : wq_St} {r q s : Nat} {o w : Nat → Int} {g : Nat → Nat} {kx : wq_St → Option (Int × wq_St)}
theorem wy_fk_t {M' M'' : wq_St} (h1 : wy_fk M M') (h2 : wy_fk M' M'') : wy_fk M M'' := fun f j a b => by rw [h2 f j a b, h1 f j a b]
theorem wy_fk_s {M' : wq_St} (h1 : wy_fk M M') {k j : Nat} {v : Int} (hk : k = 31 ∨ (k = 0 ∧ (j = 39 ∨ j = 40 ∨ j = 41))) : wy_fk M (wq_set M' k j v) := fun f i a b => by
  rw [wy_set_ne (fun e => by omega)]
  exact h1 f i a b
theorem wy_fk_q {M' : wq_St} {s' : Nat} {g' : Nat → Nat} (h : wy_mq P o w s M g) (hf : wy_fk M M') (hc : wy_cm o s' M' g') : wy_mq P o w s' M' g' := ⟨fun f i h1 h2 h3 h4 => by
  rw [hf f i (by omega) (fun e => by have := h3 e.1; omega)]
  exact h.1 f i h1 h2 h3 h4, fun j hj => by rw [hf _ _ (by omega) (by omega)]; exact h.2.1 j hj, fun j hj => by rw [hf _ _ (by omega) (by omega)]; exact h.2.2.1 j hj, hc⟩
theorem wy_rk0 (hI : wy_iv P) (hr : r < 8) (hrn : (r : Int) < P 0 28) (hv : wy_vp P r o w) (hs : (s : Int) + 1 = P 13 r) : wy_rk P r o w kx 0 s := by
  intro g M hq
  have b13 := wy_b13 hI r
  have b22 := wy_b22 hI r
  have b23 := wy_b23 hI r
  have w1 : wq_w (-1) = -1 := rfl
  have ix8 : ∀ {α : Type} {f : Nat → Option α}, wq_ix (r : Int) 8 f = f r := fun {α f} => by rw [wy_ix (by omega) (by omega) (by omega), Int.toNat_natCast]
  unfold wy_kk
  have hf20 : wy_fk M (wq_set M 0 40 (M 0 40 + 1)) := wy_fk_s (fun _ _ _ _ => rfl) (by omega)
  have hc20 : wy_cm o (s + 1) (wq_set M 0 40 (M 0 40 + 1)) g := fun j hj => by rw [wy_set_ne (by omega)]; exact hq.2.2.2 j hj
  have hq20 := wy_fk_q hq hf20 hc20
  have e22 : wq_set M 0 40 (M 0 40 + 1) 22 r = P 22 r := hq20.1 22 r (by decide) (by omega) (by omega) (fun _ => hrn)
  have e23 : wq_set M 0 40 (M 0 40 + 1) 23 r = P 23 r := wy_m hq20.1 (by omega)
  simp only [wy_rt, wy_rw]
  unfold wy_sv
  by_cases h22 : P 22 r = -1
  · rw [if_pos h22]
    refine ⟨0, wq_set (wq_set M 0 40 (M 0 40 + 1)) 0 41 (wq_set M 0 40 (M 0 40 + 1) 0 41 + 0), by decide, fun n => ?_, wy_fk_s hf20 (by omega), fun j hj => by rw [wy_set_ne (by omega)]; exact hc20 j hj, ?_, ?_, ?_⟩
    · rw [wq_w_id (x := (s : Int)) (by omega) (by omega), wq_w_id (by omega) (by omega), if_pos (by omega), wy_lt, ix8, e22, h22, if_pos rfl]
      rfl
    · rw [wy_set_ne (by omega), wy_set_ne (by omega)]; omega
    · rw [wy_set_ne (by omega), wy_set_at rfl rfl]
    · rw [wy_set_at rfl rfl, wy_set_ne (by omega)]
  · have hS := hI.2.2.2.2.2.2.2.1 r h22
    have hps := hv.2.2.1 (P 22 r) (by omega) hS.1
    have hx := wy_cm_x (o := o) (by omega) hc20 (x := P 22 r) (by omega)
    have hpk := wy_m_picked (g := g) hI hq20.1 hv.1 hq20.2.1 hr (x := P 22 r) (c := P 28 r) (by omega) (by omega) hx.1 hx.2
    rw [if_neg h22]
    refine ⟨0, wq_set (wq_set M 0 40 (M 0 40 + 1)) 0 41 (wq_set M 0 40 (M 0 40 + 1) 0 41 + wy_gv P r g (P 22 r) (P 28 r)), by decide, fun n => ?_, wy_fk_s hf20 (by omega), fun j hj => by rw [wy_set_ne (by omega)]; exact hc20 j hj, ?_, ?_, ?_⟩
    · rw [wq_w_id (x := (s : Int)) (by omega) (by omega), wq_w_id (by omega) (by omega), if_pos (by omega), wy_lt, ix8, e22, wq_w_id (x := P 22 r) (by omega) (by omega), w1, if_neg h22, ix8, ix8, e22, e23, hS.2.1, wy_bd hpk]
      rfl
    · rw [wy_set_ne (by omega), wy_set_ne (by omega)]; omega
    · rw [wy_set_ne (by omega), wy_set_at rfl rfl]
    · rw [wy_set_at rfl rfl, wy_set_ne (by omega)]
theorem wy_rk1 (hI : wy_iv P) (hr : r < 8) (hv : wy_vp P r o w) {d : Nat} (hs : (d : Int) + 1 + ((s : Int) + 1) = P 13 r) (hod : wy_od P r o w kx d (s + 1)) : wy_rk P r o w kx (d + 1) s := by
  intro g M hq
  have b13 := wy_b13 hI r
  have b2 := wy_b2 hI (wy_tb P r (o (s + 1)))
  have es : ((s : Int) + 1) = ((s + 1 : Nat) : Int) := by omega
  have hmi := wy_m_minutes hI hq.1 hv hq.2.1 hq.2.2.1 hr (s := s + 1) (by omega) hq.2.2.2
  have hf18 : wy_fk M (wq_set (wq_set M 0 39 (M 0 39 + wy_mi P r o w (s + 1) g)) 31 (s + 1) (-1)) := wy_fk_s (wy_fk_s (fun _ _ _ _ => rfl) (by omega)) (by omega)
  have hc18 : wy_cm o (s + 1) (wq_set (wq_set M 0 39 (M 0 39 + wy_mi P r o w (s + 1) g)) 31 (s + 1) (-1)) g := fun j hj => by rw [wy_set_ne (by omega), wy_set_ne (by omega)]; exact hq.2.2.2 j hj
  obtain ⟨u, M', hu, hl, hf, hc, z1, z2, z3⟩ := hod g (wy_is P r o (s + 1)) 0 _ (by omega) (wy_fk_q hq hf18 hc18) (by rw [wy_set_at rfl rfl]; rfl)
  refine ⟨u, M', ?_, fun n => ?_, wy_fk_t hf18 hf, hc, ?_, ?_, ?_⟩
  · have h40 : wy_is P r o (s + 1) ≤ 40 := by unfold wy_is; omega
    have := Nat.mul_le_mul_right (wy_ob d) h40
    simp only [wy_ob]
    omega
  · unfold wy_kk
    rw [wq_w_id (x := (s : Int)) (by omega) (by omega), wq_w_id (by omega) (by omega), if_neg (by omega), es, wy_bd hmi, wy_lt, wy_ix (by omega) (by omega) (by omega), Int.toNat_natCast, hl n]
    congr 1
    omega
  · simp only [wy_su] at z1
    simp only [wy_rt]
    rw [wy_set_ne (by omega), wy_set_at rfl rfl] at z1
    omega
  · simp only [wy_su] at z2
    simp only [wy_rw]
    rw [wy_set_ne (by omega), wy_set_ne (by omega)] at z2
    omega
  · simp only [wy_su] at z3
    simp only [wy_rw]
    rw [wy_set_ne (by omega), wy_set_ne (by omega)] at z3
    omega
end
