/-! NIGHTS: the model runs the line -/
def wy_k4 (P : wq_St) (r : Nat) (Q : wq_St) : wq_St := wq_set (wq_set (wq_set (wq_set Q 0 31 (Q 0 31 - wy_tr P r)) 24 r (wy_fd P r)) 25 r (wy_sd P r)) 26 r (P 0 29)
def wy_Qm (P : wq_St) (ln : Nat → Nat) : Nat → wq_St
  | 0 => P
  | i + 1 => wy_k4 P (ln i) (wy_Qm P ln i)
/-- the masks: of what is done, of what was wrong -/
def wy_mk (P : wq_St) (ln : Nat → Nat) (i : Nat) (dm wm : Int) : Prop := (0 ≤ dm ∧ dm < 256) ∧ (0 ≤ wm ∧ wm < 256) ∧ (∀ r, r < 8 → (wy_bt dm r ↔ ∃ x, x < i ∧ ln x = r)) ∧ ∀ r, r < 8 → (wy_bt wm r ↔ ∃ x, x < i ∧ ln x = r ∧ wy_wr P r)
section
variable {P Q S M : wq_St} {r D W i : Nat} {ln : Nat → Nat} {dm wm : Int}
theorem wy_k4_o {f j : Nat} (h : f ≠ 24 ∧ f ≠ 25 ∧ f ≠ 26 ∧ ¬(f = 0 ∧ j = 31)) : wy_k4 P r Q f j = Q f j := by
  unfold wy_k4
  rw [wy_set_ne (by omega), wy_set_ne (by omega), wy_set_ne (by omega), wy_set_ne (by omega)]
theorem wy_Qm_o {f j : Nat} (h : f ≠ 24 ∧ f ≠ 25 ∧ f ≠ 26 ∧ ¬(f = 0 ∧ j = 31)) : ∀ i, wy_Qm P ln i f j = P f j
  | 0 => rfl
  | i + 1 => by
    simp only [wy_Qm]
    rw [wy_k4_o h, wy_Qm_o h i]
theorem wy_Qm_31 : ∀ i, wy_Qm P ln i 0 31 = wy_lf P ln i
  | 0 => by
    unfold wy_lf
    exact (Int.sub_zero _).symm
  | i + 1 => by
    simp only [wy_Qm]
    have h1 := wy_Qm_31 i
    unfold wy_lf at h1 ⊢
    unfold wy_k4
    rw [wy_set_ne (by omega), wy_set_ne (by omega), wy_set_ne (by omega), wy_set_at rfl rfl, h1]
    simp only [wy_su]
    omega
theorem wy_mk_0 : wy_mk P ln 0 0 0 := ⟨by omega, by omega, fun r hr => ⟨fun h => absurd h (wy_bt_0 hr), fun ⟨x, hx, _⟩ => by omega⟩, fun r hr => ⟨fun h => absurd h (wy_bt_0 hr), fun ⟨x, hx, _⟩ => by omega⟩⟩
theorem wy_mk_s (h : wy_mk P ln i dm wm) (h8 : ln i < 8) : wy_mk P ln (i + 1) (wq_or dm (wq_shl 1 (ln i : Int))) (if wy_wr P (ln i) then wq_or wm (wq_shl 1 (ln i : Int)) else wq_or wm 0) := by
  obtain ⟨h1, h2, h3, h4⟩ := h
  obtain ⟨d1, d2, d3, -⟩ := wy_bt_or h1 h8
  obtain ⟨w1, w2, w3, w4⟩ := wy_bt_or h2 h8
  have hx : ∀ {p : Nat → Prop}, (∃ x, x < i + 1 ∧ p x) ↔ p i ∨ ∃ x, x < i ∧ p x := fun {p} => by
    constructor
    · rintro ⟨x, hx, hp⟩
      by_cases e : x = i
      · rw [e] at hp; exact Or.inl hp
      · exact Or.inr ⟨x, by omega, hp⟩
    · rintro (h | ⟨x, hx, hp⟩)
      · exact ⟨i, by omega, h⟩
      · exact ⟨x, by omega, hp⟩
  refine ⟨⟨d2, d3⟩, ?_, fun r hr => ?_, fun r hr => ?_⟩
  · split
    · exact ⟨w2, w3⟩
    · rw [w4]; exact h2
  · rw [d1 r hr, hx, h3 r hr]
    constructor
    · rintro (h | h)
      · exact Or.inl h.symm
      · exact Or.inr h
    · rintro (h | h)
      · exact Or.inl h.symm
      · exact Or.inr h
  · rw [hx]
    by_cases c : wy_wr P (ln i)
    · rw [if_pos c, w1 r hr, h4 r hr]
      constructor
      · rintro (h | h)
        · exact Or.inl ⟨h.symm, by rw [h]; exact c⟩
        · exact Or.inr h
      · rintro (h | h)
        · exact Or.inl h.1.symm
        · exact Or.inr h
    · rw [if_neg c, w4, h4 r hr]
      constructor
      · exact fun h => Or.inr h
      · rintro (h | h)
        · obtain ⟨e, hw⟩ := h
          rw [← e] at hw
          exact absurd hw c
        · exact h
theorem wy_m_done (hI : wy_iv P) (hln : wy_ln P 8 W ln) (hD : wy_dN P ln W D) (hM : wy_M wy_al M P) (kx : Int → Int → wq_St → Option (Int × wq_St)) : ∃ dm wm M', l_X9_night_144 kx wq_fu 0 0 (wy_at ln W 0) 0 M = kx dm wm M' ∧ wy_mk P ln D dm wm ∧ wy_M wy_al M' (wy_Qm P ln D) ∧ wy_M wy_co M' P ∧ M' 0 42 = M 0 42 := by
  have hln' := hln
  obtain ⟨hW, hln2, -, -⟩ := hln'
  obtain ⟨hDW, hok, hno⟩ := hD
  obtain ⟨nf, hnf⟩ : ∃ nf, wq_fu = nf + 1 := ⟨9999999, rfl⟩
  have hnf9 : 100 < nf := by unfold wq_fu at hnf; omega
  have wn : wq_w (-1) = -1 := rfl
  have w0 : wq_w 0 = 0 := rfl
  have w1 : wq_w 1 = 1 := rfl
  have hrn : ∀ x, x < W → (ln x : Int) < P 0 28 := fun x hx => by
    by_cases h : (ln x : Int) < P 0 28
    · exact h
    · exact absurd (hI.2.2.2.1 (ln x) (by omega)) (hln2 x hx).2
  rw [hnf]
  clear hnf
  have key := wy_up (fun n i (s : Int × Int × wq_St) => ∃ dm wm M', l_X9_night_144 kx (n + 1) s.1 s.2.1 (wy_at ln W i) 0 s.2.2 = kx dm wm M' ∧ wy_mk P ln D dm wm ∧ wy_M wy_al M' (wy_Qm P ln D) ∧ wy_M wy_co M' P ∧ M' 0 42 = M 0 42) D (fun i s => wy_mk P ln i s.1 s.2.1 ∧ wy_M wy_al s.2.2 (wy_Qm P ln i) ∧ wy_M wy_co s.2.2 P ∧ s.2.2 0 42 = M 0 42) ?_ ?_ nf 0 (0, 0, M) (by omega) (by omega) ⟨wy_mk_0, hM, wy_M_co hM, rfl⟩
  · exact key
  · intro n i ⟨dm, wm, m⟩ hi ⟨hk, hm, hp, h42⟩ ih
    dsimp only at hk hm hp h42 ih ⊢
    have hr := (hln2 i (by omega)).1
    have ea : wy_at ln W i = (ln i : Int) := if_pos (by omega)
    obtain ⟨M1, M2, -, e2, e3, z1, z2, z3, hf⟩ := wy_m_run hI hp hr (hrn i (by omega))
    have hm2 : wy_M wy_al M2 (wy_Qm P ln i) := wy_M_fo hm fun f j a b => hf f j (by omega) (by omega)
    have hp2 : wy_M wy_co M2 P := wy_M_fo hp fun f j a b => hf f j (by omega) (by omega)
    have e31 : M2 0 31 = wy_lf P ln i := by rw [wy_ma0 hm2 (i := 31) (by omega), wy_Qm_31 i]
    have e29 : M2 0 29 = P 0 29 := by rw [wy_ma0 hm2 (i := 29) (by omega), wy_Qm_o (by omega) i]
    have hm5 : wy_M wy_al (wq_set (wq_set (wq_set (wq_set M2 0 31 (wy_lf P ln i - wy_tr P (ln i))) 24 (ln i) (wy_fd P (ln i))) 25 (ln i) (wy_sd P (ln i))) 26 (ln i) (P 0 29)) (wy_Qm P ln (i + 1)) := by
      simp only [wy_Qm]
      unfold wy_k4
      rw [wy_Qm_31 i]
      exact wy_M_set (wy_M_set (wy_M_set (wy_M_set hm2 _ (by omega)) _ (by omega)) _ (by omega)) _ (by omega)
    have hp5 : wy_M wy_co (wq_set (wq_set (wq_set (wq_set M2 0 31 (wy_lf P ln i - wy_tr P (ln i))) 24 (ln i) (wy_fd P (ln i))) 25 (ln i) (wy_sd P (ln i))) 26 (ln i) (P 0 29)) P :=
      wy_M_off (wy_M_off (wy_M_off (wy_M_off hp2 (Or.inr (Or.inr (by unfold wy_co; omega)))) (Or.inr (Or.inr (by unfold wy_co; omega)))) (Or.inr (Or.inr (by unfold wy_co; omega)))) (Or.inr (Or.inr (by unfold wy_co; omega)))
    have q42 : wq_set (wq_set (wq_set (wq_set M2 0 31 (wy_lf P ln i - wy_tr P (ln i))) 24 (ln i) (wy_fd P (ln i))) 25 (ln i) (wy_sd P (ln i))) 26 (ln i) (P 0 29) 0 42 = M 0 42 := by rw [wy_set_ne (by omega), wy_set_ne (by omega), wy_set_ne (by omega), wy_set_ne (by omega), hf 0 42 (by omega) (by omega), h42]
    rw [ea, l_X9_night_144_s]
    unfold b_X9_night_144
    rw [wn, w0, wq_w_id (x := (ln i : Int)) (by omega) (by omega), if_neg (by omega), if_pos rfl, wy_bd e2, wy_bd e3, z1, e31, if_pos (hok i hi)]
    unfold j_X9_night_185
    rw [w0, if_pos rfl, wy_lt, e31, z1, wy_ix (by omega) (by omega) (by omega), Int.toNat_natCast, wy_lt, wy_set_ne (a := 0) (i := 40) (by omega), z2, wy_ix (by omega) (by omega) (by omega), Int.toNat_natCast, wy_lt, wy_set_ne (a := 0) (i := 41) (by omega), wy_set_ne (a := 0) (i := 41) (by omega), z3, wy_ix (by omega) (by omega) (by omega), Int.toNat_natCast, wy_lt, wy_set_ne (a := 0) (i := 29) (by omega), wy_set_ne (a := 0) (i := 29) (by omega), wy_set_ne (a := 0) (i := 29) (by omega), e29]
    have q39 : wq_set (wq_set (wq_set (wq_set M2 0 31 (wy_lf P ln i - wy_tr P (ln i))) 24 (ln i) (wy_fd P (ln i))) 25 (ln i) (wy_sd P (ln i))) 26 (ln i) (P 0 29) 0 39 = wy_tr P (ln i) := by rw [wy_set_ne (by omega), wy_set_ne (by omega), wy_set_ne (by omega), wy_set_ne (by omega), z1]
    rw [q39]
    generalize wq_set (wq_set (wq_set (wq_set M2 0 31 (wy_lf P ln i - wy_tr P (ln i))) 24 (ln i) (wy_fd P (ln i))) 25 (ln i) (wy_sd P (ln i))) 26 (ln i) (P 0 29) = M5 at *
    have eb : wy_be ln (i + 1) = (ln i : Int) := rfl
    have hb : f_X9_dueBehind (ln i : Int) M5 = some (wy_at ln W (i + 1), M5) := by
      rw [← eb]
      exact wy_m_next hI hln (by omega) (by rw [wy_ma0 hm5 (i := 28) (by omega), wy_Qm_o (by omega)]) (fun j => by rw [wy_ma hm5 (by omega), wy_Qm_o (by omega)]) (fun j => by rw [wy_ma hm5 (by omega), wy_Qm_o (by omega)])
    have hks := wy_mk_s hk hr
    unfold j_X9_night_261
    rw [wy_bd hb]
    by_cases c1 : wq_w (2 * wy_ft P (ln i)) < wq_w (wy_tr P (ln i))
    · rw [if_pos c1]
      rw [if_pos (Or.inl c1)] at hks
      exact ih (_, _, M5) ⟨hks, hm5, hp5, q42⟩
    · rw [if_neg c1]
      by_cases c2 : wq_w (wy_ft P (ln i)) ≤ wq_w (2 * wy_tr P (ln i))
      · rw [if_pos c2, wy_bd hb]
        rw [if_neg (fun h => h.elim c1 (fun h => h c2))] at hks
        exact ih (_, _, M5) ⟨hks, hm5, hp5, q42⟩
      · rw [if_neg c2]
        rw [if_pos (Or.inr c2)] at hks
        exact ih (_, _, M5) ⟨hks, hm5, hp5, q42⟩
  · intro n ⟨dm, wm, m⟩ ⟨hk, hm, hp, h42⟩
    dsimp only at hk hm hp h42 ⊢
    rw [l_X9_night_144_s]
    unfold b_X9_night_144
    by_cases c : D < W
    · have hr := (hln2 D c).1
      have ea : wy_at ln W D = (ln D : Int) := if_pos c
      obtain ⟨M1, M2, -, e2, e3, z1, z2, z3, hf⟩ := wy_m_run hI hp hr (hrn D c)
      have hm2 : wy_M wy_al M2 (wy_Qm P ln D) := wy_M_fo hm fun f j a b => hf f j (by omega) (by omega)
      have hp2 : wy_M wy_co M2 P := wy_M_fo hp fun f j a b => hf f j (by omega) (by omega)
      have e31 : M2 0 31 = wy_lf P ln D := by rw [wy_ma0 hm2 (i := 31) (by omega), wy_Qm_31 D]
      rw [ea, wn, w0, wq_w_id (x := (ln D : Int)) (by omega) (by omega), if_neg (by omega), if_pos rfl, wy_bd e2, wy_bd e3, z1, e31, if_neg (hno c)]
      unfold j_X9_night_185
      rw [w1, if_neg (by omega), l_X9_night_144_s]
      unfold b_X9_night_144
      rw [wn, w1, wq_w_id (x := (ln D : Int)) (by omega) (by omega), if_neg (by omega), if_neg (by omega)]
      exact ⟨dm, wm, M2, rfl, hk, hm2, hp2, by rw [hf 0 42 (by omega) (by omega), h42]⟩
    · have ea : wy_at ln W D = -1 := if_neg c
      rw [ea, if_pos rfl]
      exact ⟨dm, wm, m, rfl, hk, hm, hp, h42⟩
/-! at dawn -/
def wy_q1 (P : wq_St) (c2 : Int) (k : Nat) : Int := if P 12 k ≠ 0 ∧ ¬wy_bt c2 k then P 11 k else 0
def wy_q2 (P : wq_St) (c2 c3 : Int) (k : Nat) (Q : wq_St) : wq_St := if (P 12 k ≠ 0 ∧ ¬wy_bt c2 k) ∨ wy_bt c3 k then wy_mt P k Q else Q
def wy_qk (P : wq_St) (c2 c3 : Int) (Q : wq_St) : Nat → wq_St
  | 0 => Q
  | k + 1 => wq_set (wy_q2 P c2 c3 k (wq_set (wy_qk P c2 c3 Q k) 0 32 (wy_qk P c2 c3 Q k 0 32 + wy_q1 P c2 k))) 12 k (if P 12 k ≠ 0 ∧ ¬wy_bt c2 k then 1 else 0)
theorem wy_q2_n {c2 c3 : Int} {k f j : Nat} (h : f ≠ 10) : wy_q2 P c2 c3 k Q f j = Q f j := by
  unfold wy_q2
  split
  · exact wy_mt_o h
  · rfl
theorem wy_qk_o {c2 c3 : Int} {f j : Nat} (h : f ≠ 10 ∧ f ≠ 12 ∧ ¬(f = 0 ∧ j = 32)) : ∀ k, wy_qk P c2 c3 Q k f j = Q f j
  | 0 => rfl
  | k + 1 => by
    simp only [wy_qk]
    rw [wy_set_ne (by omega), wy_q2_n h.1, wy_set_ne (by omega), wy_qk_o h k]
theorem wy_qk_12 {c2 c3 : Int} {j : Nat} : ∀ k, k ≤ j → wy_qk P c2 c3 Q k 12 j = Q 12 j
  | 0, _ => rfl
  | k + 1, h => by
    simp only [wy_qk]
    rw [wy_set_ne (by omega), wy_q2_n (by omega), wy_set_ne (by omega), wy_qk_12 k (by omega)]
theorem wy_m_402 {k : Nat} (hk : k < 8) (h12 : M 12 k = P 12 k) (b12 : 0 ≤ P 12 k ∧ P 12 k ≤ 1) {kx : Int → wq_St → Option (Int × wq_St)} {rec : Int → Int → wq_St → Option (Int × wq_St)} {j2 j3 j6 j8 : Int} (h8 : j8 = 0 ∨ j8 = 1) : j_X9_night_402 kx rec j2 j3 j6 (k : Int) j8 M = rec j6 ((k + 1 : Nat) : Int) (wq_set M 12 k (if P 12 k ≠ 0 ∧ j8 = 0 then 1 else 0)) := by
  have e : ((k : Int) + 1) = ((k + 1 : Nat) : Int) := by omega
  unfold j_X9_night_402
  rw [wy_ix (by omega) (by omega) (by omega), wy_ix (by omega) (by omega) (by omega), wy_ix (by omega) (by omega) (by omega), Int.toNat_natCast, h12, wq_w_id (x := P 12 k) (by omega) (by omega), wq_w_id (x := j8) (by omega) (by omega), e]
  by_cases c : P 12 k = 0
  · rw [if_pos c, if_neg (fun h => h.1 c), wy_lt]
  · rw [if_neg c]
    by_cases c8 : j8 = 0
    · rw [if_pos c8, if_pos ⟨c, c8⟩, wy_lt]
    · rw [if_neg c8, if_neg (fun h => c8 h.2), wy_lt]
theorem wy_m_dawn (hI : wy_iv P) (hM : wy_M wy_al M Q) (hP : wy_M wy_co M P) (h28 : Q 0 28 = P 0 28) (h11 : ∀ j, Q 11 j = P 11 j) (h12 : ∀ j, Q 12 j = P 12 j) (c2 c3 : Int) (kx : Int → wq_St → Option (Int × wq_St)) : ∃ M', l_X9_night_295 c2 c3 kx wq_fu 0 0 M = kx (wy_su (fun r => if wy_bt c2 r then 1 else 0) (P 0 28).toNat) M' ∧ wy_M wy_al M' (wy_qk P c2 c3 Q (P 0 28).toNat) ∧ M' 0 42 = M 0 42 := by
  have hO := hI.2.1
  unfold wy_iO at hO
  have w0 : wq_w 0 = 0 := rfl
  have w1 : wq_w 1 = 1 := rfl
  have key := wy_up (fun n k (s : wq_St) => ∃ M', l_X9_night_295 c2 c3 kx n (wy_su (fun r => if wy_bt c2 r then 1 else 0) k) (k : Int) s = kx (wy_su (fun r => if wy_bt c2 r then 1 else 0) (P 0 28).toNat) M' ∧ wy_M wy_al M' (wy_qk P c2 c3 Q (P 0 28).toNat) ∧ M' 0 42 = M 0 42) (P 0 28).toNat (fun k s => wy_M wy_al s (wy_qk P c2 c3 Q k) ∧ wy_M wy_co s P ∧ s 0 42 = M 0 42) ?_ ?_ wq_fu 0 M (by omega) (wy_fu' (by omega)) ⟨hM, hP, rfl⟩
  · exact key
  · intro n k m hk ⟨hm, hp, h42⟩ ih
    have hk8 : k < 8 := by omega
    have b12 := wy_b12 hI k
    have q28 : m 0 28 = P 0 28 := by rw [wy_ma0 hm (i := 28) (by omega), wy_qk_o (by omega), h28]
    have q12 : m 12 k = P 12 k := by rw [wy_ma hm (by omega), wy_qk_12 k (Nat.le_refl _), h12]
    have q11 : m 11 k = P 11 k := by rw [wy_ma hm (by omega), wy_qk_o (by omega), h11]
    have q32 : m 0 32 = wy_qk P c2 c3 Q k 0 32 := wy_ma0 hm (by omega)
    have esu : wy_su (fun r => if wy_bt c2 r then (1 : Int) else 0) (k + 1) = wy_su (fun r => if wy_bt c2 r then 1 else 0) k + (if wy_bt c2 k then 1 else 0) := rfl
    rw [esu] at ih
    generalize wy_su (fun r => if wy_bt c2 r then (1 : Int) else 0) (P 0 28).toNat = NN at *
    generalize wy_su (fun r => if wy_bt c2 r then (1 : Int) else 0) k = nu at *
    -- behind the sum of what is owed
    have m41 : ∀ v, wq_set m 0 32 v 12 k = P 12 k := fun v => by rw [wy_set_ne (by omega), q12]
    have hm41 : wy_M wy_al (wq_set m 0 32 (wy_qk P c2 c3 Q k 0 32 + wy_q1 P c2 k)) (wq_set (wy_qk P c2 c3 Q k) 0 32 (wy_qk P c2 c3 Q k 0 32 + wy_q1 P c2 k)) := wy_M_set hm _ (by omega)
    have hp41 : wy_M wy_co (wq_set m 0 32 (wy_qk P c2 c3 Q k 0 32 + wy_q1 P c2 k)) P := wy_M_off hp (Or.inr (Or.inr (by unfold wy_co; omega)))
    have m12 : wq_set (wy_qk P c2 c3 Q k) 0 32 (wy_qk P c2 c3 Q k 0 32 + wy_q1 P c2 k) 12 k = P 12 k := by rw [wy_set_ne (by omega), wy_qk_12 k (Nat.le_refl _), h12]
    -- at the end
    have fin : ∀ (j8 : Int) (m2 : wq_St), (j8 = 0 ∨ j8 = 1) → (j8 = 0 ↔ ¬wy_bt c2 k) → wy_M wy_al m2 (wy_q2 P c2 c3 k (wq_set (wy_qk P c2 c3 Q k) 0 32 (wy_qk P c2 c3 Q k 0 32 + wy_q1 P c2 k))) → wy_M wy_co m2 P → m2 0 42 = M 0 42 → ∃ M', j_X9_night_402 kx (l_X9_night_295 c2 c3 kx n) c2 c3 (nu + (if wy_bt c2 k then 1 else 0)) (k : Int) j8 m2 = kx NN M' ∧ wy_M wy_al M' (wy_qk P c2 c3 Q (P 0 28).toNat) ∧ M' 0 42 = M 0 42 := by
      intro j8 m2 h8 hb hm2 hp2 hq2
      have q : m2 12 k = P 12 k := by rw [wy_ma hm2 (by omega), wy_q2_n (by omega), m12]
      rw [wy_m_402 hk8 q b12 h8]
      refine ih _ ⟨?_, wy_M_off hp2 (Or.inr (Or.inr (by unfold wy_co; omega))), by rw [wy_set_ne (by omega)]; exact hq2⟩
      have ev : (if P 12 k ≠ 0 ∧ j8 = 0 then (1 : Int) else 0) = if P 12 k ≠ 0 ∧ ¬wy_bt c2 k then 1 else 0 := by
        by_cases c : P 12 k ≠ 0 ∧ j8 = 0
        · rw [if_pos c, if_pos ⟨c.1, hb.mp c.2⟩]
        · rw [if_neg c, if_neg (fun h => c ⟨h.1, hb.mpr h.2⟩)]
      rw [ev]
      exact wy_M_set hm2 _ (by omega)
    -- marks, or none
    have mks : ∀ (j8 : Int), (j8 = 0 ∨ j8 = 1) → (j8 = 0 ↔ ¬wy_bt c2 k) → ((P 12 k ≠ 0 ∧ ¬wy_bt c2 k) ∨ wy_bt c3 k) → ∃ M', j_X9_night_396 kx (l_X9_night_295 c2 c3 kx n) c2 c3 (nu + (if wy_bt c2 k then 1 else 0)) (k : Int) j8 (wq_set m 0 32 (wy_qk P c2 c3 Q k 0 32 + wy_q1 P c2 k)) = kx NN M' ∧ wy_M wy_al M' (wy_qk P c2 c3 Q (P 0 28).toNat) ∧ M' 0 42 = M 0 42 := by
      intro j8 h8 hb hc
      obtain ⟨m2, e2, hm2, hp2, hq2⟩ := wy_m_marks hI hp41 hm41 hk8
      unfold j_X9_night_396
      rw [wy_bd e2]
      refine fin j8 m2 h8 hb ?_ hp2 (by rw [hq2, wy_set_ne (by omega)]; exact h42)
      unfold wy_q2
      rw [if_pos hc]
      exact hm2
    have j386 : ∀ (j8 : Int), (j8 = 0 ∨ j8 = 1) → (j8 = 0 ↔ ¬wy_bt c2 k) → ¬(P 12 k ≠ 0 ∧ ¬wy_bt c2 k) → ∃ M', j_X9_night_386 kx (l_X9_night_295 c2 c3 kx n) c2 c3 (nu + (if wy_bt c2 k then 1 else 0)) (k : Int) j8 (wq_set m 0 32 (wy_qk P c2 c3 Q k 0 32 + wy_q1 P c2 k)) = kx NN M' ∧ wy_M wy_al M' (wy_qk P c2 c3 Q (P 0 28).toNat) ∧ M' 0 42 = M 0 42 := by
      intro j8 h8 hb hc
      unfold j_X9_night_386
      by_cases c3' : wy_bt c3 k
      · rw [if_pos c3']
        exact mks j8 h8 hb (Or.inr c3')
      · rw [if_neg c3']
        refine fin j8 _ h8 hb ?_ hp41 (by rw [wy_set_ne (by omega)]; exact h42)
        unfold wy_q2
        rw [if_neg (fun h => h.elim hc c3')]
        exact hm41
    rw [l_X9_night_295_s]
    unfold b_X9_night_295 j_X9_night_319 j_X9_night_333 j_X9_night_366 j_X9_night_367
    rw [q28, wq_w_id (x := P 0 28) (by omega) (by omega), wq_w_id (x := (k : Int)) (by omega) (by omega), if_neg (by omega)]
    by_cases cb : wy_bt c2 k
    · have eq1 : wy_q1 P c2 k = 0 := if_neg (fun h => h.2 cb)
      have hno : ¬(P 12 k ≠ 0 ∧ ¬wy_bt c2 k) := fun h => h.2 cb
      have r := j386 1 (Or.inr rfl) ⟨fun h => by omega, fun h => absurd cb h⟩ hno
      rw [if_pos cb, eq1] at r
      rw [if_pos cb, w1, if_neg (c := (1 : Int) = 0) (by omega), wy_ix (by omega) (by omega) (by omega), Int.toNat_natCast, q12, wq_w_id (x := P 12 k) (by omega) (by omega), if_neg (c := (1 : Int) = 0) (by omega)]
      by_cases c0 : P 12 k = 0
      · rw [if_pos c0, wy_lt, wy_ix (by omega) (by omega) (by omega), Int.toNat_natCast, q32, m41, wq_w_id (x := P 12 k) (by omega) (by omega), if_pos c0]
        exact r
      · rw [if_neg c0, wy_lt, wy_ix (by omega) (by omega) (by omega), Int.toNat_natCast, q32, m41, wq_w_id (x := P 12 k) (by omega) (by omega), if_neg c0, if_neg (c := (1 : Int) = 0) (by omega)]
        exact r
    · have eq1 : wy_q1 P c2 k = if P 12 k = 0 then 0 else P 11 k := by
        unfold wy_q1
        by_cases c0 : P 12 k = 0
        · rw [if_pos c0, if_neg (fun h => h.1 c0)]
        · rw [if_neg c0, if_pos ⟨c0, cb⟩]
      have r := j386 0 (Or.inl rfl) ⟨fun _ => cb, fun _ => rfl⟩
      have r2 := mks 0 (Or.inl rfl) ⟨fun _ => cb, fun _ => rfl⟩
      rw [if_neg cb] at r r2
      rw [if_neg cb, w0, if_pos (c := (0 : Int) = 0) rfl, wy_ix (by omega) (by omega) (by omega), Int.toNat_natCast, q12, wq_w_id (x := P 12 k) (by omega) (by omega), if_pos (c := (0 : Int) = 0) rfl]
      by_cases c0 : P 12 k = 0
      · rw [if_pos c0] at eq1
        have r' := r (fun h => h.1 c0)
        rw [eq1] at r'
        rw [if_pos c0, wy_lt, wy_ix (by omega) (by omega) (by omega), Int.toNat_natCast, q32, m41, wq_w_id (x := P 12 k) (by omega) (by omega), if_pos c0]
        exact r'
      · rw [if_neg c0] at eq1
        have r' := r2 (Or.inl ⟨c0, cb⟩)
        rw [eq1] at r'
        rw [if_neg c0, wy_ix (by omega) (by omega) (by omega), Int.toNat_natCast, q11, q32, wy_lt, wy_ix (by omega) (by omega) (by omega), Int.toNat_natCast, m41, wq_w_id (x := P 12 k) (by omega) (by omega), if_neg c0, if_pos (c := (0 : Int) = 0) rfl]
        exact r'
  · intro n m ⟨hm, hp, h42⟩
    have q28 : m 0 28 = P 0 28 := by rw [wy_ma0 hm (i := 28) (by omega), wy_qk_o (by omega), h28]
    rw [l_X9_night_295_s]
    unfold b_X9_night_295
    rw [q28, wq_w_id (x := P 0 28) (by omega) (by omega), wq_w_id (by omega) (by omega), if_pos (by omega)]
    exact ⟨m, rfl, hm, h42⟩
end
