/-! TWO STORES: nights -/
section
variable {P Q A B : wq_St} {d : Int} {r t s : Nat}
theorem wz_C_cg {P' : wq_St} (hC : wz_C P) (h : ∀ f i : Nat, f = 1 ∨ f = 14 ∨ f = 15 ∨ f = 16 ∨ f = 17 ∨ f = 18 ∨ f = 20 ∨ f = 21 ∨ f = 22 ∨ f = 28 → P' f i = P f i) : wz_C P' := by
  have tb : ∀ r x, wy_tb P' r x = wy_tb P r x := fun r x => by
    unfold wy_tb
    rw [h 14 _ (by omega)]
  refine ⟨fun r k hr hk => ?_, fun r hr h22 => ?_⟩
  · rw [h 15 _ (by omega)] at hk
    rw [h 18 _ (by omega), h 17 _ (by omega), h 16 _ (by omega), h 21 _ (by omega), h 20 _ (by omega), tb, tb, h 1 _ (by omega), h 1 _ (by omega)]
    exact hC.1 r k hr hk
  · rw [h 22 _ (by omega)] at h22
    rw [h 28 _ (by omega), h 22 _ (by omega), tb, h 1 _ (by omega)]
    exact hC.2 r hr h22
theorem wz_s1 (h : wz_E P Q) (t : Nat) : wy_s1 Q t = wy_s1 P t := by
  unfold wy_s1
  rw [wz_e h 0 _ (by decide), wz_e h 2 _ (by decide), wz_ns h]
theorem wz_py (hI : wy_iv P) (h : wz_L d P Q) (hC : wz_C P) (x : Int) : wy_py Q x = wy_py P x := by
  have e1 : wy_dp Q 4 = wy_dp P 4 := by
    unfold wy_dp
    refine wy_su_congr (fun t _ => ?_)
    rw [wz_e h.1 10 _ (by decide), wz_s1 h.1]
  have e2 : wy_dq Q 8 = wy_dq P 8 := by
    unfold wy_dq
    refine wy_su_congr (fun r hr => ?_)
    rw [wz_e h.1 12 _ (by decide), wz_ft hI h hC hr]
  unfold wy_py
  rw [e1, e2]
theorem wz_pd (hI : wy_iv P) (h : wz_L d P Q) (hC : wz_C P) (x : Int) : wz_L d (wy_pd P x) (wy_pd Q x) := by
  unfold wy_pd
  rw [wz_py hI h hC, wz_e h.1 0 30 (by decide)]
  exact wz_set (wz_set h _ (by decide)) _ (by decide)
theorem wz_pdC (hC : wz_C P) (x : Int) : wz_C (wy_pd P x) := wz_C_cg hC (fun f i hf => by
  unfold wy_pd
  rw [wy_set_ne (by omega), wy_set_ne (by omega)])
theorem wz_nw (hI : wy_iv P) (h : wz_L d P Q) (ht : t < 4) : wz_L d (wy_nw P t) (wy_nw Q t) := by
  have o := wy_o11 hI
  unfold wy_nw
  rw [wz_e h.1 10 t (by decide), wz_s1 h.1, wz_e h.1 0 31 (by decide), wz_e h.1 0 11 (by decide)]
  by_cases c : P 10 t = 0
  · rw [if_pos c, if_pos c]
    exact h
  · rw [if_neg c, if_neg c]
    by_cases c1 : wq_w (wy_s1 P t) ≤ wq_w (P 0 31)
    · rw [if_pos c1, if_pos c1]
      exact wz_set (wz_set (wz_rn hI h ht o.1 o.2) _ (by decide)) _ (by decide)
    · rw [if_neg c1, if_neg c1]
      exact h
theorem wz_nwC (hC : wz_C P) : wz_C (wy_nw P t) := by
  refine wz_C_cg hC (fun f i hf => ?_)
  unfold wy_nw
  by_cases c : P 10 t = 0
  · rw [if_pos c]
  · rw [if_neg c]
    by_cases c1 : wq_w (wy_s1 P t) ≤ wq_w (P 0 31)
    · rw [if_pos c1, wy_set_ne (by omega), wy_set_ne (by omega), wy_rn_o (by omega)]
    · rw [if_neg c1]
theorem wz_nq (hI : wy_iv P) (h : wz_L d P Q) (hC : wz_C P) : ∀ n : Nat, n ≤ 4 → wz_L d (wy_nq P n) (wy_nq Q n) ∧ wz_C (wy_nq P n)
  | 0, _ => ⟨h, hC⟩
  | n + 1, hn => by
    have ih := wz_nq hI h hC n (by omega)
    exact ⟨wz_nw (wy_nq_iv hI n) ih.1 (by omega), wz_nwC ih.2⟩
theorem wz_mt (h : wz_E P Q) (hA : wz_L d A B) : wz_L d (wy_mt P r A) (wy_mt Q r B) := by
  unfold wy_mt
  rw [wz_e h 13 _ (by decide)]
  generalize (P 13 r).toNat = n
  induction n with
  | zero => exact hA
  | succ n ih =>
    simp only [wy_mtn]
    rw [wz_e h 14 _ (by decide)]
    exact wz_set ih _ (by decide)
theorem wz_k5 (hI : wy_iv P) (h : wz_L d P Q) (hC : wz_C P) (hr : r < 8) (hA : wz_L d A B) : wz_L d (wy_k5 P r A) (wy_k5 Q r B) := by
  unfold wy_k5
  rw [wz_tr hI h hC hr, wz_fd hI h hC hr, wz_e h.1 0 29 (by decide), wz_e hA.1 0 31 (by decide)]
  exact wz_set (wz_set (wz_set25 (wz_set (wz_set hA _ (by decide)) _ (by decide)) _ _) _ (by decide)) _ (by decide)
theorem wz_kp (hI : wy_iv P) (h : wz_L d P Q) (hC : wz_C P) (hr : r < 8) (hA : wz_L d A B) : wz_L d (wy_kp P r A) (wy_kp Q r B) := by
  unfold wy_kp
  by_cases c : wy_wr P r
  · rw [if_pos c, if_pos ((wz_wr hI h hC hr).mpr c)]
    exact wz_mt h.1 (wz_k5 hI h hC hr hA)
  · rw [if_neg c, if_neg (fun h' => c ((wz_wr hI h hC hr).mp h'))]
    exact wz_k5 hI h hC hr hA
theorem wz_ow (h : wz_L d P Q) (hA : wz_L d A B) : wz_L d (wy_ow P r A) (wy_ow Q r B) := by
  unfold wy_ow
  rw [wz_e h.1 11 _ (by decide), wz_e hA.1 0 32 (by decide)]
  exact wz_mt h.1 (wz_set hA _ (by decide))
theorem wz_Qr (hI : wy_iv P) (h : wz_L d P Q) (hC : wz_C P) {ln : Nat → Nat} {D W : Nat} (hln : ∀ i, i < W → ln i < 8) : ∀ i : Nat, i ≤ W → wz_L d (wy_Qr P ln D i) (wy_Qr Q ln D i)
  | 0, _ => h
  | i + 1, hi => by
    have ih := wz_Qr hI h hC (D := D) hln i (by omega)
    simp only [wy_Qr]
    by_cases c : i < D
    · rw [if_pos c, if_pos c]
      exact wz_kp hI h hC (hln i (by omega)) ih
    · rw [if_neg c, if_neg c]
      exact wz_ow h ih
theorem wz_Qr_ln {ln ln' : Nat → Nat} {D W : Nat} (hln : ∀ i, i < W → ln' i = ln i) : ∀ i : Nat, i ≤ W → wy_Qr P ln' D i = wy_Qr P ln D i
  | 0, _ => rfl
  | i + 1, hi => by
    simp only [wy_Qr]
    rw [wz_Qr_ln hln i (by omega), hln i (by omega)]
/-! the line and its end are the same -/
theorem wz_lnq (h : wz_E P Q) {n W : Nat} {ln : Nat → Nat} (hl : wy_ln Q n W ln) : wy_ln P n W ln := by
  have e11 : ∀ i, Q 11 i = P 11 i := fun i => wz_e h 11 i (by decide)
  have e12 : ∀ i, Q 12 i = P 12 i := fun i => wz_e h 12 i (by decide)
  unfold wy_ln wy_bf at hl ⊢
  simp only [e11, e12] at hl
  exact hl
theorem wz_bf_no {a b : Nat} (h1 : wy_bf P a b) (h2 : wy_bf P b a) : False := by
  unfold wy_bf at h1 h2
  omega
theorem wz_ln_le {n W W' : Nat} {ln ln' : Nat → Nat} (h : wy_ln P n W ln) (h' : wy_ln P n W' ln') : ∀ m i : Nat, i < m → i < W → i < W' ∧ ln' i = ln i
  | 0, i, hm, _ => absurd hm (Nat.not_lt_zero i)
  | m + 1, i, hm, hi => by
    have ih := wz_ln_le h h' m
    obtain ⟨-, q1, q2, q3⟩ := h
    obtain ⟨-, p1, p2, p3⟩ := h'
    obtain ⟨a, a1, a2⟩ := p3 (ln i) (q1 i hi).1 (q1 i hi).2
    have ai : i ≤ a := by
      rcases Nat.lt_or_ge a i with c | c
      · have e := (ih a (by omega) (by omega)).2
        have b := q2 a i c hi
        rw [← e, a2] at b
        exact (wz_bf_no b b).elim
      · exact c
    refine ⟨by omega, ?_⟩
    rcases Nat.lt_or_eq_of_le ai with c | c
    · have hi' : i < W' := by omega
      obtain ⟨e, e1, e2⟩ := q3 (ln' i) (p1 i hi').1 (p1 i hi').2
      have b2 := p2 i a c a1
      rcases Nat.lt_trichotomy e i with c2 | c2 | c2
      · have e3 := (ih e (by omega) e1).2
        have b := p2 e i c2 hi'
        rw [e3, e2] at b
        exact (wz_bf_no b b).elim
      · subst c2
        exact e2.symm
      · have b := q2 i e c2 e1
        rw [e2, ← a2] at b
        exact (wz_bf_no b b2).elim
    · subst c
      exact a2
theorem wz_ln_eq {n W W' : Nat} {ln ln' : Nat → Nat} (h : wy_ln P n W ln) (h' : wy_ln P n W' ln') : W' = W ∧ ∀ i, i < W → ln' i = ln i := by
  have k1 : W ≤ W' := by
    rcases Nat.lt_or_ge W' W with c | c
    · have := (wz_ln_le h h' (W' + 1) W' (by omega) c).1
      omega
    · exact c
  have k2 : W' ≤ W := by
    rcases Nat.lt_or_ge W W' with c | c
    · have := (wz_ln_le h' h (W + 1) W (by omega) c).1
      omega
    · exact c
  exact ⟨by omega, fun i hi => (wz_ln_le h h' (i + 1) i (by omega) hi).2⟩
theorem wz_lf (hI : wy_iv P) (h : wz_L d P Q) (hC : wz_C P) {ln ln' : Nat → Nat} {W : Nat} (hln : ∀ i, i < W → ln i < 8) (he : ∀ i, i < W → ln' i = ln i) {i : Nat} (hi : i ≤ W) : wy_lf Q ln' i = wy_lf P ln i := by
  unfold wy_lf
  rw [wz_e h.1 0 31 (by decide)]
  congr 1
  refine wy_su_congr (fun x hx => ?_)
  rw [he x (by omega), wz_tr hI h hC (hln x (by omega))]
theorem wz_dN (hI : wy_iv P) (h : wz_L d P Q) (hC : wz_C P) {ln ln' : Nat → Nat} {W D D' : Nat} (hln : ∀ i, i < W → ln i < 8) (he : ∀ i, i < W → ln' i = ln i) (h1 : wy_dN P ln W D) (h2 : wy_dN Q ln' W D') : D' = D := by
  obtain ⟨a1, a2, a3⟩ := h1
  obtain ⟨b1, b2, b3⟩ := h2
  rcases Nat.lt_trichotomy D D' with c | c | c
  · have k := b2 D c
    rw [he D (by omega), wz_tr hI h hC (hln D (by omega)), wz_lf hI h hC hln he (by omega)] at k
    exact absurd k (a3 (by omega))
  · exact c.symm
  · have k := b3 (by omega)
    rw [he D' (by omega), wz_tr hI h hC (hln D' (by omega)), wz_lf hI h hC hln he (by omega)] at k
    exact absurd (a2 D' c) k
theorem wz_QrC (hC : wz_C P) {ln : Nat → Nat} {D W : Nat} : wz_C (wq_set (wy_Qr P ln D W) 0 29 (P 0 29 + 1)) := wz_C_cg hC (fun f i hf => by
  rw [wy_set_ne (by omega), wy_Qr_o (by omega)])
end
