/-! what always holds, kept by writes -/
section
variable {P Q S M : wq_St}
theorem wy_ct_cg {t : Nat} (h : ∀ i, Q 3 i = P 3 i) : ∀ n, wy_ct Q t n = wy_ct P t n
  | 0 => rfl
  | n + 1 => by
    simp only [wy_ct]
    rw [h, wy_ct_cg h n]
theorem wy_iv_cg (hI : wy_iv P) (h : ∀ f i, 1 ≤ f → Q f i = P f i) (h5 : Q 0 5 = P 0 5) (h11 : Q 0 11 = P 0 11) (h28 : Q 0 28 = P 0 28) : wy_iv Q := by
  obtain ⟨iB, iO, iK, iD, iL, iT, iC, iS, iN, iP⟩ := hI
  refine ⟨fun f i h1 h2 => ?_, ?_, fun t ht => ?_, fun r hr => ?_, fun i => ?_, fun r j hj => ?_, fun r k hk => ?_, fun r hr => ?_, fun r h1 h2 => ?_, fun t ht => ?_⟩
  · rw [h f i h1]
    exact iB f i h1 h2
  · unfold wy_iO
    rw [h5, h11, h28]
    exact iO
  · rw [h5] at ht
    rw [h 10 t (by omega)]
    exact iK t ht
  · rw [h28] at hr
    rw [h 12 r (by omega)]
    exact iD r hr
  · rw [h 8 i (by omega), h 9 i (by omega)]
    exact iL i
  · rw [h 13 r (by omega)] at hj
    rw [h 14 _ (by omega), h5]
    exact iT r j hj
  · rw [h 15 r (by omega)] at hk
    rw [h 13 _ (by omega), h 16 _ (by omega), h 17 _ (by omega), h 20 _ (by omega)]
    exact iC r k hk
  · rw [h 22 r (by omega)] at hr ⊢
    rw [h 13 _ (by omega), h 23 _ (by omega), h 28 _ (by omega)]
    exact iS r hr
  · rw [h28] at h1
    rw [h 22 _ (by omega), h 24 _ (by omega), h 25 _ (by omega), h 26 _ (by omega)]
    exact iN r h1 h2
  · rw [h 27 _ (by omega), h 2 _ (by omega), wy_ct_cg (fun i => h 3 i (by omega))]
    exact iP t ht
theorem wy_iv_0 (hI : wy_iv P) {j : Nat} {v : Int} (hj : j ≠ 5 ∧ j ≠ 11 ∧ j ≠ 28) : wy_iv (wq_set P 0 j v) := wy_iv_cg hI (fun f i h => wy_set_ne (by omega)) (wy_set_ne (by omega)) (wy_set_ne (by omega)) (wy_set_ne (by omega))
theorem wy_iB_set (h : wy_iB P) {f j : Nat} {v : Int} (hv : 1 ≤ f → f ≤ 23 → wy_lo f ≤ v ∧ v ≤ wy_hi f) : wy_iB (wq_set P f j v) := fun g i h1 h2 => by
  by_cases e : g = f ∧ i = j
  · obtain ⟨rfl, rfl⟩ := e
    rw [wy_set_at rfl rfl]
    exact hv h1 h2
  · rw [wy_set_ne e]
    exact h g i h1 h2
theorem wy_set_cm {k j k' j' : Nat} {v v' : Int} (h : ¬(k = k' ∧ j = j')) : wq_set (wq_set S k j v) k' j' v' = wq_set (wq_set S k' j' v') k j v := by
  funext a i
  by_cases e : a = k ∧ i = j
  · rw [wy_set_ne (fun e' => h ⟨e.1.symm.trans e'.1, e.2.symm.trans e'.2⟩), wy_set_at e.1 e.2, wy_set_at e.1 e.2]
  · rw [wy_set_ne (S := wq_set S k' j' v') e]
    by_cases e' : a = k' ∧ i = j'
    · rw [wy_set_at e'.1 e'.2, wy_set_at e'.1 e'.2]
    · rw [wy_set_ne e', wy_set_ne e', wy_set_ne e]
theorem wy_ct_on {t i : Nat} {v : Int} (hv : v ≠ 0) : ∀ n, n ≤ i → wy_ct (wq_set P 3 (40 * t + i) v) t n = wy_ct P t n
  | 0, _ => rfl
  | n + 1, h => by
    simp only [wy_ct]
    rw [wy_ct_on hv n (by omega), wy_set_ne (by omega)]
theorem wy_ct_off {t i : Nat} (h1 : P 3 (40 * t + i) ≠ 0) : ∀ n, wy_ct (wq_set P 3 (40 * t + i) 0) t n = wy_ct P t n - (if i < n then 1 else 0)
  | 0 => by
    rw [if_neg (by omega)]
    rfl
  | n + 1 => by
    simp only [wy_ct]
    rw [wy_ct_off h1 n]
    by_cases e : n = i
    · subst e
      rw [wy_set_at rfl rfl, if_neg (by omega), if_pos rfl, if_neg h1, if_pos (by omega)]
      omega
    · rw [wy_set_ne (by omega)]
      by_cases c : i < n
      · rw [if_pos c, if_pos (c := i < n + 1) (by omega)]
        split <;> omega
      · rw [if_neg c, if_neg (c := i < n + 1) (by omega)]
        split <;> omega
theorem wy_ct_el {t t' i : Nat} {v : Int} (ht : t' ≠ t) (hi : i < 40) : ∀ n, n ≤ 40 → wy_ct (wq_set P 3 (40 * t + i) v) t' n = wy_ct P t' n
  | 0, _ => rfl
  | n + 1, h => by
    simp only [wy_ct]
    rw [wy_ct_el ht hi n (by omega), wy_set_ne (by omega)]
theorem wy_iv_10 (hI : wy_iv P) {t : Nat} {v : Int} (hv : v = 0 ∨ (v = 1 ∧ (t : Int) < P 0 5)) : wy_iv (wq_set P 10 t v) := by
  obtain ⟨iB, iO, iK, iD, iL, iT, iC, iS, iN, iP⟩ := hI
  exact ⟨(wy_iB_set iB (fun h1' h2' => show ((0) : Int) ≤ v ∧ v ≤ ((1) : Int) from ⟨by omega, by omega⟩)),
    by
    unfold wy_iO
    simp (disch := omega) only [wy_set_ne]
    exact iO,
    fun t' ht' => by
    by_cases e : t' = t
    · subst e
      rw [wy_set_ne (by omega)] at ht'
      rw [wy_set_at rfl rfl]
      omega
    · rw [wy_set_ne (by omega)] at ht'
      rw [wy_set_ne (by omega)]
      exact iK t' ht',
    fun r' hr' => by
    simp (disch := omega) only [wy_set_ne] at hr' ⊢
    exact iD r' hr',
    fun i' => by
    simp (disch := omega) only [wy_set_ne]
    exact iL i',
    fun r' j' hj' => by
    simp (disch := omega) only [wy_set_ne] at hj' ⊢
    exact iT r' j' hj',
    fun r' k' hk' => by
    simp (disch := omega) only [wy_set_ne] at hk' ⊢
    exact iC r' k' hk',
    fun r' hr' => by
    simp (disch := omega) only [wy_set_ne] at hr' ⊢
    exact iS r' hr',
    fun r' h1' h2' => by
    simp (disch := omega) only [wy_set_ne] at h1' ⊢
    exact iN r' h1' h2',
    fun t' ht' => by
    rw [wy_ct_cg (P := P) (fun i => by simp (disch := omega) only [wy_set_ne])]
    simp (disch := omega) only [wy_set_ne]
    exact iP t' ht'⟩
theorem wy_iv_addTable (hI : wy_iv P) {c : Int} {t : Nat} (hc : 1 ≤ c ∧ c ≤ 3) (ht : P 0 5 = (t : Int)) (h4 : t < 4) : wy_iv (wq_set (wq_set P 1 t c) 0 5 (P 0 5 + 1)) := by
  obtain ⟨iB, iO, iK, iD, iL, iT, iC, iS, iN, iP⟩ := hI
  exact ⟨(wy_iB_set (wy_iB_set iB (fun h1' h2' => show ((0) : Int) ≤ c ∧ c ≤ ((3) : Int) from ⟨by omega, by omega⟩)) (fun h1' h2' => by omega)),
    by
    unfold wy_iO at iO ⊢
    rw [wy_set_at (v := P 0 5 + 1) rfl rfl]
    simp (disch := omega) only [wy_set_ne]
    omega,
    fun t' ht' => by
    rw [wy_set_at (v := P 0 5 + 1) rfl rfl] at ht'
    simp (disch := omega) only [wy_set_ne]
    exact iK t' (by omega),
    fun r' hr' => by
    simp (disch := omega) only [wy_set_ne] at hr' ⊢
    exact iD r' hr',
    fun i' => by
    simp (disch := omega) only [wy_set_ne]
    exact iL i',
    fun r' j' hj' => by
    simp (disch := omega) only [wy_set_ne] at hj'
    rw [wy_set_at (v := P 0 5 + 1) rfl rfl]
    simp (disch := omega) only [wy_set_ne]
    have := iT r' j' hj'
    omega,
    fun r' k' hk' => by
    simp (disch := omega) only [wy_set_ne] at hk' ⊢
    exact iC r' k' hk',
    fun r' hr' => by
    simp (disch := omega) only [wy_set_ne] at hr' ⊢
    exact iS r' hr',
    fun r' h1' h2' => by
    simp (disch := omega) only [wy_set_ne] at h1' ⊢
    exact iN r' h1' h2',
    fun t' ht' => by
    rw [wy_ct_cg (P := P) (fun i => by simp (disch := omega) only [wy_set_ne])]
    simp (disch := omega) only [wy_set_ne]
    exact iP t' ht'⟩
theorem wy_iv_put (hI : wy_iv P) {t i : Nat} {a b c : Int} (ht : t < 4) (hi : P 2 t = (i : Int)) (hi4 : i < 40) (ha : 0 ≤ a ∧ a ≤ 999) (hb : 0 ≤ b ∧ b ≤ 999) (hc : 0 ≤ c ∧ c ≤ 999) : wy_iv (wq_set (wq_set (wq_set (wq_set (wq_set (wq_set P 4 (3 * (40 * t + i)) a) 4 (3 * (40 * t + i) + 1) b) 4 (3 * (40 * t + i) + 2) c) 3 (40 * t + i) 1) 2 t ((i : Int) + 1)) 27 t (P 27 t + 1)) := by
  obtain ⟨iB, iO, iK, iD, iL, iT, iC, iS, iN, iP⟩ := hI
  exact ⟨(wy_iB_set (wy_iB_set (wy_iB_set (wy_iB_set (wy_iB_set (wy_iB_set iB (fun h1' h2' => show ((0) : Int) ≤ a ∧ a ≤ ((999) : Int) from ⟨by omega, by omega⟩)) (fun h1' h2' => show ((0) : Int) ≤ b ∧ b ≤ ((999) : Int) from ⟨by omega, by omega⟩)) (fun h1' h2' => show ((0) : Int) ≤ c ∧ c ≤ ((999) : Int) from ⟨by omega, by omega⟩)) (fun h1' h2' => show ((0) : Int) ≤ 1 ∧ 1 ≤ ((1) : Int) from ⟨by omega, by omega⟩)) (fun h1' h2' => show ((0) : Int) ≤ ((i : Int) + 1) ∧ ((i : Int) + 1) ≤ ((40) : Int) from ⟨by omega, by omega⟩)) (fun h1' h2' => by omega)),
    by
    unfold wy_iO
    simp (disch := omega) only [wy_set_ne]
    exact iO,
    fun t' ht' => by
    simp (disch := omega) only [wy_set_ne] at ht' ⊢
    exact iK t' ht',
    fun r' hr' => by
    simp (disch := omega) only [wy_set_ne] at hr' ⊢
    exact iD r' hr',
    fun i' => by
    simp (disch := omega) only [wy_set_ne]
    exact iL i',
    fun r' j' hj' => by
    simp (disch := omega) only [wy_set_ne] at hj' ⊢
    exact iT r' j' hj',
    fun r' k' hk' => by
    simp (disch := omega) only [wy_set_ne] at hk' ⊢
    exact iC r' k' hk',
    fun r' hr' => by
    simp (disch := omega) only [wy_set_ne] at hr' ⊢
    exact iS r' hr',
    fun r' h1' h2' => by
    simp (disch := omega) only [wy_set_ne] at h1' ⊢
    exact iN r' h1' h2',
    fun t' ht' => by
    have b2 := (iB 2 t' (by omega) (by omega)).2
    have b2' : P 2 t' ≤ 40 := b2
    have e3 : ∀ i', wq_set (wq_set (wq_set (wq_set (wq_set (wq_set P 4 (3 * (40 * t + i)) a) 4 (3 * (40 * t + i) + 1) b) 4 (3 * (40 * t + i) + 2) c) 3 (40 * t + i) 1) 2 t ((i : Int) + 1)) 27 t (P 27 t + 1) 3 i' = wq_set P 3 (40 * t + i) 1 3 i' := fun i' => by
      rw [wy_set_ne (by omega), wy_set_ne (by omega)]
      by_cases e : i' = 40 * t + i
      · rw [wy_set_at rfl e, wy_set_at rfl e]
      · simp (disch := omega) only [wy_set_ne]
    rw [wy_ct_cg (P := wq_set P 3 (40 * t + i) 1) e3]
    by_cases e : t' = t
    · subst e
      rw [wy_set_at rfl rfl, wy_set_ne (by omega), wy_set_at rfl rfl]
      have := iP t' ht'
      rw [hi] at this
      have q : ((i : Int) + 1).toNat = i + 1 := by omega
      rw [q]
      simp only [wy_ct]
      rw [wy_ct_on (by omega) i (Nat.le_refl _), wy_set_at rfl rfl, if_neg (by omega), this, Int.toNat_natCast]
    · simp (disch := omega) only [wy_set_ne]
      rw [wy_ct_el e hi4 _ (by omega)]
      exact iP t' ht'⟩
theorem wy_iv_del (hI : wy_iv P) {t i : Nat} (ht : t < 4) (hi : (i : Int) < P 2 t) (h3 : P 3 (40 * t + i) ≠ 0) : wy_iv (wq_set (wq_set P 3 (40 * t + i) 0) 27 t (P 27 t - 1)) := by
  obtain ⟨iB, iO, iK, iD, iL, iT, iC, iS, iN, iP⟩ := hI
  exact ⟨(wy_iB_set (wy_iB_set iB (fun h1' h2' => show ((0) : Int) ≤ 0 ∧ 0 ≤ ((1) : Int) from ⟨by omega, by omega⟩)) (fun h1' h2' => by omega)),
    by
    unfold wy_iO
    simp (disch := omega) only [wy_set_ne]
    exact iO,
    fun t' ht' => by
    simp (disch := omega) only [wy_set_ne] at ht' ⊢
    exact iK t' ht',
    fun r' hr' => by
    simp (disch := omega) only [wy_set_ne] at hr' ⊢
    exact iD r' hr',
    fun i' => by
    simp (disch := omega) only [wy_set_ne]
    exact iL i',
    fun r' j' hj' => by
    simp (disch := omega) only [wy_set_ne] at hj' ⊢
    exact iT r' j' hj',
    fun r' k' hk' => by
    simp (disch := omega) only [wy_set_ne] at hk' ⊢
    exact iC r' k' hk',
    fun r' hr' => by
    simp (disch := omega) only [wy_set_ne] at hr' ⊢
    exact iS r' hr',
    fun r' h1' h2' => by
    simp (disch := omega) only [wy_set_ne] at h1' ⊢
    exact iN r' h1' h2',
    fun t' ht' => by
    have b2' : P 2 t' ≤ 40 := (iB 2 t' (by omega) (by omega)).2
    have b2 : P 2 t ≤ 40 := (iB 2 t (by omega) (by omega)).2
    rw [wy_ct_cg (P := wq_set P 3 (40 * t + i) 0) (fun i' => wy_set_ne (by omega))]
    by_cases e : t' = t
    · subst e
      rw [wy_set_at rfl rfl, wy_set_ne (by omega), wy_set_ne (by omega), wy_ct_off h3, if_pos (by omega), iP t' ht']
    · simp (disch := omega) only [wy_set_ne]
      rw [wy_ct_el e (by omega) _ (by omega)]
      exact iP t' ht'⟩
theorem wy_iv_5 (hI : wy_iv P) {i : Nat} {v : Int} (hv : v = 0 ∨ v = 1) : wy_iv (wq_set P 5 i v) := by
  obtain ⟨iB, iO, iK, iD, iL, iT, iC, iS, iN, iP⟩ := hI
  exact ⟨(wy_iB_set iB (fun h1' h2' => show ((0) : Int) ≤ v ∧ v ≤ ((1) : Int) from ⟨by omega, by omega⟩)),
    by
    unfold wy_iO
    simp (disch := omega) only [wy_set_ne]
    exact iO,
    fun t' ht' => by
    simp (disch := omega) only [wy_set_ne] at ht' ⊢
    exact iK t' ht',
    fun r' hr' => by
    simp (disch := omega) only [wy_set_ne] at hr' ⊢
    exact iD r' hr',
    fun i' => by
    simp (disch := omega) only [wy_set_ne]
    exact iL i',
    fun r' j' hj' => by
    simp (disch := omega) only [wy_set_ne] at hj' ⊢
    exact iT r' j' hj',
    fun r' k' hk' => by
    simp (disch := omega) only [wy_set_ne] at hk' ⊢
    exact iC r' k' hk',
    fun r' hr' => by
    simp (disch := omega) only [wy_set_ne] at hr' ⊢
    exact iS r' hr',
    fun r' h1' h2' => by
    simp (disch := omega) only [wy_set_ne] at h1' ⊢
    exact iN r' h1' h2',
    fun t' ht' => by
    rw [wy_ct_cg (P := P) (fun i => by simp (disch := omega) only [wy_set_ne])]
    simp (disch := omega) only [wy_set_ne]
    exact iP t' ht'⟩
theorem wy_iv_step (hI : wy_iv P) {v : Int} (hv : 1 ≤ v ∧ v ≤ 10) : wy_iv (wq_set P 0 11 v) := by
  obtain ⟨iB, iO, iK, iD, iL, iT, iC, iS, iN, iP⟩ := hI
  exact ⟨(wy_iB_set iB (fun h1' h2' => by omega)),
    by
    unfold wy_iO at iO ⊢
    rw [wy_set_at rfl rfl]
    simp (disch := omega) only [wy_set_ne]
    omega,
    fun t' ht' => by
    simp (disch := omega) only [wy_set_ne] at ht' ⊢
    exact iK t' ht',
    fun r' hr' => by
    simp (disch := omega) only [wy_set_ne] at hr' ⊢
    exact iD r' hr',
    fun i' => by
    simp (disch := omega) only [wy_set_ne]
    exact iL i',
    fun r' j' hj' => by
    simp (disch := omega) only [wy_set_ne] at hj' ⊢
    exact iT r' j' hj',
    fun r' k' hk' => by
    simp (disch := omega) only [wy_set_ne] at hk' ⊢
    exact iC r' k' hk',
    fun r' hr' => by
    simp (disch := omega) only [wy_set_ne] at hr' ⊢
    exact iS r' hr',
    fun r' h1' h2' => by
    simp (disch := omega) only [wy_set_ne] at h1' ⊢
    exact iN r' h1' h2',
    fun t' ht' => by
    rw [wy_ct_cg (P := P) (fun i => by simp (disch := omega) only [wy_set_ne])]
    simp (disch := omega) only [wy_set_ne]
    exact iP t' ht'⟩
theorem wy_iv_addReport (hI : wy_iv P) {v : Int} {r : Nat} (hv : 0 ≤ v ∧ v ≤ 1000) (hr : P 0 28 = (r : Int)) (h8 : r < 8) : wy_iv (wq_set (wq_set P 11 r v) 0 28 (P 0 28 + 1)) := by
  obtain ⟨iB, iO, iK, iD, iL, iT, iC, iS, iN, iP⟩ := hI
  exact ⟨(wy_iB_set (wy_iB_set iB (fun h1' h2' => show ((0) : Int) ≤ v ∧ v ≤ ((1000) : Int) from ⟨by omega, by omega⟩)) (fun h1' h2' => by omega)),
    by
    unfold wy_iO at iO ⊢
    rw [wy_set_at (v := P 0 28 + 1) rfl rfl]
    simp (disch := omega) only [wy_set_ne]
    omega,
    fun t' ht' => by
    simp (disch := omega) only [wy_set_ne] at ht' ⊢
    exact iK t' ht',
    fun r' hr' => by
    rw [wy_set_at (v := P 0 28 + 1) rfl rfl] at hr'
    simp (disch := omega) only [wy_set_ne]
    exact iD r' (by omega),
    fun i' => by
    simp (disch := omega) only [wy_set_ne]
    exact iL i',
    fun r' j' hj' => by
    simp (disch := omega) only [wy_set_ne] at hj' ⊢
    exact iT r' j' hj',
    fun r' k' hk' => by
    simp (disch := omega) only [wy_set_ne] at hk' ⊢
    exact iC r' k' hk',
    fun r' hr' => by
    simp (disch := omega) only [wy_set_ne] at hr' ⊢
    exact iS r' hr',
    fun r' h1' h2' => by
    rw [wy_set_at (v := P 0 28 + 1) rfl rfl] at h1'
    simp (disch := omega) only [wy_set_ne]
    exact iN r' (by omega) h2',
    fun t' ht' => by
    rw [wy_ct_cg (P := P) (fun i => by simp (disch := omega) only [wy_set_ne])]
    simp (disch := omega) only [wy_set_ne]
    exact iP t' ht'⟩
theorem wy_iv_addSource (hI : wy_iv P) {v : Int} {r n : Nat} (hv : 0 ≤ v ∧ v < P 0 5) (hn : P 13 r = (n : Int)) (h3 : n < 3) : wy_iv (wq_set (wq_set P 14 (3 * r + n) v) 13 r ((n : Int) + 1)) := by
  obtain ⟨iB, iO, iK, iD, iL, iT, iC, iS, iN, iP⟩ := hI
  have iO9 := iO
  unfold wy_iO at iO9
  exact ⟨(wy_iB_set (wy_iB_set iB (fun h1' h2' => show ((0) : Int) ≤ v ∧ v ≤ ((3) : Int) from ⟨by omega, by omega⟩)) (fun h1' h2' => show ((0) : Int) ≤ ((n : Int) + 1) ∧ ((n : Int) + 1) ≤ ((3) : Int) from ⟨by omega, by omega⟩)),
    by
    unfold wy_iO
    simp (disch := omega) only [wy_set_ne]
    exact iO,
    fun t' ht' => by
    simp (disch := omega) only [wy_set_ne] at ht' ⊢
    exact iK t' ht',
    fun r' hr' => by
    simp (disch := omega) only [wy_set_ne] at hr' ⊢
    exact iD r' hr',
    fun i' => by
    simp (disch := omega) only [wy_set_ne]
    exact iL i',
    fun r' j' hj' => by
    rw [wy_set_ne (i := 5) (by omega), wy_set_ne (i := 5) (by omega), wy_set_ne (a := 14) (by omega)]
    by_cases e : r' = r
    · subst e
      rw [wy_set_at rfl rfl] at hj'
      by_cases e2 : j' = n
      · rw [wy_set_at rfl (by omega)]
        omega
      · rw [wy_set_ne (by omega)]
        exact iT r' j' (by omega)
    · rw [wy_set_ne (by omega), wy_set_ne (by omega)] at hj'
      have b13 : P 13 r' ≤ 3 := (iB 13 r' (by omega) (by omega)).2
      rw [wy_set_ne (by omega)]
      exact iT r' j' hj',
    fun r' k' hk' => by
    rw [wy_set_ne (by omega), wy_set_ne (by omega)] at hk'
    have h := iC r' k' hk'
    rw [wy_set_ne (a := 17) (by omega), wy_set_ne (a := 17) (by omega), wy_set_ne (a := 16) (by omega), wy_set_ne (a := 16) (by omega), wy_set_ne (a := 20) (by omega), wy_set_ne (a := 20) (by omega)]
    by_cases e : r' = r
    · subst e
      rw [wy_set_at rfl rfl]
      exact ⟨by omega, fun h3' => ⟨by have := (h.2 h3').1; omega, (h.2 h3').2⟩⟩
    · rw [wy_set_ne (by omega), wy_set_ne (by omega)]
      exact h,
    fun r' hr' => by
    rw [wy_set_ne (by omega), wy_set_ne (by omega)] at hr'
    have h := iS r' hr'
    rw [wy_set_ne (a := 22) (by omega), wy_set_ne (a := 22) (by omega), wy_set_ne (a := 23) (by omega), wy_set_ne (a := 23) (by omega), wy_set_ne (a := 28) (by omega), wy_set_ne (a := 28) (by omega)]
    by_cases e : r' = r
    · subst e
      rw [wy_set_at rfl rfl]
      exact ⟨by omega, h.2⟩
    · rw [wy_set_ne (by omega), wy_set_ne (by omega)]
      exact h,
    fun r' h1' h2' => by
    simp (disch := omega) only [wy_set_ne] at h1' ⊢
    exact iN r' h1' h2',
    fun t' ht' => by
    rw [wy_ct_cg (P := P) (fun i => by simp (disch := omega) only [wy_set_ne])]
    simp (disch := omega) only [wy_set_ne]
    exact iP t' ht'⟩
theorem wy_iv_addCondition (hI : wy_iv P) {r n : Nat} {so co ki nu : Int} (hs : 0 ≤ so ∧ so < P 13 r) (hs2 : so ≤ 2) (hc : 0 ≤ co ∧ co ≤ 2) (hk : 0 ≤ ki ∧ ki ≤ 2) (hu : 0 ≤ nu ∧ nu ≤ 999) (hn : P 15 r = (n : Int)) (h6 : n < 6) : wy_iv (wq_set (wq_set (wq_set (wq_set (wq_set P 17 (6 * r + n) so) 18 (6 * r + n) co) 16 (6 * r + n) ki) 19 (6 * r + n) nu) 15 r ((n : Int) + 1)) := by
  obtain ⟨iB, iO, iK, iD, iL, iT, iC, iS, iN, iP⟩ := hI
  exact ⟨(wy_iB_set (wy_iB_set (wy_iB_set (wy_iB_set (wy_iB_set iB (fun h1' h2' => show ((0) : Int) ≤ so ∧ so ≤ ((2) : Int) from ⟨by omega, by omega⟩)) (fun h1' h2' => show ((0) : Int) ≤ co ∧ co ≤ ((2) : Int) from ⟨by omega, by omega⟩)) (fun h1' h2' => show ((0) : Int) ≤ ki ∧ ki ≤ ((3) : Int) from ⟨by omega, by omega⟩)) (fun h1' h2' => show ((0) : Int) ≤ nu ∧ nu ≤ ((999) : Int) from ⟨by omega, by omega⟩)) (fun h1' h2' => show ((0) : Int) ≤ ((n : Int) + 1) ∧ ((n : Int) + 1) ≤ ((6) : Int) from ⟨by omega, by omega⟩)),
    by
    unfold wy_iO
    simp (disch := omega) only [wy_set_ne]
    exact iO,
    fun t' ht' => by
    simp (disch := omega) only [wy_set_ne] at ht' ⊢
    exact iK t' ht',
    fun r' hr' => by
    simp (disch := omega) only [wy_set_ne] at hr' ⊢
    exact iD r' hr',
    fun i' => by
    simp (disch := omega) only [wy_set_ne]
    exact iL i',
    fun r' j' hj' => by
    simp (disch := omega) only [wy_set_ne] at hj' ⊢
    exact iT r' j' hj',
    fun r' k' hk' => by
    by_cases e : r' = r ∧ k' = n
    · obtain ⟨rfl, rfl⟩ := e
      rw [wy_set_ne (a := 17) (by omega), wy_set_ne (a := 17) (by omega), wy_set_ne (a := 17) (by omega), wy_set_ne (a := 17) (by omega), wy_set_at (a := 17) rfl rfl, wy_set_ne (a := 16) (by omega), wy_set_ne (a := 16) (by omega), wy_set_at (a := 16) rfl rfl]
      simp (disch := omega) only [wy_set_ne]
      exact ⟨hs.2, fun h => by omega⟩
    · have b15 : P 15 r' ≤ 6 := (iB 15 r' (by omega) (by omega)).2
      have hk2 : (k' : Int) < P 15 r' := by
        by_cases e2 : r' = r
        · subst e2
          rw [wy_set_at rfl rfl] at hk'
          omega
        · simp (disch := omega) only [wy_set_ne] at hk'
          exact hk'
      simp (disch := omega) only [wy_set_ne]
      exact iC r' k' hk2,
    fun r' hr' => by
    simp (disch := omega) only [wy_set_ne] at hr' ⊢
    exact iS r' hr',
    fun r' h1' h2' => by
    simp (disch := omega) only [wy_set_ne] at h1' ⊢
    exact iN r' h1' h2',
    fun t' ht' => by
    rw [wy_ct_cg (P := P) (fun i => by simp (disch := omega) only [wy_set_ne])]
    simp (disch := omega) only [wy_set_ne]
    exact iP t' ht'⟩
theorem wy_iv_addJoin (hI : wy_iv P) {r n : Nat} {so co ot oc : Int} (hs : 0 ≤ so ∧ so < P 13 r) (hs2 : so ≤ 2) (hc : 0 ≤ co ∧ co ≤ 2) (ho : 0 ≤ ot ∧ ot < P 13 r) (ho2 : ot ≤ 2) (hd : 0 ≤ oc ∧ oc ≤ 2) (hne : so ≠ ot) (hn : P 15 r = (n : Int)) (h6 : n < 6) : wy_iv (wq_set (wq_set (wq_set (wq_set (wq_set (wq_set P 17 (6 * r + n) so) 18 (6 * r + n) co) 16 (6 * r + n) 3) 20 (6 * r + n) ot) 21 (6 * r + n) oc) 15 r ((n : Int) + 1)) := by
  obtain ⟨iB, iO, iK, iD, iL, iT, iC, iS, iN, iP⟩ := hI
  exact ⟨(wy_iB_set (wy_iB_set (wy_iB_set (wy_iB_set (wy_iB_set (wy_iB_set iB (fun h1' h2' => show ((0) : Int) ≤ so ∧ so ≤ ((2) : Int) from ⟨by omega, by omega⟩)) (fun h1' h2' => show ((0) : Int) ≤ co ∧ co ≤ ((2) : Int) from ⟨by omega, by omega⟩)) (fun h1' h2' => show ((0) : Int) ≤ 3 ∧ 3 ≤ ((3) : Int) from ⟨by omega, by omega⟩)) (fun h1' h2' => show ((0) : Int) ≤ ot ∧ ot ≤ ((2) : Int) from ⟨by omega, by omega⟩)) (fun h1' h2' => show ((0) : Int) ≤ oc ∧ oc ≤ ((2) : Int) from ⟨by omega, by omega⟩)) (fun h1' h2' => show ((0) : Int) ≤ ((n : Int) + 1) ∧ ((n : Int) + 1) ≤ ((6) : Int) from ⟨by omega, by omega⟩)),
    by
    unfold wy_iO
    simp (disch := omega) only [wy_set_ne]
    exact iO,
    fun t' ht' => by
    simp (disch := omega) only [wy_set_ne] at ht' ⊢
    exact iK t' ht',
    fun r' hr' => by
    simp (disch := omega) only [wy_set_ne] at hr' ⊢
    exact iD r' hr',
    fun i' => by
    simp (disch := omega) only [wy_set_ne]
    exact iL i',
    fun r' j' hj' => by
    simp (disch := omega) only [wy_set_ne] at hj' ⊢
    exact iT r' j' hj',
    fun r' k' hk' => by
    by_cases e : r' = r ∧ k' = n
    · obtain ⟨rfl, rfl⟩ := e
      rw [wy_set_ne (a := 17) (by omega), wy_set_ne (a := 17) (by omega), wy_set_ne (a := 17) (by omega), wy_set_ne (a := 17) (by omega), wy_set_ne (a := 17) (by omega), wy_set_at (a := 17) rfl rfl, wy_set_ne (a := 20) (by omega), wy_set_ne (a := 20) (by omega), wy_set_at (a := 20) rfl rfl]
      simp (disch := omega) only [wy_set_ne]
      exact ⟨hs.2, fun _ => ⟨ho.2, fun h => hne h.symm⟩⟩
    · have b15 : P 15 r' ≤ 6 := (iB 15 r' (by omega) (by omega)).2
      have hk2 : (k' : Int) < P 15 r' := by
        by_cases e2 : r' = r
        · subst e2
          rw [wy_set_at rfl rfl] at hk'
          omega
        · simp (disch := omega) only [wy_set_ne] at hk'
          exact hk'
      simp (disch := omega) only [wy_set_ne]
      exact iC r' k' hk2,
    fun r' hr' => by
    simp (disch := omega) only [wy_set_ne] at hr' ⊢
    exact iS r' hr',
    fun r' h1' h2' => by
    simp (disch := omega) only [wy_set_ne] at h1' ⊢
    exact iN r' h1' h2',
    fun t' ht' => by
    rw [wy_ct_cg (P := P) (fun i => by simp (disch := omega) only [wy_set_ne])]
    simp (disch := omega) only [wy_set_ne]
    exact iP t' ht'⟩
theorem wy_iv_drop (hI : wy_iv P) {r n : Nat} (hn : P 15 r = (n : Int) + 1) : wy_iv (wq_set P 15 r ((n : Int))) := by
  obtain ⟨iB, iO, iK, iD, iL, iT, iC, iS, iN, iP⟩ := hI
  have b15 : P 15 r ≤ 6 := (iB 15 r (by omega) (by omega)).2
  exact ⟨(wy_iB_set iB (fun h1' h2' => show ((0) : Int) ≤ ((n : Int)) ∧ ((n : Int)) ≤ ((6) : Int) from ⟨by omega, by omega⟩)),
    by
    unfold wy_iO
    simp (disch := omega) only [wy_set_ne]
    exact iO,
    fun t' ht' => by
    simp (disch := omega) only [wy_set_ne] at ht' ⊢
    exact iK t' ht',
    fun r' hr' => by
    simp (disch := omega) only [wy_set_ne] at hr' ⊢
    exact iD r' hr',
    fun i' => by
    simp (disch := omega) only [wy_set_ne]
    exact iL i',
    fun r' j' hj' => by
    simp (disch := omega) only [wy_set_ne] at hj' ⊢
    exact iT r' j' hj',
    fun r' k' hk' => by
    have hk2 : (k' : Int) < P 15 r' := by
      by_cases e2 : r' = r
      · subst e2
        rw [wy_set_at rfl rfl] at hk'
        omega
      · simp (disch := omega) only [wy_set_ne] at hk'
        exact hk'
    simp (disch := omega) only [wy_set_ne]
    exact iC r' k' hk2,
    fun r' hr' => by
    simp (disch := omega) only [wy_set_ne] at hr' ⊢
    exact iS r' hr',
    fun r' h1' h2' => by
    simp (disch := omega) only [wy_set_ne] at h1' ⊢
    exact iN r' h1' h2',
    fun t' ht' => by
    rw [wy_ct_cg (P := P) (fun i => by simp (disch := omega) only [wy_set_ne])]
    simp (disch := omega) only [wy_set_ne]
    exact iP t' ht'⟩
theorem wy_iv_sum0 (hI : wy_iv P) {r : Nat} {v : Int} (hr : (r : Int) < P 0 28) (hv : -2147483648 ≤ v ∧ v ≤ 2147483647) : wy_iv (wq_set (wq_set P 22 r (-1)) 23 r v) := by
  obtain ⟨iB, iO, iK, iD, iL, iT, iC, iS, iN, iP⟩ := hI
  exact ⟨(wy_iB_set (wy_iB_set iB (fun h1' h2' => show ((-1) : Int) ≤ (-1) ∧ (-1) ≤ ((2) : Int) from ⟨by omega, by omega⟩)) (fun h1' h2' => show ((-2147483648) : Int) ≤ v ∧ v ≤ ((2147483647) : Int) from ⟨by omega, by omega⟩)),
    by
    unfold wy_iO
    simp (disch := omega) only [wy_set_ne]
    exact iO,
    fun t' ht' => by
    simp (disch := omega) only [wy_set_ne] at ht' ⊢
    exact iK t' ht',
    fun r' hr' => by
    simp (disch := omega) only [wy_set_ne] at hr' ⊢
    exact iD r' hr',
    fun i' => by
    simp (disch := omega) only [wy_set_ne]
    exact iL i',
    fun r' j' hj' => by
    simp (disch := omega) only [wy_set_ne] at hj' ⊢
    exact iT r' j' hj',
    fun r' k' hk' => by
    simp (disch := omega) only [wy_set_ne] at hk' ⊢
    exact iC r' k' hk',
    fun r' hr' => by
    by_cases e : r' = r
    · rw [wy_set_ne (by omega), wy_set_at rfl e] at hr'
      exact absurd rfl hr'
    · simp (disch := omega) only [wy_set_ne] at hr' ⊢
      exact iS r' hr',
    fun r' h1' h2' => by
    simp (disch := omega) only [wy_set_ne] at h1'
    simp (disch := omega) only [wy_set_ne]
    exact iN r' h1' h2',
    fun t' ht' => by
    rw [wy_ct_cg (P := P) (fun i => by simp (disch := omega) only [wy_set_ne])]
    simp (disch := omega) only [wy_set_ne]
    exact iP t' ht'⟩
theorem wy_iv_sum1 (hI : wy_iv P) {r : Nat} {so v : Int} (hr : (r : Int) < P 0 28) (hs : 0 ≤ so ∧ so < P 13 r) (hs2 : so ≤ 2) (hv : 0 ≤ v ∧ v ≤ 2) : wy_iv (wq_set (wq_set (wq_set P 28 r v) 22 r so) 23 r v) := by
  obtain ⟨iB, iO, iK, iD, iL, iT, iC, iS, iN, iP⟩ := hI
  exact ⟨(wy_iB_set (wy_iB_set (wy_iB_set iB (fun h1' h2' => by omega)) (fun h1' h2' => show ((-1) : Int) ≤ so ∧ so ≤ ((2) : Int) from ⟨by omega, by omega⟩)) (fun h1' h2' => show ((-2147483648) : Int) ≤ v ∧ v ≤ ((2147483647) : Int) from ⟨by omega, by omega⟩)),
    by
    unfold wy_iO
    simp (disch := omega) only [wy_set_ne]
    exact iO,
    fun t' ht' => by
    simp (disch := omega) only [wy_set_ne] at ht' ⊢
    exact iK t' ht',
    fun r' hr' => by
    simp (disch := omega) only [wy_set_ne] at hr' ⊢
    exact iD r' hr',
    fun i' => by
    simp (disch := omega) only [wy_set_ne]
    exact iL i',
    fun r' j' hj' => by
    simp (disch := omega) only [wy_set_ne] at hj' ⊢
    exact iT r' j' hj',
    fun r' k' hk' => by
    simp (disch := omega) only [wy_set_ne] at hk' ⊢
    exact iC r' k' hk',
    fun r' hr' => by
    by_cases e : r' = r
    · subst e
      rw [wy_set_at (a := 23) rfl rfl, wy_set_ne (a := 28) (by omega), wy_set_ne (a := 28) (by omega), wy_set_at (a := 28) rfl rfl, wy_set_ne (a := 22) (by omega), wy_set_at (a := 22) rfl rfl]
      simp (disch := omega) only [wy_set_ne]
      exact ⟨hs.2, trivial, hv.1, hv.2⟩
    · simp (disch := omega) only [wy_set_ne] at hr' ⊢
      exact iS r' hr',
    fun r' h1' h2' => by
    simp (disch := omega) only [wy_set_ne] at h1'
    simp (disch := omega) only [wy_set_ne]
    exact iN r' h1' h2',
    fun t' ht' => by
    rw [wy_ct_cg (P := P) (fun i => by simp (disch := omega) only [wy_set_ne])]
    simp (disch := omega) only [wy_set_ne]
    exact iP t' ht'⟩
theorem wy_iv_due (hI : wy_iv P) {r : Nat} {v : Int} (hr : (r : Int) < P 0 28) (hv : v = 0 ∨ v = 1) : wy_iv (wq_set P 12 r v) := by
  obtain ⟨iB, iO, iK, iD, iL, iT, iC, iS, iN, iP⟩ := hI
  exact ⟨(wy_iB_set iB (fun h1' h2' => show ((0) : Int) ≤ v ∧ v ≤ ((1) : Int) from ⟨by omega, by omega⟩)),
    by
    unfold wy_iO
    simp (disch := omega) only [wy_set_ne]
    exact iO,
    fun t' ht' => by
    simp (disch := omega) only [wy_set_ne] at ht' ⊢
    exact iK t' ht',
    fun r' hr' => by
    simp (disch := omega) only [wy_set_ne] at hr'
    simp (disch := omega) only [wy_set_ne]
    exact iD r' hr',
    fun i' => by
    simp (disch := omega) only [wy_set_ne]
    exact iL i',
    fun r' j' hj' => by
    simp (disch := omega) only [wy_set_ne] at hj' ⊢
    exact iT r' j' hj',
    fun r' k' hk' => by
    simp (disch := omega) only [wy_set_ne] at hk' ⊢
    exact iC r' k' hk',
    fun r' hr' => by
    simp (disch := omega) only [wy_set_ne] at hr' ⊢
    exact iS r' hr',
    fun r' h1' h2' => by
    simp (disch := omega) only [wy_set_ne] at h1' ⊢
    exact iN r' h1' h2',
    fun t' ht' => by
    rw [wy_ct_cg (P := P) (fun i => by simp (disch := omega) only [wy_set_ne])]
    simp (disch := omega) only [wy_set_ne]
    exact iP t' ht'⟩
theorem wy_rn_u {t : Nat} {b : Int} {n f j : Nat} (h : ¬(f = 6 ∧ j = t) ∧ ¬(3 * t ≤ j ∧ j < 3 * t + n ∧ 7 ≤ f ∧ f ≤ 9)) : wy_rn P t b n f j = P f j := by
  unfold wy_rn
  rw [if_neg h.1]
  split
  · rw [if_neg (by omega), if_neg (by omega), if_neg (by omega)]
  · rfl
theorem wy_iv_rn (hI : wy_iv P) {t : Nat} {b : Int} (h1 : 1 ≤ b) (n : Nat) : wy_iv (wy_rn P t b n) := by
  have b2 := wy_b2 hI t
  have hct := wy_ct_b P t (P 2 t).toNat
  have hI' := hI
  have o : ∀ f i, f ≠ 6 ∧ f ≠ 7 ∧ f ≠ 8 ∧ f ≠ 9 → wy_rn P t b n f i = P f i := fun f i h => wy_rn_o h
  obtain ⟨iB, iO, iK, iD, iL, iT, iC, iS, iN, iP⟩ := hI
  refine ⟨fun f i g1 g2 => ?_, ?_, fun t ht => ?_, fun r hr => ?_, fun i => ?_, fun r j hj => ?_, fun r k hk => ?_, fun r hr => ?_, fun r h1 h2 => ?_, fun t' ht => ?_⟩
  · by_cases e : ¬(f = 6 ∧ i = t) ∧ ¬(3 * t ≤ i ∧ i < 3 * t + n ∧ 7 ≤ f ∧ f ≤ 9)
    · rw [wy_rn_u e]
      exact iB f i g1 g2
    · unfold wy_rn
      by_cases e6 : f = 6 ∧ i = t
      · rw [if_pos e6, e6.1]
        exact ⟨hct.1, Int.le_trans hct.2 (by show _ ≤ (40 : Int); omega)⟩
      · have hu := @wy_un_b P t b (i - 3 * t) (P 2 t).toNat
        have hl := @wy_legr P t b hI' (i - 3 * t) (P 2 t).toNat
        have hm := Int.mul_nonneg (a := b) (by omega) hu.1
        rw [if_neg e6, if_pos (by omega)]
        have c : f = 7 ∨ f = 8 ∨ f = 9 := by omega
        rcases c with rfl | rfl | rfl
        · rw [if_pos rfl]
          show (0 : Int) ≤ _ ∧ _ ≤ (40 : Int)
          split <;> omega
        · rw [if_neg (by omega), if_pos rfl]
          show (0 : Int) ≤ _ ∧ _ ≤ (999 : Int)
          omega
        · rw [if_neg (by omega), if_neg (by omega), if_pos rfl]
          show (0 : Int) ≤ _ ∧ _ ≤ (999 : Int)
          omega
  · unfold wy_iO
    rw [o 0 5 (by omega), o 0 11 (by omega), o 0 28 (by omega)]
    exact iO
  · rw [o 0 5 (by omega)] at ht
    rw [o 10 _ (by omega)]
    exact iK t ht
  · rw [o 0 28 (by omega)] at hr
    rw [o 12 _ (by omega)]
    exact iD r hr
  · by_cases e : 3 * t ≤ i ∧ i < 3 * t + n
    · have hl := @wy_legr P t b hI' (i - 3 * t) (P 2 t).toNat
      unfold wy_rn
      rw [if_neg (by omega), if_pos e, if_neg (by omega), if_pos rfl, if_neg (by omega), if_pos e, if_neg (by omega), if_neg (by omega), if_pos rfl]
      exact hl.2.1
    · rw [wy_rn_u (by omega), wy_rn_u (by omega)]
      exact iL i
  · rw [o 13 _ (by omega)] at hj
    rw [o 14 _ (by omega), o 0 5 (by omega)]
    exact iT r j hj
  · rw [o 15 _ (by omega)] at hk
    rw [o 13 _ (by omega), o 16 _ (by omega), o 17 _ (by omega), o 20 _ (by omega)]
    exact iC r k hk
  · rw [o 22 _ (by omega)] at hr ⊢
    rw [o 13 _ (by omega), o 23 _ (by omega), o 28 _ (by omega)]
    exact iS r hr
  · rw [o 0 28 (by omega)] at h1
    rw [o 22 _ (by omega), o 24 _ (by omega), o 25 _ (by omega), o 26 _ (by omega)]
    exact iN r h1 h2
  · rw [o 27 _ (by omega), o 2 _ (by omega), wy_ct_cg (fun i => o 3 i (by omega))]
    exact iP t' ht
end
