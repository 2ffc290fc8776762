/-! TWO STORES: all values and numbers of conditions of the second are greater by d -/
def wz_E (P Q : wq_St) : Prop := ∀ f i : Nat, f ≠ 4 → f ≠ 8 → f ≠ 9 → f ≠ 19 → f ≠ 25 → Q f i = P f i
def wz_V (d : Int) (P Q : wq_St) : Prop := ∀ t i c : Nat, t < 4 → (i : Int) < P 2 t → (c : Int) < P 1 t → Q 4 (3 * (40 * t + i) + c) = P 4 (3 * (40 * t + i) + c) + d
def wz_G (d : Int) (P Q : wq_St) : Prop := ∀ t c : Nat, t < 4 → (c : Int) < P 1 t → (P 6 t = 0 → (P 8 (3 * t + c) = 0 ∧ P 9 (3 * t + c) = 0) ∧ Q 8 (3 * t + c) = 0 ∧ Q 9 (3 * t + c) = 0) ∧ (P 6 t ≠ 0 → Q 8 (3 * t + c) = P 8 (3 * t + c) + d ∧ Q 9 (3 * t + c) = P 9 (3 * t + c) + d)
def wz_N (d : Int) (P Q : wq_St) : Prop := ∀ r k : Nat, r < 8 → (k : Int) < P 15 r → P 16 (6 * r + k) ≠ 3 → Q 19 (6 * r + k) = P 19 (6 * r + k) + d
def wz_L (d : Int) (P Q : wq_St) : Prop := wz_E P Q ∧ wz_V d P Q ∧ wz_G d P Q ∧ wz_N d P Q
/-- the columns that conditions and sums name are there -/
def wz_C (P : wq_St) : Prop := (∀ r k : Nat, r < 8 → (k : Int) < P 15 r → P 18 (6 * r + k) < P 1 (wy_tb P r (P 17 (6 * r + k))) ∧ (P 16 (6 * r + k) = 3 → P 21 (6 * r + k) < P 1 (wy_tb P r (P 20 (6 * r + k))))) ∧ ∀ r : Nat, r < 8 → P 22 r ≠ -1 → P 28 r < P 1 (wy_tb P r (P 22 r))
section
variable {P Q : wq_St} {d : Int} {r t s : Nat} {o w : Nat → Int} {by_ : Int}
theorem wz_e (h : wz_E P Q) (f i : Nat) (hf : f ≠ 4 ∧ f ≠ 8 ∧ f ≠ 9 ∧ f ≠ 19 ∧ f ≠ 25) : Q f i = P f i := h f i hf.1 hf.2.1 hf.2.2.1 hf.2.2.2.1 hf.2.2.2.2
theorem wz_c (a b d : Int) : (a + d = b + d) ↔ a = b := by omega
theorem wz_l (a b d : Int) : (a + d < b + d) ↔ a < b := by omega
theorem wz_ct (h : wz_E P Q) (n : Nat) : wy_ct Q t n = wy_ct P t n := wy_ct_cg (fun i => wz_e h 3 i (by decide)) n
theorem wz_sm (h : wz_E P Q) (i : Nat) : wy_sm Q t by_ i ↔ wy_sm P t by_ i := by
  unfold wy_sm
  rw [wz_ct h, wz_e h 3 _ (by decide)]
theorem wz_ns (h : wz_E P Q) : ∀ n : Nat, wy_ns Q t by_ n = wy_ns P t by_ n
  | 0 => rfl
  | n + 1 => by
    by_cases hs : wy_sm P t by_ n
    · rw [wy_ns_s1 hs, wy_ns_s1 ((wz_sm h n).mpr hs), wz_ns h n]
    · rw [wy_ns_s0 hs, wy_ns_s0 (fun h' => hs ((wz_sm h n).mp h')), wz_ns h n]
theorem wz_va (h : wz_V d P Q) {i c : Nat} (ht : t < 4) (hi : (i : Int) < P 2 t) (hc : (c : Int) < P 1 t) : wy_va Q t c i = wy_va P t c i + d := h t i c ht hi hc
theorem wz_nx (h : wz_L d P Q) (ht : t < 4) {c : Nat} (hc : (c : Int) < P 1 t) (v : Int) : ∀ k : Nat, (k : Int) ≤ P 2 t → wy_nx Q t by_ c (v + d) k = wy_nx P t by_ c v k
  | 0, _ => rfl
  | k + 1, hk => by
    have e : (wy_sm Q t by_ k ∧ wy_va Q t c k = v + d) ↔ (wy_sm P t by_ k ∧ wy_va P t c k = v) := by
      rw [wz_sm h.1, wz_va h.2.1 ht (by omega) hc, wz_c]
    simp only [wy_nx]
    rw [wz_nx h ht hc v k (by omega)]
    by_cases h0 : wy_nx P t by_ c v k = 0
    · rw [if_pos h0, if_pos h0]
    · rw [if_neg h0, if_neg h0]
      by_cases h1 : wy_sm P t by_ k ∧ wy_va P t c k = v
      · rw [if_pos h1, if_pos (e.mpr h1)]
      · rw [if_neg h1, if_neg (fun h' => h1 (e.mp h'))]
theorem wz_un (h : wz_L d P Q) (ht : t < 4) {c : Nat} (hc : (c : Int) < P 1 t) : ∀ n : Nat, (n : Int) ≤ P 2 t → wy_un Q t by_ c n = wy_un P t by_ c n
  | 0, _ => rfl
  | n + 1, hn => by
    have e : (wy_sm Q t by_ n ∧ wy_nx Q t by_ c (wy_va Q t c n) n ≠ 0) ↔ (wy_sm P t by_ n ∧ wy_nx P t by_ c (wy_va P t c n) n ≠ 0) := by
      rw [wz_sm h.1, wz_va h.2.1 ht (by omega) hc, wz_nx h ht hc _ n (by omega)]
    simp only [wy_un]
    rw [wz_un h ht hc n (by omega)]
    by_cases h1 : wy_sm P t by_ n ∧ wy_nx P t by_ c (wy_va P t c n) n ≠ 0
    · rw [if_pos h1, if_pos (e.mpr h1)]
    · rw [if_neg h1, if_neg (fun h' => h1 (e.mp h'))]
theorem wz_lg (h : wz_L d P Q) (ht : t < 4) {c : Nat} (hc : (c : Int) < P 1 t) : ∀ n : Nat, (n : Int) ≤ P 2 t → (wy_ns P t by_ n = 0 → (wy_le P t by_ c n = 0 ∧ wy_gr P t by_ c n = 0) ∧ wy_le Q t by_ c n = 0 ∧ wy_gr Q t by_ c n = 0) ∧ (wy_ns P t by_ n ≠ 0 → wy_le Q t by_ c n = wy_le P t by_ c n + d ∧ wy_gr Q t by_ c n = wy_gr P t by_ c n + d)
  | 0, _ => ⟨fun _ => ⟨⟨rfl, rfl⟩, rfl, rfl⟩, fun h' => absurd rfl h'⟩
  | n + 1, hn => by
    have ih := wz_lg h ht hc n (by omega)
    have ev := wz_va h.2.1 (i := n) ht (by omega) hc
    by_cases hs : wy_sm P t by_ n
    · have hsQ := (wz_sm h.1 (by_ := by_) n).mpr hs
      refine ⟨fun h0 => by rw [wy_ns_s1 hs] at h0; omega, fun _ => ?_⟩
      simp only [wy_le, wy_gr]
      rw [if_pos hs, if_pos hs, if_pos hsQ, if_pos hsQ, wz_ns h.1, ev]
      by_cases h0 : wy_ns P t by_ n = 0
      · rw [if_pos (Or.inl h0), if_pos (Or.inl h0), if_pos (Or.inl h0), if_pos (Or.inl h0)]
        exact ⟨rfl, rfl⟩
      · obtain ⟨i1, i2⟩ := ih.2 h0
        rw [i1, i2]
        constructor
        · by_cases h1 : wy_va P t c n < wy_le P t by_ c n
          · rw [if_pos (Or.inr h1), if_pos (Or.inr (by omega))]
          · rw [if_neg (by omega), if_neg (by omega)]
        · by_cases h1 : wy_gr P t by_ c n < wy_va P t c n
          · rw [if_pos (Or.inr h1), if_pos (Or.inr (by omega))]
          · rw [if_neg (by omega), if_neg (by omega)]
    · have hsQ : ¬wy_sm Q t by_ n := fun h' => hs ((wz_sm h.1 n).mp h')
      rw [wy_ns_s0 hs]
      simp only [wy_le, wy_gr]
      rw [if_neg hs, if_neg hs, if_neg hsQ, if_neg hsQ]
      exact ih
theorem wz_ns0 (hI : wy_iv P) (h1 : 1 ≤ by_) (h2 : by_ ≤ 10) (n : Nat) : wy_ns P t by_ n = 0 ↔ wy_ct P t n = 0 := by
  have e := wy_ns_ceil (t := t) hI h1 h2 n
  have b := (wy_ct_b P t n).1
  rcases wy_step h1 h2 with rfl | rfl | rfl | rfl | rfl | rfl | rfl | rfl | rfl | rfl <;> omega
/-- both have their counts told -/
theorem wz_rn (hI : wy_iv P) (h : wz_L d P Q) (ht : t < 4) (h1 : 1 ≤ by_) (h2 : by_ ≤ 10) : wz_L d (wy_rn P t by_ (P 1 t).toNat) (wy_rn Q t by_ (Q 1 t).toNat) := by
  have b1 := wy_b1 hI t
  have b2 := wy_b2 hI t
  have e1 := wz_e h.1 1 t (by decide)
  have e2 := wz_e h.1 2 t (by decide)
  have P1 : ∀ i, wy_rn P t by_ (P 1 t).toNat 1 i = P 1 i := fun i => wy_rn_o (by decide)
  have P2 : ∀ i, wy_rn P t by_ (P 1 t).toNat 2 i = P 2 i := fun i => wy_rn_o (by decide)
  rw [e1]
  refine ⟨fun f i n4 n8 n9 n19 n25 => ?_, fun t' i c h3 h4 h5 => ?_, fun t' c h3 h4 => ?_, fun r k h3 h4 h5 => ?_⟩
  · simp only [wy_rn]
    rw [wz_ct h.1, e2, h.1 f i n4 n8 n9 n19 n25]
    by_cases c6 : f = 6 ∧ i = t
    · rw [if_pos c6, if_pos c6]
    · rw [if_neg c6, if_neg c6]
      by_cases ci : 3 * t ≤ i ∧ i < 3 * t + (P 1 t).toNat
      · rw [if_pos ci, if_pos ci, if_neg n8, if_neg n8, if_neg n9, if_neg n9]
        by_cases c7 : f = 7
        · rw [if_pos c7, if_pos c7, wz_un h ht (c := i - 3 * t) (by omega) _ (by omega)]
        · rw [if_neg c7, if_neg c7]
      · rw [if_neg ci, if_neg ci]
  · rw [wy_rn_o (by decide), wy_rn_o (by decide)]
    rw [P2] at h4
    rw [P1] at h5
    exact h.2.1 t' i c h3 h4 h5
  · rw [P1] at h4
    have b1' := wy_b1 hI t'
    by_cases et : t' = t
    · subst et
      have q6 : wy_rn P t' by_ (P 1 t').toNat 6 t' = wy_ct P t' (P 2 t').toNat := by
        simp only [wy_rn]
        rw [if_pos (by simp)]
      have q8 : ∀ Z : wq_St, wy_rn Z t' by_ (P 1 t').toNat 8 (3 * t' + c) = wy_le Z t' by_ c (Z 2 t').toNat := fun Z => by
        simp only [wy_rn]
        rw [if_neg (by omega), if_pos (by omega), if_neg (by omega), if_pos (by simp), show 3 * t' + c - 3 * t' = c by omega]
      have q9 : ∀ Z : wq_St, wy_rn Z t' by_ (P 1 t').toNat 9 (3 * t' + c) = wy_gr Z t' by_ c (Z 2 t').toNat := fun Z => by
        simp only [wy_rn]
        rw [if_neg (by omega), if_pos (by omega), if_neg (by omega), if_neg (by omega), if_pos (by simp), show 3 * t' + c - 3 * t' = c by omega]
      rw [q6, q8, q8, q9, q9, e2]
      have hl := wz_lg (by_ := by_) h h3 h4 (P 2 t').toNat (by omega)
      have h0 := wz_ns0 (t := t') hI h1 h2 (P 2 t').toNat
      exact ⟨fun z => hl.1 (h0.mpr z), fun z => hl.2 (fun z' => z (h0.mp z'))⟩
    · have q : ∀ (Z : wq_St) (f : Nat), f = 8 ∨ f = 9 → wy_rn Z t by_ (P 1 t).toNat f (3 * t' + c) = Z f (3 * t' + c) := fun Z f hf => by
        simp only [wy_rn]
        rw [if_neg (by omega), if_neg (by omega)]
      have q6 : wy_rn P t by_ (P 1 t).toNat 6 t' = P 6 t' := by
        simp only [wy_rn]
        rw [if_neg (by omega)]
        by_cases ci : 3 * t ≤ t' ∧ t' < 3 * t + (P 1 t).toNat
        · rw [if_pos ci, if_neg (by decide), if_neg (by decide), if_neg (by decide)]
        · rw [if_neg ci]
      rw [q6, q P 8 (by omega), q P 9 (by omega), q Q 8 (by omega), q Q 9 (by omega)]
      exact h.2.2.1 t' c h3 h4
  · rw [wy_rn_o (by decide)] at h4 h5
    rw [wy_rn_o (by decide), wy_rn_o (by decide)]
    exact h.2.2.2 r k h3 h4 h5
/-- what does not touch values, counts told and numbers -/
theorem wz_set (h : wz_L d P Q) {f i : Nat} (v : Int) (hf : f ≠ 1 ∧ f ≠ 2 ∧ f ≠ 4 ∧ f ≠ 6 ∧ f ≠ 8 ∧ f ≠ 9 ∧ f ≠ 15 ∧ f ≠ 16 ∧ f ≠ 19) : wz_L d (wq_set P f i v) (wq_set Q f i v) := by
  obtain ⟨hE, hV, hG, hN⟩ := h
  refine ⟨fun g j n4 n8 n9 n19 n25 => ?_, fun t' i' c h3 h4 h5 => ?_, fun t' c h3 h4 => ?_, fun r' k h3 h4 h5 => ?_⟩
  · by_cases e : g = f ∧ j = i
    · rw [wy_set_at e.1 e.2, wy_set_at e.1 e.2]
    · rw [wy_set_ne e, wy_set_ne e]
      exact hE g j n4 n8 n9 n19 n25
  · rw [wy_set_ne (by omega)] at h4 h5
    rw [wy_set_ne (by omega), wy_set_ne (by omega)]
    exact hV t' i' c h3 h4 h5
  · rw [wy_set_ne (by omega)] at h4
    rw [wy_set_ne (by omega), wy_set_ne (by omega), wy_set_ne (by omega), wy_set_ne (by omega), wy_set_ne (by omega)]
    exact hG t' c h3 h4
  · rw [wy_set_ne (by omega)] at h4 h5
    rw [wy_set_ne (by omega), wy_set_ne (by omega)]
    exact hN r' k h3 h4 h5
/-- kept sums are not held against each other -/
theorem wz_set25 (h : wz_L d P Q) {i j : Nat} (v v' : Int) : wz_L d (wq_set P 25 i v) (wq_set Q 25 j v') := by
  obtain ⟨hE, hV, hG, hN⟩ := h
  refine ⟨fun g k n4 n8 n9 n19 n25 => ?_, fun t' i' c h3 h4 h5 => ?_, fun t' c h3 h4 => ?_, fun r' k h3 h4 h5 => ?_⟩
  · rw [wy_set_ne (by omega), wy_set_ne (by omega)]
    exact hE g k n4 n8 n9 n19 n25
  · rw [wy_set_ne (by omega)] at h4 h5
    rw [wy_set_ne (by omega), wy_set_ne (by omega)]
    exact hV t' i' c h3 h4 h5
  · rw [wy_set_ne (by omega)] at h4
    rw [wy_set_ne (by omega), wy_set_ne (by omega), wy_set_ne (by omega), wy_set_ne (by omega), wy_set_ne (by omega)]
    exact hG t' c h3 h4
  · rw [wy_set_ne (by omega)] at h4 h5
    rw [wy_set_ne (by omega), wy_set_ne (by omega)]
    exact hN r' k h3 h4 h5
end
