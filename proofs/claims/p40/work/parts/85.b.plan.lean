/-! TWO STORES: plans are the same -/
section
variable {P Q : wq_St} {d : Int} {r t s : Nat} {o w : Nat → Int} {by_ : Int}
theorem wz_tb (h : wz_E P Q) (x : Int) : wy_tb Q r x = wy_tb P r x := by
  unfold wy_tb
  rw [wz_e h 14 _ (by decide)]
theorem wz_cs (h : wz_E P Q) (p : Int → Int) (k : Nat) : wy_cs p Q r k = wy_cs p P r k := by
  unfold wy_cs
  rw [wz_e h 16 _ (by decide), wz_e h 17 _ (by decide), wz_e h 20 _ (by decide)]
theorem wz_as (h : wz_E P Q) (k : Nat) : wy_as Q r o s k ↔ wy_as P r o s k := by
  unfold wy_as
  rw [wz_cs h]
theorem wz_us (h : wz_E P Q) (c : Int) (k : Nat) : wy_us Q r o s c k ↔ wy_us P r o s c k := by
  unfold wy_us
  rw [wz_as h, wz_e h 16 _ (by decide), wz_e h 17 _ (by decide), wz_e h 18 _ (by decide), wz_e h 21 _ (by decide)]
theorem wz_uo (h : wz_E P Q) (c : Int) : ∀ n : Nat, wy_uo Q r o s c n = wy_uo P r o s c n
  | 0 => rfl
  | n + 1 => by
    simp only [wy_uo]
    rw [wz_uo h c n]
    by_cases h0 : wy_uo P r o s c n ≠ -1
    · rw [if_pos h0, if_pos h0]
    · rw [if_neg h0, if_neg h0]
      by_cases h1 : wy_us P r o s c n
      · rw [if_pos h1, if_pos ((wz_us h c n).mpr h1)]
      · rw [if_neg h1, if_neg (fun h' => h1 ((wz_us h c n).mp h'))]
theorem wz_ce (h : wz_E P Q) (k : Nat) : wy_ce Q r k = wy_ce P r k := by
  unfold wy_ce
  rw [wz_tb h, wz_e h 17 _ (by decide), wz_e h 18 _ (by decide)]
theorem wz_ce2 (h : wz_E P Q) (k : Nat) : wy_ce2 Q r k = wy_ce2 P r k := by
  unfold wy_ce2
  rw [wz_tb h, wz_e h 20 _ (by decide), wz_e h 21 _ (by decide)]
theorem wz_cg (hI : wy_iv P) (h : wz_L d P Q) (hC : wz_C P) (hr : r < 8) {k : Nat} (hk : (k : Int) < P 15 r) (ch : Int) (h0 : P 16 (6 * r + k) ≠ 3 → P 6 (wy_tb P r (P 17 (6 * r + k))) = 0 → ch = 0) : wy_cg Q r k ch = wy_cg P r k ch := by
  have hcol := (hC.1 r k hr hk).1
  have b18 := wy_b18 hI (6 * r + k)
  have ht := wy_tb_lt (r := r) hI (P 17 (6 * r + k))
  have hG := h.2.2.1 (wy_tb P r (P 17 (6 * r + k))) (P 18 (6 * r + k)).toNat ht (by omega)
  rw [show 3 * wy_tb P r (P 17 (6 * r + k)) + (P 18 (6 * r + k)).toNat = wy_ce P r k from rfl] at hG
  unfold wy_cg
  rw [wz_ce h.1, wz_ce2 h.1, wz_e h.1 16 _ (by decide), wz_e h.1 7 _ (by decide), wz_e h.1 7 _ (by decide)]
  by_cases k0 : P 16 (6 * r + k) = 0
  · rw [if_pos k0, if_pos k0]
  · rw [if_neg k0, if_neg k0]
    by_cases k1 : P 16 (6 * r + k) = 1
    · rw [if_pos k1, if_pos k1]
      have hn := h.2.2.2 r k hr hk (by omega)
      by_cases z : P 6 (wy_tb P r (P 17 (6 * r + k))) = 0
      · rw [h0 (by omega) z, Int.zero_mul, Int.zero_mul, Int.zero_tdiv, Int.zero_tdiv]
      · obtain ⟨g1, g2⟩ := hG.2 z
        rw [show Q 19 (6 * r + k) - Q 8 (wy_ce P r k) = P 19 (6 * r + k) - P 8 (wy_ce P r k) by rw [hn, g1]; omega, show Q 9 (wy_ce P r k) - Q 8 (wy_ce P r k) = P 9 (wy_ce P r k) - P 8 (wy_ce P r k) by rw [g1, g2]; omega]
    · rw [if_neg k1, if_neg k1]
      by_cases k2 : P 16 (6 * r + k) = 2
      · rw [if_pos k2, if_pos k2]
        have hn := h.2.2.2 r k hr hk (by omega)
        by_cases z : P 6 (wy_tb P r (P 17 (6 * r + k))) = 0
        · rw [h0 (by omega) z, Int.zero_mul, Int.zero_mul, Int.zero_tdiv, Int.zero_tdiv]
        · obtain ⟨g1, g2⟩ := hG.2 z
          rw [show Q 9 (wy_ce P r k) - Q 19 (6 * r + k) = P 9 (wy_ce P r k) - P 19 (6 * r + k) by rw [hn, g2]; omega, show Q 9 (wy_ce P r k) - Q 8 (wy_ce P r k) = P 9 (wy_ce P r k) - P 8 (wy_ce P r k) by rw [g1, g2]; omega]
      · rw [if_neg k2, if_neg k2]
theorem wz_bh (hI : wy_iv P) (h : wz_L d P Q) (hC : wz_C P) (hr : r < 8) (hs : s < 3) {ch : Int} (hc : 0 ≤ ch) (h0 : P 6 (wy_tb P r (o s)) = 0 → ch = 0) : ∀ n : Nat, (n : Int) ≤ P 15 r → wy_bh Q r o s n ch = wy_bh P r o s n ch
  | 0, _ => rfl
  | n + 1, hn => by
    simp only [wy_bh]
    rw [wz_bh hI h hC hr hs hc h0 n (by omega)]
    by_cases ha : wy_as P r o s n
    · rw [if_pos ha, if_pos ((wz_as h.1 n).mpr ha)]
      refine wz_cg hI h hC hr (by omega) _ (fun k3 z => ?_)
      have hp : wy_ps o (P 17 (6 * r + n)) = (s : Int) := by
        have ha' : wy_cs (wy_ps o) P r n = (s : Int) := ha
        unfold wy_cs at ha'
        rw [if_neg (fun h' => k3 h'.1)] at ha'
        exact ha'
      rw [← wy_ps_o hs hp] at z
      have hz := h0 z
      have hb := wy_bh_b hI (r := r) (o := o) (s := s) hc n
      omega
    · rw [if_neg ha, if_neg (fun h' => ha ((wz_as h.1 n).mp h'))]
theorem wz_nt (hI : wy_iv P) (h : wz_L d P Q) (hC : wz_C P) (hr : r < 8) (hs : s < 3) {ch : Int} (hc : 0 ≤ ch) : wy_nt Q r o s ch = wy_nt P r o s ch := by
  have b15 := wy_b15 hI r
  have b6 := wy_b6 hI (wy_tb P r (o s))
  unfold wy_nt
  rw [wz_tb h.1, wz_e h.1 15 _ (by decide), wz_e h.1 6 _ (by decide)]
  exact wz_bh hI h hC hr hs (Int.mul_nonneg hc b6.1) (fun z => by rw [z, Int.mul_zero]) _ (by omega)
theorem wz_bw (h : wz_E P Q) {ch : Int} : wy_bw Q r o s ch = wy_bw P r o s ch := by
  have e : wy_wy Q r o s ch = wy_wy P r o s ch := funext fun i => by
    cases i with
    | zero =>
      simp only [wy_wy]
      rw [wz_tb h, wz_e h 6 _ (by decide)]
    | succ i =>
      simp only [wy_wy]
      unfold wy_wi
      rw [wz_tb h, wz_e h 1 _ (by decide), wz_e h 5 _ (by decide), wz_e h 6 _ (by decide), wz_e h 7 _ (by decide), wz_e h 15 _ (by decide), wz_uo h]
  unfold wy_bw
  rw [e]
theorem wz_T (hI : wy_iv P) (h : wz_L d P Q) (hC : wz_C P) (hr : r < 8) : ∀ (n s : Nat) (o w : Nat → Int) (ch sp : Int), n + s ≤ 3 → 0 ≤ ch → wy_T Q r n s o w ch sp = wy_T P r n s o w ch sp
  | 0, _, _, _, _, _, _, _ => rfl
  | n + 1, s, o, w, ch, sp, hn, hc => by
    simp only [wy_T]
    rw [wz_e h.1 13 _ (by decide)]
    refine wy_mf_congr (fun x _ => ?_)
    by_cases hx : wy_ps o (x : Int) < (s : Int)
    · rw [if_pos hx, if_pos hx]
    · have b6 := wy_b6 hI (wy_tb P r (wy_ud o s (x : Int) s))
      have hm : 0 ≤ ch * P 6 (wy_tb P r (wy_ud o s (x : Int) s)) := Int.mul_nonneg hc b6.1
      rw [if_neg hx, if_neg hx, wz_bw h.1, wz_nt hI h hC hr (by omega) hc]
      exact wz_T hI h hC hr n (s + 1) _ _ _ _ (by omega) (wy_bh_b hI hm _).1
theorem wz_pp (hI : wy_iv P) (h : wz_L d P Q) (hC : wz_C P) (hr : r < 8) : wy_pp Q r = wy_pp P r := by
  have b13 := wy_b13 hI r
  have e : wy_pn Q r = wy_pn P r := by
    unfold wy_pn
    rw [wz_e h.1 13 _ (by decide)]
    exact wz_T hI h hC hr _ 0 _ _ _ _ (by omega) (by decide)
  unfold wy_pp
  rw [e]
theorem wz_ft (hI : wy_iv P) (h : wz_L d P Q) (hC : wz_C P) (hr : r < 8) : wy_ft Q r = wy_ft P r := by
  unfold wy_ft
  rw [wz_pp hI h hC hr]
end
