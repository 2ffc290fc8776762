/-! NIGHTS: the model finds the next of the line; bits -/
abbrev wy_bt (b : Int) (r : Nat) : Prop := wq_w (wq_and (wq_shr b (r : Int)) 1) = wq_w 1
def wy_bb (b : Int) (r : Nat) : Bool := decide (wq_w (wq_and (wq_shr b (r : Int)) 1) = wq_w 1)
def wy_bc (m s : Nat) : Bool := decide (0 ≤ wq_or (m : Int) (wq_shl 1 (s : Int))) && decide (wq_or (m : Int) (wq_shl 1 (s : Int)) < 256) && decide (wq_or (m : Int) 0 = (m : Int)) && wy_allb (fun r => wy_bb (wq_or (m : Int) (wq_shl 1 (s : Int))) r == (Nat.beq r s || wy_bb (m : Int) r)) 8
theorem wy_bits : wy_allb (fun m => wy_allb (fun s => wy_bc m s) 8) 256 = true := by decide +kernel
theorem wy_bits0 : wy_allb (fun r => !(wy_bb 0 r)) 8 = true := by decide +kernel
theorem wy_bb_t {b : Int} {r : Nat} : wy_bb b r = true ↔ wy_bt b r := by
  unfold wy_bb
  exact decide_eq_true_iff
theorem wy_bt_0 {r : Nat} (hr : r < 8) : ¬wy_bt 0 r := fun h => by
  have h1 := wy_allb_t wy_bits0 r hr
  rw [wy_bb_t.mpr h] at h1
  cases h1
theorem wy_bt_or {b : Int} {s : Nat} (hb : 0 ≤ b ∧ b < 256) (hs : s < 8) : (∀ r, r < 8 → (wy_bt (wq_or b (wq_shl 1 (s : Int))) r ↔ r = s ∨ wy_bt b r)) ∧ 0 ≤ wq_or b (wq_shl 1 (s : Int)) ∧ wq_or b (wq_shl 1 (s : Int)) < 256 ∧ wq_or b 0 = b := by
  have h1 := wy_allb_t (wy_allb_t wy_bits b.toNat (by omega)) s hs
  have e : ((b.toNat : Nat) : Int) = b := by omega
  unfold wy_bc at h1
  rw [e] at h1
  simp only [Bool.and_eq_true, decide_eq_true_eq] at h1
  obtain ⟨⟨⟨h2, h3⟩, h4⟩, h5⟩ := h1
  refine ⟨fun r hr => ?_, h2, h3, h4⟩
  have h6 := wy_allb_t h5 r hr
  have h7 : wy_bb (wq_or b (wq_shl 1 (s : Int))) r = (Nat.beq r s || wy_bb b r) := by simpa using h6
  rw [← wy_bb_t, h7, Bool.or_eq_true, wy_bb_t, Nat.beq_eq]
section
variable {P Q S M : wq_St} {r D W i : Nat} {ln : Nat → Nat}
def wy_at (ln : Nat → Nat) (W i : Nat) : Int := if i < W then (ln i : Int) else -1
def wy_be (ln : Nat → Nat) (i : Nat) : Int := if i = 0 then -1 else (ln (i - 1) : Int)
def wy_ca (P : wq_St) (ln : Nat → Nat) (i c : Nat) : Prop := P 12 c ≠ 0 ∧ (i = 0 ∨ wy_bf P (ln (i - 1)) c)
theorem wy_bf_a {a b : Nat} (h : wy_bf P a b) : ¬wy_bf P b a := by
  unfold wy_bf at h ⊢
  omega
theorem wy_ca_ln (hln : wy_ln P 8 W ln) (hi : i ≤ W) {p : Nat} (hp : p < W) : wy_ca P ln i (ln p) ↔ i ≤ p := by
  obtain ⟨h1, h2, h3, h4⟩ := hln
  constructor
  · rintro ⟨-, h⟩
    rcases h with h | h
    · omega
    · by_cases c : i ≤ p
      · exact c
      · by_cases e : p = i - 1
        · rw [e] at h
          exact absurd h (wy_bf_a h)
        · exact absurd h (wy_bf_a (h3 p (i - 1) (by omega) (by omega)))
  · intro h
    refine ⟨(h2 p hp).2, ?_⟩
    by_cases e : i = 0
    · exact Or.inl e
    · exact Or.inr (h3 (i - 1) p (by omega) hp)
theorem wy_m_next (hI : wy_iv P) (hln : wy_ln P 8 W ln) (hi : i ≤ W) (h28 : M 0 28 = P 0 28) (h11 : ∀ j, M 11 j = P 11 j) (h12 : ∀ j, M 12 j = P 12 j) : f_X9_dueBehind (wy_be ln i) M = some (wy_at ln W i, M) := by
  have hO := hI.2.1
  unfold wy_iO at hO
  have hln' := hln
  obtain ⟨g1, g2, g3, g4⟩ := hln'
  unfold f_X9_dueBehind
  have key := wy_up (fun n k (y : Int) => l_X9_dueBehind_4 (wy_be ln i) (fun u8 S9 => some (u8, S9)) n y (k : Int) M = some (wy_at ln W i, M)) (P 0 28).toNat (fun k y => (y = -1 ∧ ∀ c, c < k → ¬wy_ca P ln i c) ∨ ∃ m : Nat, y = (m : Int) ∧ m < k ∧ wy_ca P ln i m ∧ ∀ c, c < k → wy_ca P ln i c → c ≠ m → wy_bf P m c) ?_ ?_ wq_fu 0 (-1) (by omega) (wy_fu' (by omega)) (Or.inl ⟨rfl, fun c hc => by omega⟩)
  · exact key
  · intro n k y hk hv ih
    have hk8 : k < 8 := by omega
    have b11 := wy_b11 hI k
    have b12 := wy_b12 hI k
    have e : ((k : Int) + 1) = ((k + 1 : Nat) : Int) := by omega
    have wn : wq_w (-1) = -1 := rfl
    have w0 : wq_w 0 = 0 := rfl
    have w1 : wq_w 1 = 1 := rfl
    have stay : ¬wy_ca P ln i k → l_X9_dueBehind_4 (wy_be ln i) (fun u8 S9 => some (u8, S9)) n y ((k + 1 : Nat) : Int) M = some (wy_at ln W i, M) := fun hn => ih y (by
      rcases hv with ⟨hy, h⟩ | ⟨m, hy, hm, hc, h⟩
      · refine Or.inl ⟨hy, fun c hc => ?_⟩
        by_cases ec : c = k
        · rw [ec]; exact hn
        · exact h c (by omega)
      · refine Or.inr ⟨m, hy, by omega, hc, fun c hcl hcc hne => ?_⟩
        by_cases ec : c = k
        · rw [ec] at hcc; exact absurd hcc hn
        · exact h c (by omega) hcc hne)
    have j0 : ∀ c1 kx, P 12 k = 0 ∨ ¬(i = 0 ∨ wy_bf P (ln (i - 1)) k) → j_X9_dueBehind_57 kx (l_X9_dueBehind_4 (wy_be ln i) (fun u8 S9 => some (u8, S9)) n) c1 y (k : Int) 0 M = some (wy_at ln W i, M) := fun c1 kx h => by
      unfold j_X9_dueBehind_57
      rw [wy_ix (by omega) (by omega) (by omega), Int.toNat_natCast, h12, wq_w_id (x := P 12 k) (by omega) (by omega), w0, e]
      have hn : ¬wy_ca P ln i k := fun hc => h.elim hc.1 (fun h => h hc.2)
      by_cases c0 : P 12 k = 0
      · rw [if_pos c0]
        exact stay hn
      · rw [if_neg c0, if_pos rfl]
        exact stay hn
    have j1 : ∀ c1 kx, (i = 0 ∨ wy_bf P (ln (i - 1)) k) → j_X9_dueBehind_57 kx (l_X9_dueBehind_4 (wy_be ln i) (fun u8 S9 => some (u8, S9)) n) c1 y (k : Int) 1 M = some (wy_at ln W i, M) := fun c1 kx h => by
      unfold j_X9_dueBehind_57
      rw [wy_ix (by omega) (by omega) (by omega), Int.toNat_natCast, h12, wq_w_id (x := P 12 k) (by omega) (by omega), w1, wn, e]
      by_cases c0 : P 12 k = 0
      · rw [if_pos c0]
        exact stay fun hc => hc.1 c0
      · have hca : wy_ca P ln i k := ⟨c0, h⟩
        rw [if_neg c0, if_neg (by omega)]
        rcases hv with ⟨hy, hh⟩ | ⟨m, hy, hm, hc, hh⟩
        · subst hy
          rw [wn, if_pos rfl]
          exact ih _ (Or.inr ⟨k, rfl, by omega, hca, fun c hcl hcc hne => absurd hcc (hh c (by omega))⟩)
        · subst hy
          have b11m := wy_b11 hI m
          rw [wq_w_id (x := (m : Int)) (by omega) (by omega), if_neg (by omega), wy_ix (by omega) (by omega) (by omega), wy_ix (by omega) (by omega) (by omega), Int.toNat_natCast, Int.toNat_natCast, h11, h11, wq_w_id (by omega) (by omega), wq_w_id (by omega) (by omega)]
          by_cases cp : P 11 k ≤ P 11 m
          · rw [if_pos cp]
            refine ih _ (Or.inr ⟨m, rfl, by omega, hc, fun c hcl hcc hne => ?_⟩)
            by_cases ec : c = k
            · rw [ec]
              unfold wy_bf
              omega
            · exact hh c (by omega) hcc hne
          · rw [if_neg cp]
            refine ih _ (Or.inr ⟨k, rfl, by omega, hca, fun c hcl hcc hne => ?_⟩)
            by_cases ec : c = m
            · rw [ec]
              exact Or.inl (by omega)
            · have := hh c (by omega) hcc ec
              unfold wy_bf at this ⊢
              omega
    rw [l_X9_dueBehind_4_s]
    unfold b_X9_dueBehind_4 j_X9_dueBehind_52 j_X9_dueBehind_56
    rw [h28, wq_w_id (x := P 0 28) (by omega) (by omega), wq_w_id (x := (k : Int)) (by omega) (by omega), if_neg (by omega), wn]
    by_cases hi0 : i = 0
    · have eb : wy_be ln i = -1 := if_pos hi0
      rw [eb, wn, if_pos rfl, ← eb]
      exact j1 _ _ (Or.inl hi0)
    · have eb : wy_be ln i = (ln (i - 1) : Int) := if_neg hi0
      have hl := (g2 (i - 1) (by omega)).1
      have b11l := wy_b11 hI (ln (i - 1))
      have st : ∀ (rec rec' : Int → Int → wq_St → Option (Int × wq_St)) (a b : Option (Int × wq_St)), (wy_bf P (ln (i - 1)) k → a = some (wy_at ln W i, M)) → (¬wy_bf P (ln (i - 1)) k → b = some (wy_at ln W i, M)) → (if P 11 k < P 11 (ln (i - 1)) then a else if P 11 k = P 11 (ln (i - 1)) then (if (k : Int) ≤ (ln (i - 1) : Int) then b else a) else b) = some (wy_at ln W i, M) := fun _ _ a b ha hb => by
        by_cases q1 : P 11 k < P 11 (ln (i - 1))
        · rw [if_pos q1]
          exact ha (Or.inl q1)
        · rw [if_neg q1]
          by_cases q2 : P 11 k = P 11 (ln (i - 1))
          · rw [if_pos q2]
            by_cases q3 : (k : Int) ≤ (ln (i - 1) : Int)
            · rw [if_pos q3]
              exact hb (by unfold wy_bf; omega)
            · rw [if_neg q3]
              exact ha (Or.inr ⟨q2.symm, by omega⟩)
          · rw [if_neg q2]
            exact hb (by unfold wy_bf; omega)
      have e1 : wq_w (wy_be ln i) = (ln (i - 1) : Int) := by rw [eb]; exact wq_w_id (by omega) (by omega)
      have ixe : ∀ (kk : Nat → Option (Int × wq_St)), wq_ix (wy_be ln i) 8 kk = kk (ln (i - 1)) := fun kk => by rw [eb, wy_ix (by omega) (by omega) (by omega), Int.toNat_natCast]
      rw [e1, if_neg (by omega), wy_ix (by omega) (by omega) (by omega), ixe, wy_ix (by omega) (by omega) (by omega), ixe, Int.toNat_natCast, h11, h11, wq_w_id (x := P 11 k) (by omega) (by omega), wq_w_id (x := P 11 (ln (i - 1))) (by omega) (by omega)]
      exact st (fun _ _ _ => none) (fun _ _ _ => none) _ _ (fun h => j1 _ _ (Or.inr h)) (fun h => j0 _ _ (Or.inr (fun h' => h'.elim hi0 h)))
  · intro n y hv
    rw [l_X9_dueBehind_4_s]
    unfold b_X9_dueBehind_4
    rw [h28, wq_w_id (x := P 0 28) (by omega) (by omega), wq_w_id (x := (((P 0 28).toNat : Nat) : Int)) (by omega) (by omega), if_pos (by omega)]
    have hcl : ∀ c, wy_ca P ln i c → c < (P 0 28).toNat := fun c hc => by
      by_cases h : c < (P 0 28).toNat
      · exact h
      · exact absurd (hI.2.2.2.1 c (by omega)) hc.1
    rcases hv with ⟨hy, hh⟩ | ⟨m, hy, hm, hc, hh⟩
    · unfold wy_at
      by_cases c : i < W
      · have := (wy_ca_ln hln hi c).mpr (Nat.le_refl _)
        exact absurd this (hh _ (hcl _ this))
      · rw [if_neg c, hy]
    · obtain ⟨p, hp, hpm⟩ := g4 m (by omega) hc.1
      have hip : i ≤ p := (wy_ca_ln hln hi hp).mp (by rw [hpm]; exact hc)
      have hci := (wy_ca_ln hln hi (p := i) (by omega)).mpr (Nat.le_refl _)
      by_cases e : p = i
      · unfold wy_at
        rw [if_pos (by omega), hy, ← hpm, e]
      · have h1 := g3 i p (by omega) hp
        have ne : ln i ≠ m := fun e' => by
          rw [hpm, e'] at h1
          exact wy_bf_a h1 h1
        have h2 := hh _ (hcl _ hci) hci ne
        rw [hpm] at h1
        exact absurd h1 (wy_bf_a h2)
end
