/-! NIGHTS: the line of the reports that are due -/
/-- a is run ahead of b -/
def wy_bf (P : wq_St) (a b : Nat) : Prop := P 11 b < P 11 a ∨ (P 11 a = P 11 b ∧ a < b)
/-- ln is the line of the due reports below n, W of them -/
def wy_ln (P : wq_St) (n W : Nat) (ln : Nat → Nat) : Prop := W ≤ n ∧ (∀ i, i < W → ln i < n ∧ P 12 (ln i) ≠ 0) ∧ (∀ i j, i < j → j < W → wy_bf P (ln i) (ln j)) ∧ ∀ r, r < n → P 12 r ≠ 0 → ∃ i, i < W ∧ ln i = r
section
variable {P S : wq_St} {W n : Nat} {ln : Nat → Nat}
theorem wy_ln_ins (h : wy_ln P n W ln) {p : Nat} (hp : p ≤ W) (hd : P 12 n ≠ 0) (hlo : ∀ j, j < p → P 11 n ≤ P 11 (ln j)) (hhi : ∀ j, p ≤ j → j < W → P 11 (ln j) < P 11 n) : wy_ln P (n + 1) (W + 1) (fun j => if j < p then ln j else if j = p then n else ln (j - 1)) := by
  obtain ⟨h1, h2, h3, h4⟩ := h
  refine ⟨by omega, fun i hi => ?_, fun i j hij hj => ?_, fun r hr hdr => ?_⟩
  · dsimp only
    by_cases c1 : i < p
    · rw [if_pos c1]
      have := h2 i (by omega)
      exact ⟨by omega, this.2⟩
    · rw [if_neg c1]
      by_cases c2 : i = p
      · rw [if_pos c2]
        exact ⟨by omega, hd⟩
      · rw [if_neg c2]
        have := h2 (i - 1) (by omega)
        exact ⟨by omega, this.2⟩
  · dsimp only
    by_cases c1 : j < p
    · rw [if_pos c1, if_pos (by omega)]
      exact h3 i j hij (by omega)
    · rw [if_neg c1]
      by_cases c2 : j = p
      · rw [if_pos c2, if_pos (by omega)]
        have := hlo i (by omega)
        have := (h2 i (by omega)).1
        unfold wy_bf
        omega
      · rw [if_neg c2]
        by_cases c3 : i < p
        · rw [if_pos c3]
          exact h3 i (j - 1) (by omega) (by omega)
        · rw [if_neg c3]
          by_cases c4 : i = p
          · rw [if_pos c4]
            exact Or.inl (hhi (j - 1) (by omega) (by omega))
          · rw [if_neg c4]
            exact h3 (i - 1) (j - 1) (by omega) (by omega)
  · by_cases e : r = n
    · exact ⟨p, by omega, by dsimp only; rw [if_neg (by omega), if_pos rfl, e]⟩
    · obtain ⟨i, hi, hl⟩ := h4 r (by omega) hdr
      by_cases c : i < p
      · exact ⟨i, by omega, by dsimp only; rw [if_pos c, hl]⟩
      · exact ⟨i + 1, by omega, by dsimp only; rw [if_neg (by omega), if_neg (by omega), Nat.add_sub_cancel, hl]⟩
/-- the line as the class holds it -/
def wy_la (S : wq_St) (W : Nat) (ln : Nat → Nat) : Prop := ∀ i, i < W → S 283 i = (ln i : Int)
theorem wy_x_insert (hI : wy_iv P) (hln : wy_ln P n W ln) (hn : n < 8) (hd : P 12 n ≠ 0) (kx : Int → wq_St → Option (Int × wq_St)) : ∀ (fuel p : Nat) (S : wq_St), p < fuel → p ≤ W → wy_R wy_al S P → (∀ i, i < p → S 283 i = (ln i : Int)) → (∀ i, p < i → i ≤ W → S 283 i = (ln (i - 1) : Int)) → (∀ j, p ≤ j → j < W → P 11 (ln j) < P 11 n) →
    ∃ (p' : Nat) (S' : wq_St), l_X2_lineUpDueReports_27 (W : Int) (n : Int) kx fuel (p : Int) S = kx (p' : Int) S' ∧ p' ≤ p ∧ wy_R wy_al S' P ∧ (∀ k j, k ≠ 283 → S' k j = S k j) ∧ (∀ i : Nat, i < p' → S' 283 i = (ln i : Int)) ∧ (∀ i : Nat, p' < i → i ≤ W → S' 283 i = (ln (i - 1) : Int)) ∧ (∀ j : Nat, p' ≤ j → j < W → P 11 (ln j) < P 11 n) ∧ (∀ j : Nat, j < p' → P 11 n ≤ P 11 (ln j))
  | 0, p, S, h, _, _, _, _, _ => by omega
  | fuel + 1, p, S, hf, hp, hR, hlo, hhi, hpen => by
    obtain ⟨h1, h2, h3, h4⟩ := hln
    rw [l_X2_lineUpDueReports_27_s]
    unfold b_X2_lineUpDueReports_27
    rw [wq_w_id (x := (p : Int)) (by omega) (by omega)]
    by_cases hp0 : p = 0
    · rw [if_pos (by omega)]
      exact ⟨p, S, rfl, Nat.le_refl _, hR, fun _ _ _ => rfl, hlo, hhi, hpen, fun j hj => by omega⟩
    · have hl := hlo (p - 1) (by omega)
      have hlt := (h2 (p - 1) (by omega)).1
      have b11 := wy_b11 hI n
      have b11' := wy_b11 hI (ln (p - 1))
      have et : ((p : Int) - 1).toNat = p - 1 := by omega
      rw [if_neg (by omega), wy_ix (by omega) (by omega) (by omega), et, hl, wy_ix (by omega) (by omega) (by omega), Int.toNat_natCast, wy_ix (by omega) (by omega) (by omega), Int.toNat_natCast, wy_c11 hR (by omega), wy_c11 hR (by omega), wq_w_id (by omega) (by omega), wq_w_id (by omega) (by omega)]
      by_cases hc : P 11 n ≤ P 11 (ln (p - 1))
      · rw [if_pos hc]
        refine ⟨p, S, rfl, Nat.le_refl _, hR, fun _ _ _ => rfl, hlo, hhi, hpen, fun j hj => ?_⟩
        by_cases e : j = p - 1
        · rw [e]; exact hc
        · have := h3 j (p - 1) (by omega) (by omega)
          unfold wy_bf at this
          omega
      · rw [if_neg hc, wy_ix (by omega) (by omega) (by omega), et, wy_ix (by omega) (by omega) (by omega), Int.toNat_natCast, wy_lt, hl]
        have ep : (p : Int) + (-1) = ((p - 1 : Nat) : Int) := by omega
        rw [ep]
        obtain ⟨p', S', e1, e2, e3, e4, e5, e6, e7, e8⟩ := wy_x_insert hI ⟨h1, h2, h3, h4⟩ hn hd kx fuel (p - 1) (wq_set S 283 p (ln (p - 1) : Int)) (by omega) (by omega) (wy_R_scr hR (by unfold wy_scr; omega)) (fun i hi => by rw [wy_set_ne (by omega)]; exact hlo i (by omega)) (fun i hi1 hi2 => by
          by_cases e : i = p
          · rw [wy_set_at rfl e, e]
          · rw [wy_set_ne (by omega)]
            exact hhi i (by omega) hi2) (fun j hj1 hj2 => by
          by_cases e : j = p - 1
          · rw [e]; omega
          · exact hpen j (by omega) hj2)
        exact ⟨p', S', e1, by omega, e3, fun k j hk => by rw [e4 k j hk, wy_set_ne (by omega)], e5, e6, e7, e8⟩
theorem wy_x_line (hI : wy_iv P) (hR : wy_R wy_al S P) : ∃ (W : Nat) (ln : Nat → Nat) (S' : wq_St), f_X2_lineUpDueReports S = some ((W : Int), S') ∧ wy_ln P 8 W ln ∧ wy_la S' W ln ∧ wy_R wy_al S' P := by
  unfold f_X2_lineUpDueReports
  have key := wy_up (fun n i (q : Nat × (Nat → Nat) × wq_St) => ∃ (W : Nat) (ln : Nat → Nat) (S' : wq_St), l_X2_lineUpDueReports_4 (fun u12 S13 => some (u12, S13)) n (q.1 : Int) (i : Int) q.2.2 = some ((W : Int), S') ∧ wy_ln P 8 W ln ∧ wy_la S' W ln ∧ wy_R wy_al S' P) 8 (fun i q => wy_ln P i q.1 q.2.1 ∧ wy_la q.2.2 q.1 q.2.1 ∧ wy_R wy_al q.2.2 P) ?_ ?_ wq_fu 0 (0, id, S) (by omega) (wy_fu' (by omega)) ⟨⟨Nat.le_refl _, fun i hi => by omega, fun i j _ hj => by omega, fun r hr => by omega⟩, fun i hi => by omega, hR⟩
  · exact key
  · intro n i ⟨W, ln, S1⟩ hi ⟨hl, ha, hr⟩ ih
    dsimp only at hl ha hr ih ⊢
    have b12 := wy_b12 hI i
    have e : ((i : Int) + 1) = ((i + 1 : Nat) : Int) := by omega
    have w8 : wq_w 8 = 8 := rfl
    rw [l_X2_lineUpDueReports_4_s]
    unfold b_X2_lineUpDueReports_4
    rw [w8, wq_w_id (x := (i : Int)) (by omega) (by omega), if_neg (by omega), wy_ix (by omega) (by omega) (by omega), Int.toNat_natCast, wy_c12 hr hi, wq_w_id (by omega) (by omega), e]
    by_cases hd : P 12 i = 0
    · rw [if_pos hd]
      have hl' : wy_ln P (i + 1) W ln := by
        refine ⟨by have := hl.1; omega, fun j hj => ?_, hl.2.2.1, fun r hr' hdr => ?_⟩
        · have := hl.2.1 j hj
          exact ⟨by omega, this.2⟩
        · by_cases er : r = i
          · rw [er] at hdr; exact absurd hd hdr
          · exact hl.2.2.2 r (by omega) hdr
      exact ih (W, ln, S1) ⟨hl', ha, hr⟩
    · rw [if_neg hd]
      have hW := hl.1
      obtain ⟨p', S', e1, e2, e3, e4, e5, e6, e7, e8⟩ := wy_x_insert hI hl hi hd (fun u8 S9 => wq_ix u8 8 fun t10 => wq_lt (wq_set S9 283 t10 (i : Int)) fun S11 => l_X2_lineUpDueReports_4 (fun u12 S13 => some (u12, S13)) n ((W : Int) + 1) ((i + 1 : Nat) : Int) S11) wq_fu W S1 (wy_fu (by omega)) (Nat.le_refl _) hr ha (fun i h1 h2 => by omega) (fun j h1 h2 => by omega)
      rw [e1]
      rw [wy_ix (by omega) (by omega) (by omega), Int.toNat_natCast, wy_lt]
      have eW : ((W : Int) + 1) = ((W + 1 : Nat) : Int) := by omega
      rw [eW]
      have ha' : wy_la (wq_set S' 283 p' (i : Int)) (W + 1) (fun j => if j < p' then ln j else if j = p' then i else ln (j - 1)) := fun j hj => by
        show wq_set S' 283 p' (i : Int) 283 j = ((if j < p' then ln j else if j = p' then i else ln (j - 1) : Nat) : Int)
        by_cases c1 : j < p'
        · rw [if_pos c1, wy_set_ne (by omega)]
          exact e5 j c1
        · rw [if_neg c1]
          by_cases c2 : j = p'
          · rw [if_pos c2, wy_set_at rfl c2]
          · rw [if_neg c2, wy_set_ne (by omega)]
            exact e6 j (by omega) (by omega)
      exact ih (W + 1, _, wq_set S' 283 p' (i : Int)) ⟨wy_ln_ins hl e2 hd e8 e7, ha', wy_R_scr e3 (by unfold wy_scr; omega)⟩
  · intro n ⟨W, ln, S1⟩ ⟨hl, ha, hr⟩
    dsimp only at hl ha hr ⊢
    rw [l_X2_lineUpDueReports_4_s]
    unfold b_X2_lineUpDueReports_4
    rw [if_pos (by decide)]
    exact ⟨W, ln, S1, rfl, hl, ha, hr⟩
end
