/-! NIGHTS: the class runs the line -/
def wy_k5 (P : wq_St) (r : Nat) (Q : wq_St) : wq_St := wq_set (wq_set (wq_set (wq_set (wq_set Q 0 31 (Q 0 31 - wy_tr P r)) 24 r (wy_fd P r)) 25 r (wy_sd P r)) 26 r (P 0 29)) 12 r 0
def wy_kp (P : wq_St) (r : Nat) (Q : wq_St) : wq_St := if wy_wr P r then wy_mt P r (wy_k5 P r Q) else wy_k5 P r Q
def wy_ow (P : wq_St) (r : Nat) (Q : wq_St) : wq_St := wy_mt P r (wq_set Q 0 32 (Q 0 32 + P 11 r))
def wy_Qr (P : wq_St) (ln : Nat → Nat) (D : Nat) : Nat → wq_St
  | 0 => P
  | i + 1 => if i < D then wy_kp P (ln i) (wy_Qr P ln D i) else wy_ow P (ln i) (wy_Qr P ln D i)
/-- what is left behind the first i of the line -/
def wy_lf (P : wq_St) (ln : Nat → Nat) (i : Nat) : Int := P 0 31 - wy_su (fun x => wy_tr P (ln x)) i
/-- D of the line are done -/
def wy_dN (P : wq_St) (ln : Nat → Nat) (W D : Nat) : Prop := D ≤ W ∧ (∀ i, i < D → wq_w (wy_tr P (ln i)) ≤ wq_w (wy_lf P ln i)) ∧ (D < W → ¬(wq_w (wy_tr P (ln D)) ≤ wq_w (wy_lf P ln D)))
section
variable {P Q S M : wq_St} {r D W : Nat} {ln : Nat → Nat}
theorem wy_dN_ex : ∀ W, ∃ D, wy_dN P ln W D
  | 0 => ⟨0, by omega, fun i hi => by omega, fun h => by omega⟩
  | W + 1 => by
    obtain ⟨D, h1, h2, h3⟩ := wy_dN_ex W
    by_cases e : D = W
    · subst e
      by_cases c : wq_w (wy_tr P (ln D)) ≤ wq_w (wy_lf P ln D)
      · refine ⟨D + 1, by omega, fun i hi => ?_, fun h => by omega⟩
        by_cases e : i = D
        · rw [e]; exact c
        · exact h2 i (by omega)
      · exact ⟨D, by omega, h2, fun _ => c⟩
    · exact ⟨D, by omega, h2, fun _ => h3 (by omega)⟩
theorem wy_k5_o {f j : Nat} (h : f ≠ 12 ∧ f ≠ 24 ∧ f ≠ 25 ∧ f ≠ 26 ∧ ¬(f = 0 ∧ j = 31)) : wy_k5 P r Q f j = Q f j := by
  unfold wy_k5
  rw [wy_set_ne (by omega), wy_set_ne (by omega), wy_set_ne (by omega), wy_set_ne (by omega), wy_set_ne (by omega)]
theorem wy_kp_n {f j : Nat} (h : f ≠ 10) : wy_kp P r Q f j = wy_k5 P r Q f j := by
  unfold wy_kp
  split
  · exact wy_mt_o h
  · rfl
theorem wy_Qr_o {f j : Nat} (h : f ≠ 10 ∧ f ≠ 12 ∧ f ≠ 24 ∧ f ≠ 25 ∧ f ≠ 26 ∧ ¬(f = 0 ∧ (j = 31 ∨ j = 32))) : ∀ i, wy_Qr P ln D i f j = P f j
  | 0 => rfl
  | i + 1 => by
    simp only [wy_Qr]
    split
    · rw [wy_kp_n h.1, wy_k5_o (by omega), wy_Qr_o h i]
    · unfold wy_ow
      rw [wy_mt_o h.1, wy_set_ne (by omega), wy_Qr_o h i]
theorem wy_Qr_31 : ∀ i, i ≤ D → wy_Qr P ln D i 0 31 = wy_lf P ln i
  | 0, _ => by
    unfold wy_lf
    exact (Int.sub_zero _).symm
  | i + 1, h => by
    simp only [wy_Qr]
    have h1 := wy_Qr_31 i (by omega)
    unfold wy_lf at h1 ⊢
    rw [if_pos (by omega), wy_kp_n (by omega)]
    unfold wy_k5
    rw [wy_set_ne (by omega), wy_set_ne (by omega), wy_set_ne (by omega), wy_set_ne (by omega), wy_set_at rfl rfl, h1]
    simp only [wy_su]
    omega
theorem wy_x_keep (hI : wy_iv P) (hP : wy_R wy_co S P) (hR : wy_R wy_al S Q) (hr : r < 8) (h29 : Q 0 29 = P 0 29) (z2 : S 280 2 = wy_tr P r) (z3 : S 280 3 = wy_fd P r) (z4 : S 280 4 = wy_sd P r) : ∃ S', f_X2_keep (199 + 9 * r) (wy_ft P r) S = some (0, S') ∧ wy_R wy_al S' (wy_kp P r Q) ∧ wy_R wy_co S' P ∧ ∀ j, S' 283 j = S 283 j := by
  unfold f_X2_keep
  rw [wy_lt, wy_lt, wy_lt, wy_lt, wy_lt]
  have q3 : ∀ v, wq_set S 282 8 v 280 3 = wy_fd P r := fun v => by rw [wy_set_ne (by omega), z3]
  have q4 : ∀ v v', wq_set (wq_set S 282 8 v) (199 + 9 * r) 8 v' 280 4 = wy_sd P r := fun v v' => by rw [wy_set_ne (by omega), wy_set_ne (by omega), z4]
  have q6 : ∀ v v' v'', wq_set (wq_set (wq_set S 282 8 v) (199 + 9 * r) 8 v') (199 + 9 * r) 9 v'' 282 6 = P 0 29 := fun v v' v'' => by rw [wy_set_ne (by omega), wy_set_ne (by omega), wy_set_ne (by omega), wy_cG hR, h29]
  have q2 : ∀ v v' v'' v3 v4, wq_set (wq_set (wq_set (wq_set (wq_set S 282 8 v) (199 + 9 * r) 8 v') (199 + 9 * r) 9 v'') (199 + 9 * r) 10 v3) (199 + 9 * r) 7 v4 280 2 = wy_tr P r := fun v v' v'' v3 v4 => by rw [wy_set_ne (by omega), wy_set_ne (by omega), wy_set_ne (by omega), wy_set_ne (by omega), wy_set_ne (by omega), z2]
  rw [q3, q4, q6, q2, wy_cL hR, z2]
  have h5 : wy_R wy_al (wq_set (wq_set (wq_set (wq_set (wq_set S 282 8 (Q 0 31 - wy_tr P r)) (199 + 9 * r) 8 (wy_fd P r)) (199 + 9 * r) 9 (wy_sd P r)) (199 + 9 * r) 10 (P 0 29)) (199 + 9 * r) 7 0) (wy_k5 P r Q) :=
    wy_R_set (wy_R_set (wy_R_set (wy_R_set (wy_R_set hR _ (f₀ := 0) (i₀ := 31) ⟨by decide, fun _ => by omega⟩ rfl rfl) _ (f₀ := 24) (i₀ := r) ⟨hr, fun e => by omega⟩ rfl rfl) _ (f₀ := 25) (i₀ := r) ⟨hr, fun e => by omega⟩ rfl rfl) _ (f₀ := 26) (i₀ := r) ⟨hr, fun e => by omega⟩ rfl rfl) _ (f₀ := 12) (i₀ := r) ⟨hr, fun e => by omega⟩ rfl rfl
  have p5 : wy_R wy_co (wq_set (wq_set (wq_set (wq_set (wq_set S 282 8 (Q 0 31 - wy_tr P r)) (199 + 9 * r) 8 (wy_fd P r)) (199 + 9 * r) 9 (wy_sd P r)) (199 + 9 * r) 10 (P 0 29)) (199 + 9 * r) 7 0) P :=
    wy_R_off (wy_R_off (wy_R_off (wy_R_off (wy_R_off hP (f₀ := 0) (i₀ := 31) ⟨by decide, fun _ => by omega⟩ rfl rfl (by unfold wy_co; omega)) (f₀ := 24) (i₀ := r) ⟨hr, fun e => by omega⟩ rfl rfl (by unfold wy_co; omega)) (f₀ := 25) (i₀ := r) ⟨hr, fun e => by omega⟩ rfl rfl (by unfold wy_co; omega)) (f₀ := 26) (i₀ := r) ⟨hr, fun e => by omega⟩ rfl rfl (by unfold wy_co; omega)) (f₀ := 12) (i₀ := r) ⟨hr, fun e => by omega⟩ rfl rfl (by unfold wy_co; omega)
  have l5 : ∀ j, wq_set (wq_set (wq_set (wq_set (wq_set S 282 8 (Q 0 31 - wy_tr P r)) (199 + 9 * r) 8 (wy_fd P r)) (199 + 9 * r) 9 (wy_sd P r)) (199 + 9 * r) 10 (P 0 29)) (199 + 9 * r) 7 0 283 j = S 283 j := fun j => by
    rw [wy_set_ne (by omega), wy_set_ne (by omega), wy_set_ne (by omega), wy_set_ne (by omega), wy_set_ne (by omega)]
  generalize wq_set (wq_set (wq_set (wq_set (wq_set S 282 8 (Q 0 31 - wy_tr P r)) (199 + 9 * r) 8 (wy_fd P r)) (199 + 9 * r) 9 (wy_sd P r)) (199 + 9 * r) 10 (P 0 29)) (199 + 9 * r) 7 0 = S5 at *
  unfold wy_kp
  obtain ⟨S6, e6, r6, p6, l6⟩ := wy_x_marks hI p5 h5 hr
  have l6' : ∀ j, S6 283 j = S 283 j := fun j => by rw [l6, l5]
  by_cases c1 : wq_w (2 * wy_ft P r) < wq_w (wy_tr P r)
  · rw [if_pos c1, if_pos (Or.inl c1), wy_bd e6]
    exact ⟨S6, rfl, r6, p6, l6'⟩
  · rw [if_neg c1]
    by_cases c2 : wq_w (wy_ft P r) ≤ wq_w (2 * wy_tr P r)
    · rw [if_pos c2, if_neg (fun h => h.elim c1 (fun h => h c2))]
      exact ⟨S5, rfl, h5, p5, l5⟩
    · rw [if_neg c2, if_pos (Or.inr c2), wy_bd e6]
      exact ⟨S6, rfl, r6, p6, l6'⟩
/-- the reports that are done -/
theorem wy_x_done (hI : wy_iv P) (hln : wy_ln P 8 W ln) (hD : wy_dN P ln W D) (hR : wy_R wy_al S P) (hla : wy_la S W ln) (kx : Int → wq_St → Option (Int × wq_St)) : ∃ S', l_X2_runDueReports_7 (W : Int) kx wq_fu 0 S = kx (D : Int) S' ∧ wy_R wy_al S' (wy_Qr P ln D D) ∧ wy_R wy_co S' P ∧ wy_la S' W ln := by
  obtain ⟨hW, hln2, -, -⟩ := hln
  obtain ⟨hDW, hok, hno⟩ := hD
  have key := wy_up (fun n i (s : wq_St) => ∃ S', l_X2_runDueReports_7 (W : Int) kx n (i : Int) s = kx (D : Int) S' ∧ wy_R wy_al S' (wy_Qr P ln D D) ∧ wy_R wy_co S' P ∧ wy_la S' W ln) D (fun i s => wy_R wy_al s (wy_Qr P ln D i) ∧ wy_R wy_co s P ∧ wy_la s W ln) ?_ ?_ wq_fu 0 S (by omega) (wy_fu' (by omega)) ⟨hR, wy_R_co hR, hla⟩
  · exact key
  · intro n i s hi ⟨hs, hp, hl⟩ ih
    have hr := (hln2 i (by omega)).1
    have e : ((i : Int) + 1) = ((i + 1 : Nat) : Int) := by omega
    obtain ⟨S1, S2, e1, e2, e3, z2, z3, z4, hf⟩ := wy_x_run hI hp hr
    have hs2 : wy_R wy_al S2 (wy_Qr P ln D i) := wy_R_fr hs fun k j hk => hf k j fun h => hk (by unfold wy_scr; omega)
    have hp2 : wy_R wy_co S2 P := wy_R_fr hp fun k j hk => hf k j fun h => hk (by unfold wy_scr; omega)
    have hl2 : wy_la S2 W ln := fun x hx => by rw [hf _ _ (by omega)]; exact hl x hx
    obtain ⟨S3, e4, hs3, hp3, hl3⟩ := wy_x_keep hI hp2 hs2 hr (wy_Qr_o (by omega) i) z2 z3 z4
    rw [l_X2_runDueReports_7_s]
    unfold b_X2_runDueReports_7
    rw [wq_w_id (x := (W : Int)) (by omega) (by omega), wq_w_id (x := (i : Int)) (by omega) (by omega), if_neg (by omega), wy_ix (by omega) (by omega) (by omega), Int.toNat_natCast, hl i (by omega), wy_ix (by omega) (by omega) (by omega), Int.toNat_natCast, wy_bd e1, wy_bd e2, z2, wy_cL hs2, wy_Qr_31 i (by omega), if_pos (hok i hi), wy_bd e3, wy_bd e4, e]
    refine ih S3 ⟨?_, hp3, fun x hx => by rw [hl3]; exact hl2 x hx⟩
    simp only [wy_Qr]
    rw [if_pos hi]
    exact hs3
  · intro n s ⟨hs, hp, hl⟩
    rw [l_X2_runDueReports_7_s]
    unfold b_X2_runDueReports_7
    rw [wq_w_id (x := (W : Int)) (by omega) (by omega), wq_w_id (x := (D : Int)) (by omega) (by omega)]
    by_cases c : D = W
    · rw [if_pos (by omega)]
      exact ⟨s, rfl, hs, hp, hl⟩
    · have hr := (hln2 D (by omega)).1
      obtain ⟨S1, S2, e1, e2, e3, z2, z3, z4, hf⟩ := wy_x_run hI hp hr
      have hs2 : wy_R wy_al S2 (wy_Qr P ln D D) := wy_R_fr hs fun k j hk => hf k j fun h => hk (by unfold wy_scr; omega)
      have hp2 : wy_R wy_co S2 P := wy_R_fr hp fun k j hk => hf k j fun h => hk (by unfold wy_scr; omega)
      have hl2 : wy_la S2 W ln := fun x hx => by rw [hf _ _ (by omega)]; exact hl x hx
      rw [if_neg (by omega), wy_ix (by omega) (by omega) (by omega), Int.toNat_natCast, hl D (by omega), wy_ix (by omega) (by omega) (by omega), Int.toNat_natCast, wy_bd e1, wy_bd e2, z2, wy_cL hs2, wy_Qr_31 D (by omega), if_neg (hno (by omega))]
      exact ⟨S2, rfl, hs2, hp2, hl2⟩
/-- the reports that are not done -/
theorem wy_x_undone (hI : wy_iv P) (hln : wy_ln P 8 W ln) (hDW : D ≤ W) (hR : wy_R wy_al S (wy_Qr P ln D D)) (hP : wy_R wy_co S P) (hla : wy_la S W ln) (c2 : Int) (kx : wq_St → Option (Int × wq_St)) : ∃ S', l_X2_runDueReports_79 (W : Int) c2 kx wq_fu (D : Int) S = kx S' ∧ wy_R wy_al S' (wy_Qr P ln D W) := by
  obtain ⟨hW, hln2, -, -⟩ := hln
  have key := wy_up (fun n i (s : wq_St) => ∃ S', l_X2_runDueReports_79 (W : Int) c2 kx n (i : Int) s = kx S' ∧ wy_R wy_al S' (wy_Qr P ln D W)) W (fun i s => D ≤ i ∧ wy_R wy_al s (wy_Qr P ln D i) ∧ wy_R wy_co s P ∧ wy_la s W ln) ?_ ?_ wq_fu D S (by omega) (by unfold wq_fu; omega) ⟨Nat.le_refl _, hR, hP, hla⟩
  · exact key
  · intro n i s hi ⟨hd, hs, hp, hl⟩ ih
    have hr := (hln2 i (by omega)).1
    have e : ((i : Int) + 1) = ((i + 1 : Nat) : Int) := by omega
    rw [l_X2_runDueReports_79_s]
    unfold b_X2_runDueReports_79
    rw [wq_w_id (x := (W : Int)) (by omega) (by omega), wq_w_id (x := (i : Int)) (by omega) (by omega), if_neg (by omega), wy_ix (by omega) (by omega) (by omega), Int.toNat_natCast, hl i (by omega), wy_ix (by omega) (by omega) (by omega), Int.toNat_natCast, wy_lt, wy_cO hs, wy_c11 hs hr, wy_Qr_o (f := 11) (by omega) i]
    have hs1 := wy_R_set (k := 282) (j := 9) hs (wy_Qr P ln D i 0 32 + P 11 (ln i)) (f₀ := 0) (i₀ := 32) ⟨by decide, fun _ => by omega⟩ rfl rfl
    have hp1 := wy_R_off (k := 282) (j := 9) (v := wy_Qr P ln D i 0 32 + P 11 (ln i)) hp (f₀ := 0) (i₀ := 32) ⟨by decide, fun _ => by omega⟩ rfl rfl (by unfold wy_co; omega)
    obtain ⟨S2, e2, hs2, hp2, hl2⟩ := wy_x_marks hI hp1 hs1 hr
    rw [wy_bd e2, e]
    refine ih S2 ⟨by omega, ?_, hp2, fun x hx => ?_⟩
    · simp only [wy_Qr]
      rw [if_neg (by omega)]
      exact hs2
    · rw [hl2]
      exact (wy_set_ne (by omega)).trans (hl x hx)
  · intro n s ⟨hd, hs, hp, hl⟩
    rw [l_X2_runDueReports_79_s]
    unfold b_X2_runDueReports_79
    rw [if_pos (Int.le_refl _)]
    exact ⟨s, rfl, hs⟩
theorem wy_x_rdr (hI : wy_iv P) (hR : wy_R wy_al S P) : ∃ (W D : Nat) (ln : Nat → Nat) (S' : wq_St), wy_ln P 8 W ln ∧ wy_dN P ln W D ∧ f_X2_runDueReports S = some ((D : Int), S') ∧ wy_R wy_al S' (wq_set (wy_Qr P ln D W) 0 29 (P 0 29 + 1)) := by
  obtain ⟨W, ln, S1, e1, hln, hla, hR1⟩ := wy_x_line hI hR
  obtain ⟨D, hD⟩ := @wy_dN_ex P ln W
  unfold f_X2_runDueReports
  rw [wy_bd e1]
  obtain ⟨S2, e2, hs2, hp2, hl2⟩ := wy_x_done hI hln hD hR1 hla (fun u13 S14 => j_X2_runDueReports_77 (W : Int) u13 S14)
  rw [e2]
  unfold j_X2_runDueReports_77
  obtain ⟨S3, e3, hs3⟩ := wy_x_undone hI hln hD.1 hs2 hp2 hl2 (D : Int) (fun S20 => wq_lt (wq_set S20 282 6 ((S20 282 6) + 1)) fun S21 => some ((D : Int), S21))
  rw [e3, wy_lt, wy_cG hs3, wy_Qr_o (by omega) W]
  exact ⟨W, D, ln, _, hln, hD, rfl, wy_R_set hs3 _ (f₀ := 0) (i₀ := 29) ⟨by decide, fun _ => by omega⟩ rfl rfl⟩
end
