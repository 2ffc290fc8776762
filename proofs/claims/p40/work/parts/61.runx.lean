/-! the class runs a plan -/
def wy_f2 (S S' : wq_St) : Prop := ∀ k j, ¬(k = 280 ∨ k = 281) → S' k j = S k j
section
variable {P S : wq_St} {r q s : Nat} {o w : Nat → Int} {g : Nat → Nat}
theorem wy_f2_R {C : Nat → Prop} {S' : wq_St} (h : wy_R C S P) (hf : wy_f2 S S') : wy_R C S' P := wy_R_fr h fun k j hk => hf k j fun h => hk (by unfold wy_scr; omega)
theorem wy_f2_t {S' S'' : wq_St} (h1 : wy_f2 S S') (h2 : wy_f2 S' S'') : wy_f2 S S'' := fun k j hk => by rw [h2 k j hk, h1 k j hk]
theorem wy_f2_s {S' : wq_St} (h1 : wy_f2 S S') {k j : Nat} {v : Int} (hk : k = 280 ∨ k = 281) : wy_f2 S (wq_set S' k j v) := fun k' j' h => by
  rw [wy_set_ne (fun e => h (by omega))]
  exact h1 k' j' h
theorem wy_f2_pf {S' : wq_St} (hq : q + 3 < 280) (h : wy_pf P r q S o w) (hf : wy_f2 S S') : wy_pf P r q S' o w := ⟨fun j hj => by rw [hf _ _ (by omega), hf _ _ (by omega)]; exact h.1 j hj, fun x hx => by rw [hf _ _ (by omega)]; exact h.2 x hx⟩
theorem wy_gu_at {x : Int} {i : Nat} : wy_gu g x i x.toNat = i := if_pos rfl
theorem wy_gu_ne {x y : Int} {i : Nat} (h : y.toNat ≠ x.toNat) : wy_gu g x i y.toNat = g y.toNat := if_neg h
/-- a row that passes the conditions has the value that the index is asked for -/
theorem wy_use_val (hI : wy_iv P) (hv : wy_vp P r o w) (hs : (s : Int) < P 13 r) (hw : w s ≠ -1) {i : Nat} (h : wy_ha P r o s (wy_gu g (o s) i) (P 15 r).toNat = true) : wy_va P (wy_tb P r (o s)) (w s).toNat i = wy_wa P r o s g (wy_uo P r o s (w s) (P 15 r).toNat).toNat := by
  have b13 := wy_b13 hI r
  have b15 := wy_b15 hI r
  have hs3 : s < 3 := by omega
  have hws := hv.2.2.2 s hs
  have hos := hv.1.1 s hs3
  obtain ⟨k, hk, hu, hku⟩ := wy_uo_is (hws.2.2 hw)
  have hh := wy_ha_t h hk hu.2.1
  have b17 := wy_b17 hI (6 * r + k)
  have b20 := wy_b20 hI (6 * r + k)
  have hoth := hI.2.2.2.2.2.2.1 r k (by omega)
  rw [hku, Int.toNat_natCast]
  unfold wy_wa
  have hcol := hu.2.2
  have has := hu.2.1
  unfold wy_as wy_cs at has
  rcases hu.1 with k0 | k3
  · rw [if_pos k0]
    have n3 : ¬P 16 (6 * r + k) = 3 := by omega
    rw [if_neg (fun h => n3 h.1)] at has
    have hso := wy_ps_o hs3 has
    rw [if_pos hso.symm] at hcol
    have h1 := hh.1 k0
    unfold wy_gv at h1
    rw [← hso, wy_gu_at, hcol] at h1
    exact h1
  · have n0 : ¬P 16 (6 * r + k) = 0 := by omega
    rw [if_neg n0]
    have h1 := hh.2.2.2 k3
    have hne := (hoth.2 k3).2
    unfold wy_gv at h1 ⊢
    by_cases e : P 17 (6 * r + k) = o s
    · rw [if_pos e] at hcol ⊢
      rw [e, wy_gu_at, hcol, wy_gu_ne (by omega)] at h1
      exact h1
    · have hot : P 20 (6 * r + k) = o s := by
        by_cases hlt : wy_ps o (P 17 (6 * r + k)) < wy_ps o (P 20 (6 * r + k))
        · rw [if_pos ⟨k3, hlt⟩] at has
          exact (wy_ps_o hs3 has).symm
        · rw [if_neg (fun h => hlt h.2)] at has
          exact absurd (wy_ps_o hs3 has).symm e
      rw [if_neg e] at hcol ⊢
      rw [hot, wy_gu_at, hcol, wy_gu_ne (by omega)] at h1
      exact h1.symm
theorem wy_ch_lt (hs : s ≤ 3) (hch : wy_ch P o s S g) {x : Int} (hx : wy_ps o x < (s : Int)) : S 281 x.toNat = (g x.toNat : Int) ∧ g x.toNat < 40 := by
  have hb := wy_ps_b o x
  have h := @wy_ps_o o x (wy_ps o x).toNat (by omega) (by omega)
  have h2 := hch (wy_ps o x).toNat (by omega)
  rw [h] at h2
  exact h2
theorem wy_ch_f2 {S' : wq_St} (h : wy_ch P o s S g) (hf : ∀ j, S' 281 j = S 281 j) : wy_ch P o s S' g := fun j hj => by rw [hf]; exact h j hj
theorem wy_x_step (hI : wy_iv P) (hr : r < 8) (hv : wy_vp P r o w) (hq : q + 3 < 280) : ∀ (d n s : Nat) (g : Nat → Nat) (S : wq_St), (d : Int) + (s : Int) = P 13 r → d < n → wy_R wy_co S P → wy_pf P r q S o w → wy_ch P o s S g →
    ∃ S', f_X6_takeStep n (199 + 9 * r) q (s : Int) S = some (0, S') ∧ S' 280 2 = S 280 2 + wy_rt P r o w d s g ∧ S' 280 3 = S 280 3 + wy_rw (fun _ => 1) P r o d s g ∧ S' 280 4 = S 280 4 + wy_rw (wy_sv P r) P r o d s g ∧ wy_f2 S S' ∧ wy_ch P o s S' g
  | d, 0, s, g, S, _, h, _, _, _ => by omega
  | 0, n + 1, s, g, S, hd, _, hR, hpf, hch => by
    have b13 := wy_b13 hI r
    have b22 := wy_b22 hI r
    unfold f_X6_takeStep fb_X6_takeStep
    simp (disch := omega) only [wy_c13 hR hr, wq_w_id]
    rw [if_neg (by omega)]
    unfold f_X6_countChoice
    rw [wy_lt]
    have hR1 : wy_R wy_co (wq_set S 280 3 (S 280 3 + 1)) P := wy_R_scr hR (by unfold wy_scr; omega)
    have w1 : wq_w (-1) = -1 := rfl
    rw [wy_c22 hR1 hr, wy_c28 hR1 hr, w1, wq_w_id (by omega) (by omega)]
    simp only [wy_rt, wy_rw]
    unfold wy_sv
    by_cases h22 : P 22 r = -1
    · rw [if_pos h22, if_pos h22]
      refine ⟨_, rfl, ?_, ?_, ?_, wy_f2_s (fun _ _ _ => rfl) (by omega), wy_ch_f2 hch fun j => wy_set_ne (by omega)⟩
      · rw [wy_set_ne (by omega)]; omega
      · rw [wy_set_at rfl rfl]
      · rw [wy_set_ne (by omega)]; omega
    · have hS := hI.2.2.2.2.2.2.2.1 r h22
      have hps := hv.2.2.1 (P 22 r) (by omega) hS.1
      have hx := wy_ch_lt (P := P) (by omega) hch (x := P 22 r) (by omega)
      rw [if_neg h22, if_neg h22]
      have hcv := wy_x_chosen (g := g) hI hR1 hr (x := P 22 r) (c := P 28 r) (by omega) (by omega) (by rw [wy_set_ne (by omega)]; exact hx.1) hx.2
      rw [wy_bd hcv]
      refine ⟨_, rfl, ?_, ?_, ?_, wy_f2_s (wy_f2_s (fun _ _ _ => rfl) (by omega)) (by omega), wy_ch_f2 hch fun j => by rw [wy_set_ne (by omega), wy_set_ne (by omega)]⟩
      · rw [wy_set_ne (by omega), wy_set_ne (by omega)]; omega
      · rw [wy_set_ne (by omega), wy_set_at rfl rfl]
      · rw [wy_set_at rfl rfl, wy_set_ne (by omega)]
  | d + 1, n + 1, s, g, S, hd, hn, hR, hpf, hch => by
    have b13 := wy_b13 hI r
    have hs : (s : Int) < P 13 r := by omega
    have hs3 : s < 3 := by omega
    have hos := hv.1.1 s hs3
    have hps := (hv.2.1 s hs).2
    have hws := hv.2.2.2 s hs
    have hqo := (hpf.1 s hs).1
    have hqw := (hpf.1 s hs).2
    have s14 := wy_c14 hR hr (j := (o s).toNat) (by omega)
    have b14 := wy_b14 hI (3 * r + (o s).toNat)
    have et : (P 14 (3 * r + (o s).toNat)).toNat = wy_tb P r (o s) := rfl
    have ht := @wy_tb_lt P r hI (o s)
    have b2 := wy_b2 hI (wy_tb P r (o s))
    have w1 : wq_w (-1) = -1 := rfl
    -- the loop over rows
    have loop : ∀ (wanted : Int) (S0 : wq_St), (w s ≠ -1 → wanted = wy_wa P r o s g (wy_uo P r o s (w s) (P 15 r).toNat).toNat) → wq_w wanted = wanted → wy_f2 S S0 → wy_ch P o s S0 g → ∃ S', j_X6_takeStep_72 (f_X6_takeStep n) (199 + 9 * r) q (s : Int) (o s) (6 + 48 * wy_tb P r (o s)) (w s) wanted S0 = some (0, S') ∧ S' 280 2 = S0 280 2 + (if w s = -1 then wy_ct P (wy_tb P r (o s)) (wy_is P r o s) else wy_cw P (wy_tb P r (o s)) (w s).toNat wanted (wy_is P r o s)) + wy_su (fun i => if wy_gg P r o s g i then wy_rt P r o w d (s + 1) (wy_gu g (o s) i) else 0) (wy_is P r o s) ∧ S' 280 3 = S0 280 3 + wy_su (fun i => if wy_gg P r o s g i then wy_rw (fun _ => 1) P r o d (s + 1) (wy_gu g (o s) i) else 0) (wy_is P r o s) ∧ S' 280 4 = S0 280 4 + wy_su (fun i => if wy_gg P r o s g i then wy_rw (wy_sv P r) P r o d (s + 1) (wy_gu g (o s) i) else 0) (wy_is P r o s) ∧ wy_f2 S S' ∧ wy_ch P o s S' g := by
      intro wanted S0 hwan hww hf0 hch0
      unfold j_X6_takeStep_72
      refine wy_up (fun n' i (S1 : wq_St) => ∃ S', l_X6_takeStep_75 (f_X6_takeStep n) (199 + 9 * r) q (s : Int) (o s) (6 + 48 * wy_tb P r (o s)) (w s) wanted (fun S15 => some (0, S15)) n' (i : Int) S1 = some (0, S') ∧ S' 280 2 = S0 280 2 + (if w s = -1 then wy_ct P (wy_tb P r (o s)) (wy_is P r o s) else wy_cw P (wy_tb P r (o s)) (w s).toNat wanted (wy_is P r o s)) + wy_su (fun i => if wy_gg P r o s g i then wy_rt P r o w d (s + 1) (wy_gu g (o s) i) else 0) (wy_is P r o s) ∧ S' 280 3 = S0 280 3 + wy_su (fun i => if wy_gg P r o s g i then wy_rw (fun _ => 1) P r o d (s + 1) (wy_gu g (o s) i) else 0) (wy_is P r o s) ∧ S' 280 4 = S0 280 4 + wy_su (fun i => if wy_gg P r o s g i then wy_rw (wy_sv P r) P r o d (s + 1) (wy_gu g (o s) i) else 0) (wy_is P r o s) ∧ wy_f2 S S' ∧ wy_ch P o s S' g) (wy_is P r o s) (fun i S1 => S1 280 2 = S0 280 2 + (if w s = -1 then wy_ct P (wy_tb P r (o s)) i else wy_cw P (wy_tb P r (o s)) (w s).toNat wanted i) + wy_su (fun i => if wy_gg P r o s g i then wy_rt P r o w d (s + 1) (wy_gu g (o s) i) else 0) i ∧ S1 280 3 = S0 280 3 + wy_su (fun i => if wy_gg P r o s g i then wy_rw (fun _ => 1) P r o d (s + 1) (wy_gu g (o s) i) else 0) i ∧ S1 280 4 = S0 280 4 + wy_su (fun i => if wy_gg P r o s g i then wy_rw (wy_sv P r) P r o d (s + 1) (wy_gu g (o s) i) else 0) i ∧ wy_f2 S S1 ∧ wy_ch P o s S1 g) ?_ ?_ wq_fu 0 S0 (by omega) (wy_fu' (by unfold wy_is; omega)) ⟨?_, ?_, ?_, hf0, hch0⟩
      · intro n' i S1 hi ⟨h2, h3, h4, hf1, hch1⟩ ih
        have hR1 := wy_f2_R hR hf1
        have hpf1 := wy_f2_pf hq hpf hf1
        have hi40 : i < 40 := by unfold wy_is at hi; omega
        have hii : (i : Int) < P 2 (wy_tb P r (o s)) := by unfold wy_is at hi; omega
        have b3 := wy_b3 hI (40 * wy_tb P r (o s) + i)
        have e : ((i : Int) + 1) = ((i + 1 : Nat) : Int) := by omega
        rw [l_X6_takeStep_75_s]
        unfold b_X6_takeStep_75
        rw [wy_c2 hR1 ht, wq_w_id (x := P 2 (wy_tb P r (o s))) (by omega) (by omega), wq_w_id (x := (i : Int)) (by omega) (by omega), if_neg (by omega), wy_ix (by omega) (by omega) (by omega), Int.toNat_natCast, wy_c3 hR1 ht hi40, wq_w_id (x := P 3 (40 * wy_tb P r (o s) + i)) (by omega) (by omega), w1, wq_w_id (x := w s) (by omega) (by omega), e]
        -- a row that is visited
        have visit : P 3 (40 * wy_tb P r (o s) + i) ≠ 0 → (w s ≠ -1 → wy_va P (wy_tb P r (o s)) (w s).toNat i = wanted) → ∃ S', j_X6_takeStep_121 (f_X6_takeStep n) (fun S15 => some (0, S15)) (l_X6_takeStep_75 (f_X6_takeStep n) (199 + 9 * r) q (s : Int) (o s) (6 + 48 * wy_tb P r (o s)) (w s) wanted (fun S15 => some (0, S15)) n') (199 + 9 * r) q (s : Int) (o s) (6 + 48 * wy_tb P r (o s)) (w s) wanted (i : Int) S1 = some (0, S') ∧ S' 280 2 = S0 280 2 + (if w s = -1 then wy_ct P (wy_tb P r (o s)) (wy_is P r o s) else wy_cw P (wy_tb P r (o s)) (w s).toNat wanted (wy_is P r o s)) + wy_su (fun i => if wy_gg P r o s g i then wy_rt P r o w d (s + 1) (wy_gu g (o s) i) else 0) (wy_is P r o s) ∧ S' 280 3 = S0 280 3 + wy_su (fun i => if wy_gg P r o s g i then wy_rw (fun _ => 1) P r o d (s + 1) (wy_gu g (o s) i) else 0) (wy_is P r o s) ∧ S' 280 4 = S0 280 4 + wy_su (fun i => if wy_gg P r o s g i then wy_rw (wy_sv P r) P r o d (s + 1) (wy_gu g (o s) i) else 0) (wy_is P r o s) ∧ wy_f2 S S' ∧ wy_ch P o s S' g := by
          intro h0 hval
          unfold j_X6_takeStep_121
          rw [wy_lt, wy_ix (by omega) (by omega) (by omega), wy_lt]
          have hf8 : wy_f2 S (wq_set (wq_set S1 280 2 (S1 280 2 + 1)) 281 (o s).toNat (i : Int)) := wy_f2_s (wy_f2_s hf1 (by omega)) (by omega)
          have hch8 : wy_ch P o (s + 1) (wq_set (wq_set S1 280 2 (S1 280 2 + 1)) 281 (o s).toNat (i : Int)) (wy_gu g (o s) i) := by
            intro j hj
            by_cases ej : j = s
            · subst ej
              rw [wy_set_at rfl rfl, wy_gu_at]
              exact ⟨rfl, hi40⟩
            · have hj1 := hv.2.1 j (by omega)
              have hj2 := hv.1.1 j (by omega)
              have hjs : o j ≠ o s := fun e => by
                rw [e, hps] at hj1
                omega
              have h := hch1 j (by omega)
              rw [wy_set_ne (by omega), wy_set_ne (by omega), wy_gu_ne (by omega)]
              exact h
          have c2 : wq_set (wq_set S1 280 2 (S1 280 2 + 1)) 281 (o s).toNat (i : Int) 280 2 = S1 280 2 + 1 := by rw [wy_set_ne (by omega), wy_set_at rfl rfl]
          have c3 : wq_set (wq_set S1 280 2 (S1 280 2 + 1)) 281 (o s).toNat (i : Int) 280 3 = S1 280 3 := by rw [wy_set_ne (by omega), wy_set_ne (by omega)]
          have c4 : wq_set (wq_set S1 280 2 (S1 280 2 + 1)) 281 (o s).toNat (i : Int) 280 4 = S1 280 4 := by rw [wy_set_ne (by omega), wy_set_ne (by omega)]
          have c5 : ∀ j, (wq_set (wq_set S1 280 2 (S1 280 2 + 1)) 281 (o s).toNat (i : Int)) 281 j = if j = (o s).toNat then (i : Int) else S1 281 j := fun j => by
            by_cases ej : j = (o s).toNat
            · rw [if_pos ej, wy_set_at rfl ej]
            · rw [if_neg ej, wy_set_ne (by omega), wy_set_ne (by omega)]
          generalize wq_set (wq_set S1 280 2 (S1 280 2 + 1)) 281 (o s).toNat (i : Int) = S8 at *
          have hR8 := wy_f2_R hR hf8
          have hpf8 := wy_f2_pf hq hpf hf8
          have hsp8 := wy_pf_sp hI hR8 hr hv hpf8 hs
          rw [wy_bd (wy_x_hold hI hR8 hr hs3 hsp8 hch8)]
          have keepch : ∀ S9 : wq_St, (∀ j, j < s + 1 → S9 281 (o j).toNat = ((wy_gu g (o s) i) (o j).toNat : Int)) → wy_ch P o s S9 g := fun S9 h9 j hj => by
            have hj1 := hv.2.1 j (by omega)
            have hj2 := hv.1.1 j (by omega)
            have hjs : o j ≠ o s := fun e => by
              rw [e, hps] at hj1
              omega
            have h := h9 j (by omega)
            rw [wy_gu_ne (by omega)] at h
            exact ⟨h, (hch1 j hj).2⟩
          have cnt : (if w s = -1 then wy_ct P (wy_tb P r (o s)) (i + 1) else wy_cw P (wy_tb P r (o s)) (w s).toNat wanted (i + 1)) = (if w s = -1 then wy_ct P (wy_tb P r (o s)) i else wy_cw P (wy_tb P r (o s)) (w s).toNat wanted i) + 1 := by
            by_cases hw1 : w s = -1
            · rw [if_pos hw1, if_pos hw1]
              simp only [wy_ct]
              rw [if_neg h0]
            · rw [if_neg hw1, if_neg hw1]
              simp only [wy_cw]
              rw [if_pos ⟨h0, hval hw1⟩]
          by_cases hha : wy_ha P r o s (wy_gu g (o s) i) (P 15 r).toNat = true
          · rw [if_pos hha, if_neg (by decide)]
            have hgg : wy_gg P r o s g i := ⟨h0, hha⟩
            obtain ⟨S9, e9, z2, z3, z4, hf9, hch9⟩ := wy_x_step hI hr hv hq d n (s + 1) (wy_gu g (o s) i) S8 (by omega) (by omega) hR8 hpf8 hch8
            have es : ((s : Int) + 1) = ((s + 1 : Nat) : Int) := by omega
            rw [es, wy_bd e9, e]
            refine ih S9 ⟨?_, ?_, ?_, wy_f2_t hf8 hf9, keepch S9 fun j hj => (hch9 j hj).1⟩
            · rw [z2, c2, h2, cnt]
              simp only [wy_su]
              rw [if_pos hgg]
              omega
            · rw [z3, c3, h3]
              simp only [wy_su]
              rw [if_pos hgg]
              omega
            · rw [z4, c4, h4]
              simp only [wy_su]
              rw [if_pos hgg]
              omega
          · rw [if_neg hha, if_pos wq_w_0, e]
            have hgg : ¬wy_gg P r o s g i := fun h => hha h.2
            refine ih S8 ⟨?_, ?_, ?_, hf8, keepch S8 fun j hj => (hch8 j hj).1⟩
            · rw [c2, h2, cnt]
              simp only [wy_su]
              rw [if_neg hgg]
              omega
            · rw [c3, h3]
              simp only [wy_su]
              rw [if_neg hgg]
              omega
            · rw [c4, h4]
              simp only [wy_su]
              rw [if_neg hgg]
              omega
        have pass : ¬wy_gg P r o s g i → (P 3 (40 * wy_tb P r (o s) + i) = 0 ∨ (w s ≠ -1 ∧ wy_va P (wy_tb P r (o s)) (w s).toNat i ≠ wanted)) → ∃ S', l_X6_takeStep_75 (f_X6_takeStep n) (199 + 9 * r) q (s : Int) (o s) (6 + 48 * wy_tb P r (o s)) (w s) wanted (fun S15 => some (0, S15)) n' ((i + 1 : Nat) : Int) S1 = some (0, S') ∧ S' 280 2 = S0 280 2 + (if w s = -1 then wy_ct P (wy_tb P r (o s)) (wy_is P r o s) else wy_cw P (wy_tb P r (o s)) (w s).toNat wanted (wy_is P r o s)) + wy_su (fun i => if wy_gg P r o s g i then wy_rt P r o w d (s + 1) (wy_gu g (o s) i) else 0) (wy_is P r o s) ∧ S' 280 3 = S0 280 3 + wy_su (fun i => if wy_gg P r o s g i then wy_rw (fun _ => 1) P r o d (s + 1) (wy_gu g (o s) i) else 0) (wy_is P r o s) ∧ S' 280 4 = S0 280 4 + wy_su (fun i => if wy_gg P r o s g i then wy_rw (wy_sv P r) P r o d (s + 1) (wy_gu g (o s) i) else 0) (wy_is P r o s) ∧ wy_f2 S S' ∧ wy_ch P o s S' g := by
          intro hgg hno
          refine ih S1 ⟨?_, ?_, ?_, hf1, hch1⟩
          · rw [h2]
            simp only [wy_su, wy_ct, wy_cw]
            rw [if_neg hgg]
            by_cases hw1 : w s = -1
            · rw [if_pos hw1, if_pos hw1, if_pos (by rcases hno with h | h; exact h; exact absurd hw1 h.1)]
              omega
            · rw [if_neg hw1, if_neg hw1, if_neg (fun h => by rcases hno with h' | h'; exact h.1 h'; exact h'.2 h.2)]
              omega
          · rw [h3]
            simp only [wy_su]
            rw [if_neg hgg]
            omega
          · rw [h4]
            simp only [wy_su]
            rw [if_neg hgg]
            omega
        by_cases h0 : P 3 (40 * wy_tb P r (o s) + i) = 0
        · rw [if_pos h0]
          exact pass (fun h => h.1 h0) (Or.inl h0)
        · rw [if_neg h0]
          by_cases hw1 : w s = -1
          · rw [if_pos hw1]
            exact visit h0 fun h => absurd hw1 h
          · have c4 := wy_c4 hR1 ht hi40 (c := (w s).toNat) (by omega)
            have b4 : 0 ≤ wy_va P (wy_tb P r (o s)) (w s).toNat i ∧ wy_va P (wy_tb P r (o s)) (w s).toNat i ≤ 999 := wy_b4 hI _
            rw [if_neg hw1, wy_ix (by omega) (by omega) (by omega), Int.toNat_natCast, wy_ix (by omega) (by omega) (by omega), c4]
            rw [show P 4 (3 * (40 * wy_tb P r (o s) + i) + (w s).toNat) = wy_va P (wy_tb P r (o s)) (w s).toNat i from rfl, hww, wq_w_id (by omega) (by omega)]
            by_cases hval : wy_va P (wy_tb P r (o s)) (w s).toNat i = wanted
            · rw [if_pos hval]
              exact visit h0 fun _ => hval
            · rw [if_neg hval]
              exact pass (fun h => hval (by rw [hwan hw1]; exact wy_use_val hI hv hs hw1 h.2)) (Or.inr ⟨hw1, hval⟩)
      · intro n' S1 ⟨h2, h3, h4, hf1, hch1⟩
        have hR1 := wy_f2_R hR hf1
        rw [l_X6_takeStep_75_s]
        unfold b_X6_takeStep_75
        rw [wy_c2 hR1 ht, wq_w_id (x := P 2 (wy_tb P r (o s))) (by omega) (by omega), wq_w_id (x := ((wy_is P r o s : Nat) : Int)) (by unfold wy_is; omega) (by unfold wy_is; omega), if_pos (by unfold wy_is; omega)]
        exact ⟨S1, rfl, h2, h3, h4, hf1, hch1⟩
      · simp only [wy_su, wy_ct, wy_cw]
        split <;> omega
      · simp only [wy_su]
        omega
      · simp only [wy_su]
        omega
    unfold f_X6_takeStep fb_X6_takeStep
    simp only [wy_rt, wy_rw]
    rw [wy_c13 hR hr, wq_w_id (x := (s : Int)) (by omega) (by omega), wq_w_id (x := P 13 r) (by omega) (by omega), if_pos hs, wy_ix (by omega) (by omega) (by omega), Int.toNat_natCast, hqo, wy_ix (by omega) (by omega) (by omega), s14, wy_ix (by omega) (by omega) (by omega), et, wy_ix (by omega) (by omega) (by omega), Int.toNat_natCast, hqw, w1, wq_w_id (x := w s) (by omega) (by omega)]
    unfold wy_mi
    by_cases hw1 : w s = -1
    · rw [if_pos hw1, if_pos hw1]
      obtain ⟨S', e1, z2, z3, z4, hf, hc⟩ := loop (-1) S (fun h => absurd hw1 h) rfl (fun _ _ _ => rfl) hch
      rw [if_pos hw1] at z2
      exact ⟨S', e1, by omega, z3, z4, hf, hc⟩
    · have hwa := wy_x_wanted hI hR hr hv hpf hs hw1 hch
      rw [if_neg hw1, if_neg hw1, wy_bd hwa, wy_lt]
      have hwb : wq_w (wy_wa P r o s g (wy_uo P r o s (w s) (P 15 r).toNat).toNat) = wy_wa P r o s g (wy_uo P r o s (w s) (P 15 r).toNat).toNat := by
        unfold wy_wa
        have b19 := wy_b19 hI (6 * r + (wy_uo P r o s (w s) (P 15 r).toNat).toNat)
        have v1 := @wy_gv_b P r g hI (P 17 (6 * r + (wy_uo P r o s (w s) (P 15 r).toNat).toNat)) (P 18 (6 * r + (wy_uo P r o s (w s) (P 15 r).toNat).toNat))
        have v2 := @wy_gv_b P r g hI (P 20 (6 * r + (wy_uo P r o s (w s) (P 15 r).toNat).toNat)) (P 21 (6 * r + (wy_uo P r o s (w s) (P 15 r).toNat).toNat))
        split
        · exact wq_w_id (by omega) (by omega)
        · split
          · exact wq_w_id (by omega) (by omega)
          · exact wq_w_id (by omega) (by omega)
      obtain ⟨S', e1, z2, z3, z4, hf, hc⟩ := loop _ (wq_set S 280 2 (S 280 2 + 1)) (fun _ => rfl) hwb (wy_f2_s (fun _ _ _ => rfl) (by omega)) (wy_ch_f2 hch fun j => wy_set_ne (by omega))
      rw [if_neg hw1, wy_set_at rfl rfl] at z2
      rw [wy_set_ne (by omega)] at z3 z4
      exact ⟨S', e1, by omega, z3, z4, hf, hc⟩
end
