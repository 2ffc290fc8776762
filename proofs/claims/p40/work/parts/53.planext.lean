/-! the class tries all orders -/
def wy_fr (S S' : wq_St) : Prop := ∀ k j, ¬(272 ≤ k ∧ k ≤ 279) → S' k j = S k j
def wy_dr (S : wq_St) (o w : Nat → Int) (s : Nat) : Prop := (∀ j, j < s → S 273 j = o j ∧ S 274 j = w j) ∧ ∀ x : Nat, x < 3 → S 275 x = if wy_ps o (x : Int) < (s : Int) then wy_ps o (x : Int) else 3
def wy_bs (P : wq_St) (r : Nat) (S : wq_St) (b : Option (Int × wy_pl)) : Prop := match b with
  | none => S 276 3 = 1099511627776
  | some p => S 276 3 = p.1 ∧ 0 ≤ p.1 ∧ p.1 ≤ 1000000000000000 ∧ (∀ j : Nat, (j : Int) < P 13 r → S 277 j = p.2.1 j ∧ S 278 j = p.2.2 j) ∧ ∀ x : Nat, x < 3 → S 279 x = if wy_ps p.2.1 (x : Int) < P 13 r then wy_ps p.2.1 (x : Int) else 3
section
variable {P S : wq_St} {r : Nat} {o w : Nat → Int} {s : Nat} {ch : Int}
theorem wy_R_fr {C : Nat → Prop} {S' : wq_St} (h : wy_R C S P) (hf : ∀ k j, ¬wy_scr k → S' k j = S k j) : wy_R C S' P := fun f i hc hi => by
  rw [hf _ _ (wy_ok hi).2]
  exact h f i hc hi
theorem wy_fr_R {C : Nat → Prop} {S' : wq_St} (h : wy_R C S P) (hf : wy_fr S S') : wy_R C S' P := wy_R_fr h fun k j hk => hf k j fun h => hk (by unfold wy_scr; omega)
theorem wy_fr_t {S' S'' : wq_St} (h1 : wy_fr S S') (h2 : wy_fr S' S'') : wy_fr S S'' := fun k j hk => by rw [h2 k j hk, h1 k j hk]
theorem wy_fr_s {S' : wq_St} (h1 : wy_fr S S') {k j : Nat} {v : Int} (hk : 272 ≤ k ∧ k ≤ 279) : wy_fr S (wq_set S' k j v) := fun k' j' h => by
  rw [wy_set_ne (by omega)]
  exact h1 k' j' h
theorem wy_ps_ud {x : Int} (hs : s < 3) (hx : (s : Int) ≤ wy_ps o x) (y : Int) : (y = x → wy_ps (wy_ud o s x) y = (s : Int)) ∧ (y ≠ x → (wy_ps o y < (s : Int) ∧ wy_ps (wy_ud o s x) y = wy_ps o y) ∨ ((s : Int) ≤ wy_ps o y ∧ (s : Int) < wy_ps (wy_ud o s x) y)) := by
  have h3 : s = 0 ∨ s = 1 ∨ s = 2 := by omega
  unfold wy_ps at *
  unfold wy_ud
  rcases h3 with rfl | rfl | rfl
  · simp
    constructor
    · intro e; simp [e]
    · intro e
      have e' : ¬x = y := fun h => e h.symm
      repeat' split
      all_goals first | omega | simp_all
  · simp at hx ⊢
    constructor
    · intro e
      subst e
      repeat' split at hx
      all_goals first | omega | simp_all
    · intro e
      have e' : ¬x = y := fun h => e h.symm
      repeat' split
      all_goals first | omega | simp_all
  · simp at hx ⊢
    constructor
    · intro e
      subst e
      repeat' split at hx
      all_goals first | omega | simp_all
    · intro e
      have e' : ¬x = y := fun h => e h.symm
      repeat' split
      all_goals first | omega | simp_all
theorem wy_x_copy (S : wq_St) (v : Int) : ∃ S', f_X3_copyFrom 276 272 v S = some (0, S') ∧ S' 276 3 = v ∧ (∀ j, j < 3 → S' 277 j = S 273 j ∧ S' 278 j = S 274 j ∧ S' 279 j = S 275 j) ∧ (∀ k j, ¬(276 ≤ k ∧ k ≤ 279) → S' k j = S k j) := by
  unfold f_X3_copyFrom
  have key := wy_up (fun n i (S1 : wq_St) => ∃ S', l_X3_copyFrom_3 276 272 v (fun S10 => some (0, wq_set S10 276 3 v)) n (i : Int) S1 = some (0, S') ∧ S' 276 3 = v ∧ (∀ j, j < 3 → S' 277 j = S 273 j ∧ S' 278 j = S 274 j ∧ S' 279 j = S 275 j) ∧ (∀ k j, ¬(276 ≤ k ∧ k ≤ 279) → S' k j = S k j)) 3 (fun i S1 => (∀ j, j < i → S1 277 j = S 273 j ∧ S1 278 j = S 274 j ∧ S1 279 j = S 275 j) ∧ (∀ k j, ¬(276 ≤ k ∧ k ≤ 279) → S1 k j = S k j)) ?_ ?_ wq_fu 0 S (by omega) (wy_fu' (by omega)) ⟨fun j hj => by omega, fun _ _ _ => rfl⟩
  · exact key
  · intro n i S1 hi ⟨hc, hf⟩ ih
    rw [l_X3_copyFrom_3_s]
    unfold b_X3_copyFrom_3
    simp (disch := omega) only [wy_ix, Int.toNat_natCast, wq_w_id, wq_lt, wy_set_ne]
    rw [if_neg (by omega)]
    have e : ((i : Int) + 1) = ((i + 1 : Nat) : Int) := by omega
    rw [e]
    refine ih _ ⟨?_, ?_⟩
    · intro j hj
      by_cases ej : j = i
      · subst ej
        simp (disch := omega) only [wy_set_ne, wy_set_at, hf]
        exact ⟨trivial, trivial, trivial⟩
      · have h := hc j (by omega)
        simp (disch := omega) only [wy_set_ne]
        exact h
    · intro k j hk
      simp (disch := omega) only [wy_set_ne]
      exact hf k j hk
  · intro n S1 ⟨hc, hf⟩
    rw [l_X3_copyFrom_3_s]
    unfold b_X3_copyFrom_3
    simp (disch := omega) only [wq_w_id]
    rw [if_pos (by omega)]
    refine ⟨_, rfl, wy_set_at rfl rfl, ?_, ?_⟩
    · intro j hj
      have h := hc j hj
      simp (disch := omega) only [wy_set_ne]
      exact h
    · intro k j hk
      simp (disch := omega) only [wy_set_ne]
      exact hf k j hk
theorem wy_x_ext (hI : wy_iv P) (hr : r < 8) : ∀ (d n s : Nat) (o w : Nat → Int) (ch sp : Int) (b : Option (Int × wy_pl)) (S : wq_St), (d : Int) + (s : Int) = P 13 r → d < n → wy_R wy_co S P → wy_dr S o w s → wy_bs P r S b → 0 ≤ ch ∧ ch ≤ wy_cb s → 0 ≤ sp ∧ sp ≤ wy_cb (s + 1) →
    ∃ S', f_X4_extend n (199 + 9 * r) (s : Int) ch sp S = some (0, S') ∧ wy_dr S' o w s ∧ wy_bs P r S' (wy_mn b (wy_T P r d s o w ch sp)) ∧ wy_fr S S'
  | d, 0, s, o, w, ch, sp, b, S, _, h, _, _, _, _, _ => by omega
  | 0, n + 1, s, o, w, ch, sp, b, S, hd, _, hR, hdr, hbs, hch, hsp => by
    have b13 := wy_b13 hI r
    have hcb := @wy_cb_b (s + 1) (by omega)
    unfold f_X4_extend fb_X4_extend
    simp (disch := omega) only [wy_c13 hR hr, wq_w_id]
    rw [if_neg (by omega)]
    have hcopy := wy_x_copy S sp
    obtain ⟨S', e1, e2, e3, e4⟩ := hcopy
    have hnew : wy_bs P r S' (some (sp, (o, w))) := by
      refine ⟨e2, hsp.1, by dsimp only; omega, fun j hj => ?_, fun x hx => ?_⟩
      · have h := e3 j (by omega)
        have h' := hdr.1 j (by omega)
        exact ⟨by rw [h.1]; exact h'.1, by rw [h.2.1]; exact h'.2⟩
      · rw [(e3 x hx).2.2, hdr.2 x hx]
        have hs : (s : Int) = P 13 r := by omega
        rw [hs]
    have hdr' : wy_dr S' o w s := ⟨fun j hj => by rw [e4 _ _ (by omega), e4 _ _ (by omega)]; exact hdr.1 j hj, fun x hx => by rw [e4 _ _ (by omega)]; exact hdr.2 x hx⟩
    have hfr' : wy_fr S S' := fun k j hk => e4 k j (by omega)
    simp only [wy_T]
    cases b with
    | none =>
      have hb : S 276 3 = 1099511627776 := hbs
      rw [wy_mn_1, hb]
      have hcm := @wy_cmp0 sp 1099511627776 (by omega) (by omega) (by omega) (by omega)
      rw [if_neg (by rw [hcm]; omega), wy_bd e1]
      exact ⟨S', rfl, hdr', hnew, hfr'⟩
    | some p =>
      obtain ⟨hb1, hb2, hb3, hb4, hb5⟩ := hbs
      rw [wy_mn_s, hb1]
      have hcm := @wy_cmp0 sp p.1 (by omega) (by omega) (by omega) (by omega)
      dsimp only
      by_cases hlt : sp < p.1
      · rw [if_neg (by rw [hcm]; omega), wy_bd e1, if_pos hlt]
        exact ⟨S', rfl, hdr', hnew, hfr'⟩
      · rw [if_pos (by rw [hcm]; omega), if_neg hlt]
        exact ⟨S, rfl, hdr, ⟨hb1, hb2, hb3, hb4, hb5⟩, fun _ _ _ => rfl⟩
  | d + 1, n + 1, s, o, w, ch, sp, b, S, hd, hn, hR, hdr, hbs, hch, hsp => by
    have b13 := wy_b13 hI r
    have hs : s < 3 := by omega
    have hcb := @wy_cb_b s (by omega)
    have hcb1 : wy_cb (s + 1) = 40 * wy_cb s := rfl
    have hcb2 : wy_cb (s + 1 + 1) = 40 * wy_cb (s + 1) := rfl
    unfold f_X4_extend fb_X4_extend
    simp (disch := omega) only [wy_c13 hR hr, wq_w_id]
    rw [if_pos (by omega)]
    simp only [wy_T]
    have key := wy_up (fun n' i (S1 : wq_St) => ∃ S', l_X4_extend_42 (f_X4_extend n) (199 + 9 * r) (s : Int) ch sp (fun S12 => some (0, S12)) n' (i : Int) S1 = some (0, S') ∧ wy_dr S' o w s ∧ wy_bs P r S' (wy_mn b (wy_mf (fun x => if wy_ps o (x : Int) < (s : Int) then none else wy_T P r d (s + 1) (wy_ud o s (x : Int)) (wy_ud w s (wy_bw P r (wy_ud o s (x : Int)) s ch).2) (wy_nt P r (wy_ud o s (x : Int)) s ch) (sp + (wy_bw P r (wy_ud o s (x : Int)) s ch).1)) (P 13 r).toNat)) ∧ wy_fr S S') (P 13 r).toNat (fun i S1 => wy_dr S1 o w s ∧ wy_bs P r S1 (wy_mn b (wy_mf (fun x => if wy_ps o (x : Int) < (s : Int) then none else wy_T P r d (s + 1) (wy_ud o s (x : Int)) (wy_ud w s (wy_bw P r (wy_ud o s (x : Int)) s ch).2) (wy_nt P r (wy_ud o s (x : Int)) s ch) (sp + (wy_bw P r (wy_ud o s (x : Int)) s ch).1)) i)) ∧ wy_fr S S1) ?_ ?_ wq_fu 0 S (by omega) (wy_fu' (by omega)) ⟨hdr, by simp only [wy_mf]; rw [wy_mn_0]; exact hbs, fun _ _ _ => rfl⟩
    · exact key
    · intro n' i S1 hi ⟨hd1, hb1, hf1⟩ ih
      have hR1 := wy_fr_R hR hf1
      have h275 := hd1.2 i (by omega)
      have hpb := wy_ps_b o (i : Int)
      have hv : 0 ≤ S1 (272 + 3) i ∧ S1 (272 + 3) i ≤ 3 := by rw [show S1 (272 + 3) i = _ from h275]; split <;> omega
      rw [l_X4_extend_42_s]
      unfold b_X4_extend_42
      simp (disch := omega) only [wy_ix, Int.toNat_natCast, wy_c13 hR1 hr, wq_w_id]
      rw [if_neg (by omega)]
      have e : ((i : Int) + 1) = ((i + 1 : Nat) : Int) := by omega
      rw [e, show S1 (272 + 3) i = _ from h275]
      by_cases hu : wy_ps o (i : Int) < (s : Int)
      · rw [if_pos hu, if_neg (by omega)]
        refine ih S1 ⟨hd1, ?_, hf1⟩
        simp only [wy_mf]
        rw [if_pos hu, wy_mn_0]
        exact hb1
      · rw [if_neg hu, if_pos rfl]
        have hud := @wy_ps_ud o s (i : Int) hs (by omega)
        have hpl : f_X3_place 272 (s : Int) (i : Int) S1 = some (0, wq_set (wq_set S1 273 s (i : Int)) 275 i (s : Int)) := by
          unfold f_X3_place
          simp (disch := omega) only [wy_ix, Int.toNat_natCast, wq_lt]
        rw [wy_bd hpl]
        have hos : wy_ud o s (i : Int) s = (i : Int) := if_pos rfl
        have hpsi := (hud (i : Int)).1 rfl
        have h275' : ∀ x : Nat, x < 3 → wq_set (wq_set S1 273 s (i : Int)) 275 i (s : Int) 275 x = if wy_ps (wy_ud o s (i : Int)) (x : Int) < ((s + 1 : Nat) : Int) then wy_ps (wy_ud o s (i : Int)) (x : Int) else 3 := by
          intro x hx
          by_cases ex : x = i
          · subst ex
            rw [wy_set_at rfl rfl, hpsi, if_pos (by omega)]
          · rw [wy_set_ne (by omega), wy_set_ne (by omega), hd1.2 x hx]
            rcases (hud (x : Int)).2 (by omega) with h | h
            · rw [if_pos h.1, if_pos (by omega), h.2]
            · rw [if_neg (by omega), if_neg (by omega)]
        generalize hS3 : wq_set (wq_set S1 273 s (i : Int)) 275 i (s : Int) = S3 at h275' ⊢
        have hf3 : wy_fr S S3 := by rw [← hS3]; exact wy_fr_s (wy_fr_s hf1 (by omega)) (by omega)
        have hR3 := wy_fr_R hR hf3
        have hord3 : S3 (272 + 1) s = wy_ud o s (i : Int) s := by rw [← hS3, hos, wy_set_ne (by omega), wy_set_at rfl rfl]
        have hsp3 : wy_sp P r (wy_ud o s (i : Int)) s 272 S3 := wy_sp_of hI hR3 hr (n := s + 1) (by omega) (by omega) fun x hx => h275' x (by omega)
        have hbo : 0 ≤ wy_ud o s (i : Int) s ∧ wy_ud o s (i : Int) s ≤ 2 := by rw [hos]; omega
        obtain ⟨S5, e5, g5, f5⟩ := wy_x_ways hI hR3 hr hs hsp3 hord3 hbo (by rw [hos]; exact hpsi) (ch := ch) ⟨hch.1, by omega⟩
        rw [wy_bd e5]
        have hf5 : wy_fr S S5 := fun k j hk => by rw [f5 k j (by omega)]; exact hf3 k j hk
        have hR5 := wy_fr_R hR hf5
        have hsp5 : wy_sp P r (wy_ud o s (i : Int)) s 272 S5 := wy_sp_of hI hR5 hr (n := s + 1) (by omega) (by omega) fun x hx => by rw [f5 _ _ (by omega)]; exact h275' x (by omega)
        have e6 := wy_x_behind hI hR5 hr hs hsp5 (by rw [f5 _ _ (by omega)]; exact hord3) hbo (ch := ch) ⟨hch.1, by omega⟩
        rw [wy_bd e6]
        have hbw := @wy_bw_b P r (wy_ud o s (i : Int)) s ch hI hch.1
        have b6 := wy_b6 hI (wy_tb P r (wy_ud o s (i : Int) s))
        have hm := wy_mul_le hch.1 b6.1 b6.2
        have hnt := @wy_bh_b P r hI (wy_ud o s (i : Int)) s _ hm.1 (P 15 r).toNat
        have hd5 : wy_dr S5 (wy_ud o s (i : Int)) (wy_ud w s (wy_bw P r (wy_ud o s (i : Int)) s ch).2) (s + 1) := by
          refine ⟨fun j hj => ?_, fun x hx => by rw [f5 _ _ (by omega)]; exact h275' x hx⟩
          by_cases ej : j = s
          · subst ej
            refine ⟨by rw [f5 _ _ (by omega)]; exact hord3, ?_⟩
            rw [g5]
            exact (if_pos rfl).symm
          · have h := hd1.1 j (by omega)
            have u1 : wy_ud o s (i : Int) j = o j := if_neg ej
            have u2 : wy_ud w s (wy_bw P r (wy_ud o s (i : Int)) s ch).2 j = w j := if_neg ej
            rw [u1, u2, f5 _ _ (by omega), f5 _ _ (by omega), ← hS3, wy_set_ne (by omega), wy_set_ne (by omega), wy_set_ne (by omega), wy_set_ne (by omega)]
            exact h
        have hb5 : wy_bs P r S5 (wy_mn b (wy_mf (fun x => if wy_ps o (x : Int) < (s : Int) then none else wy_T P r d (s + 1) (wy_ud o s (x : Int)) (wy_ud w s (wy_bw P r (wy_ud o s (x : Int)) s ch).2) (wy_nt P r (wy_ud o s (x : Int)) s ch) (sp + (wy_bw P r (wy_ud o s (x : Int)) s ch).1)) i)) := by
          have q : ∀ k j, 276 ≤ k → S5 k j = S1 k j := fun k j hk => by rw [f5 _ _ (by omega), ← hS3, wy_set_ne (by omega), wy_set_ne (by omega)]
          revert hb1
          generalize wy_mn b _ = bb
          intro hb1
          cases bb with
          | none => exact (q 276 3 (by omega)).trans hb1
          | some p =>
            obtain ⟨z1, z2, z3, z4, z5⟩ := hb1
            exact ⟨(q 276 3 (by omega)).trans z1, z2, z3, fun j hj => by rw [q 277 j (by omega), q 278 j (by omega)]; exact z4 j hj, fun x hx => by rw [q 279 x (by omega)]; exact z5 x hx⟩
        have hnt' : wy_nt P r (wy_ud o s (i : Int)) s ch ≤ wy_cb (s + 1) := by
          have h := hnt.2
          unfold wy_nt
          omega
        obtain ⟨S9, e9, d9, b9, f9⟩ := wy_x_ext hI hr d n (s + 1) (wy_ud o s (i : Int)) (wy_ud w s (wy_bw P r (wy_ud o s (i : Int)) s ch).2) (wy_nt P r (wy_ud o s (i : Int)) s ch) (sp + (wy_bw P r (wy_ud o s (i : Int)) s ch).1) _ S5 (by omega) (by omega) hR5 hd5 hb5 ⟨hnt.1, hnt'⟩ ⟨by omega, by omega⟩
        have ec : ((s : Int) + 1) = ((s + 1 : Nat) : Int) := by omega
        rw [ec, wy_bd e9]
        simp only [wq_lt]
        have hf9 := wy_fr_t hf5 f9
        refine ih _ ⟨⟨fun j hj => ?_, fun x hx => ?_⟩, ?_, wy_fr_s hf9 (by omega)⟩
        · have h := d9.1 j (by omega)
          have u1 : wy_ud o s (i : Int) j = o j := if_neg (by omega)
          have u2 : wy_ud w s (wy_bw P r (wy_ud o s (i : Int)) s ch).2 j = w j := if_neg (by omega)
          rw [u1, u2] at h
          rw [wy_set_ne (by omega), wy_set_ne (by omega)]
          exact h
        · by_cases ex : x = i
          · subst ex
            rw [wy_set_at rfl rfl, if_neg hu]
          · rw [wy_set_ne (by omega), d9.2 x hx]
            rcases (hud (x : Int)).2 (by omega) with h | h
            · rw [if_pos h.1, if_pos (by omega), h.2]
            · rw [if_neg (by omega), if_neg (by omega)]
        · simp only [wy_mf]
          rw [if_neg hu, ← wy_mn_a]
          revert b9
          generalize wy_mn (wy_mn b _) _ = bb
          intro b9
          cases bb with
          | none => exact (wy_set_ne (by omega)).trans b9
          | some p =>
            obtain ⟨z1, z2, z3, z4, z5⟩ := b9
            exact ⟨(wy_set_ne (by omega)).trans z1, z2, z3, fun j hj => by rw [wy_set_ne (by omega), wy_set_ne (by omega)]; exact z4 j hj, fun x hx => by rw [wy_set_ne (by omega)]; exact z5 x hx⟩
    · intro n' S1 ⟨hd1, hb1, hf1⟩
      have hR1 := wy_fr_R hR hf1
      rw [l_X4_extend_42_s]
      unfold b_X4_extend_42
      simp (disch := omega) only [wy_c13 hR1 hr, wq_w_id]
      rw [if_pos (by omega)]
      exact ⟨S1, rfl, hd1, hb1, hf1⟩
end
