/-! RUNS -/
def wy_su (f : Nat → Int) : Nat → Int
  | 0 => 0
  | n + 1 => wy_su f n + f n
def wy_gu (g : Nat → Nat) (x : Int) (i : Nat) : Nat → Nat := fun y => if y = x.toNat then i else g y
/-- the value of a column of the row that is chosen of a source -/
def wy_gv (P : wq_St) (r : Nat) (g : Nat → Nat) (x c : Int) : Int := wy_va P (wy_tb P r x) c.toNat (g x.toNat)
abbrev wy_ho (P : wq_St) (r : Nat) (g : Nat → Nat) (k : Nat) : Prop :=
  (P 16 (6 * r + k) = 0 → wy_gv P r g (P 17 (6 * r + k)) (P 18 (6 * r + k)) = P 19 (6 * r + k)) ∧
  (P 16 (6 * r + k) = 1 → wy_gv P r g (P 17 (6 * r + k)) (P 18 (6 * r + k)) < P 19 (6 * r + k)) ∧
  (P 16 (6 * r + k) = 2 → P 19 (6 * r + k) < wy_gv P r g (P 17 (6 * r + k)) (P 18 (6 * r + k))) ∧
  (P 16 (6 * r + k) = 3 → wy_gv P r g (P 17 (6 * r + k)) (P 18 (6 * r + k)) = wy_gv P r g (P 20 (6 * r + k)) (P 21 (6 * r + k)))
/-- all conditions of step s hold, of the first n -/
def wy_ha (P : wq_St) (r : Nat) (o : Nat → Int) (s : Nat) (g : Nat → Nat) : Nat → Bool
  | 0 => true
  | k + 1 => wy_ha P r o s g k && decide (wy_as P r o s k → wy_ho P r g k)
/-- the value that the index is asked for -/
def wy_wa (P : wq_St) (r : Nat) (o : Nat → Int) (s : Nat) (g : Nat → Nat) (k : Nat) : Int :=
  if P 16 (6 * r + k) = 0 then P 19 (6 * r + k) else if P 17 (6 * r + k) = o s then wy_gv P r g (P 20 (6 * r + k)) (P 21 (6 * r + k)) else wy_gv P r g (P 17 (6 * r + k)) (P 18 (6 * r + k))
def wy_cw (P : wq_St) (t c : Nat) (v : Int) : Nat → Int
  | 0 => 0
  | i + 1 => wy_cw P t c v i + (if P 3 (40 * t + i) ≠ 0 ∧ wy_va P t c i = v then 1 else 0)
abbrev wy_is (P : wq_St) (r : Nat) (o : Nat → Int) (s : Nat) : Nat := (P 2 (wy_tb P r (o s))).toNat
def wy_mi (P : wq_St) (r : Nat) (o w : Nat → Int) (s : Nat) (g : Nat → Nat) : Int :=
  if w s = -1 then wy_ct P (wy_tb P r (o s)) (wy_is P r o s) else 1 + wy_cw P (wy_tb P r (o s)) (w s).toNat (wy_wa P r o s g (wy_uo P r o s (w s) (P 15 r).toNat).toNat) (wy_is P r o s)
abbrev wy_gg (P : wq_St) (r : Nat) (o : Nat → Int) (s : Nat) (g : Nat → Nat) (i : Nat) : Prop := P 3 (40 * wy_tb P r (o s) + i) ≠ 0 ∧ wy_ha P r o s (wy_gu g (o s) i) (P 15 r).toNat = true
def wy_rw (f : (Nat → Nat) → Int) (P : wq_St) (r : Nat) (o : Nat → Int) : Nat → Nat → (Nat → Nat) → Int
  | 0, _, g => f g
  | d + 1, s, g => wy_su (fun i => if wy_gg P r o s g i then wy_rw f P r o d (s + 1) (wy_gu g (o s) i) else 0) (wy_is P r o s)
def wy_rt (P : wq_St) (r : Nat) (o w : Nat → Int) : Nat → Nat → (Nat → Nat) → Int
  | 0, _, _ => 0
  | d + 1, s, g => wy_mi P r o w s g + wy_su (fun i => if wy_gg P r o s g i then wy_rt P r o w d (s + 1) (wy_gu g (o s) i) else 0) (wy_is P r o s)
/-- the weight of a choice: what is summed up -/
def wy_sv (P : wq_St) (r : Nat) (g : Nat → Nat) : Int := if P 22 r = -1 then 0 else wy_gv P r g (P 22 r) (P 28 r)
/-- a plan that can be run -/
def wy_vp (P : wq_St) (r : Nat) (o w : Nat → Int) : Prop := wy_pm o ∧ (∀ j : Nat, (j : Int) < P 13 r → o j < P 13 r ∧ wy_ps o (o j) = (j : Int)) ∧ (∀ x : Int, 0 ≤ x → x < P 13 r → wy_ps o x < P 13 r) ∧ ∀ s : Nat, (s : Int) < P 13 r → -1 ≤ w s ∧ w s ≤ 2 ∧ (w s ≠ -1 → wy_uo P r o s (w s) (P 15 r).toNat ≠ -1)
def wy_pf (P : wq_St) (r q : Nat) (S : wq_St) (o w : Nat → Int) : Prop := (∀ j : Nat, (j : Int) < P 13 r → S (q + 1) j = o j ∧ S (q + 2) j = w j) ∧ ∀ x : Nat, (x : Int) < P 13 r → S (q + 3) x = wy_ps o (x : Int)
section
variable {P S : wq_St} {r q s : Nat} {o w : Nat → Int} {g : Nat → Nat}
theorem wy_pf_sp (hI : wy_iv P) (hR : wy_R wy_co S P) (hr : r < 8) (hv : wy_vp P r o w) (hp : wy_pf P r q S o w) (hs : (s : Int) < P 13 r) : wy_sp P r o s q S := by
  have b13 := wy_b13 hI r
  refine wy_sp_of hI hR hr (n := (P 13 r).toNat) (by omega) (by omega) fun x hx => ?_
  rw [hp.2 x hx, if_pos]
  have h := hv.2.2.1 (x : Int) (by omega) hx
  omega
theorem wy_gv_b (hI : wy_iv P) (x c : Int) : 0 ≤ wy_gv P r g x c ∧ wy_gv P r g x c ≤ 999 := wy_b4 hI _
theorem wy_x_chosen (hI : wy_iv P) (hR : wy_R wy_co S P) (hr : r < 8) {x c : Int} (hx : 0 ≤ x ∧ x ≤ 2) (hc : 0 ≤ c ∧ c ≤ 2) (hg : S 281 x.toNat = (g x.toNat : Int)) (hb : g x.toNat < 40) : f_X6_chosenValue (199 + 9 * r) x c S = some (wy_gv P r g x c, S) := by
  have s14 := wy_c14 hR hr (j := x.toNat) (by omega)
  have b14 := wy_b14 hI (3 * r + x.toNat)
  have et : (P 14 (3 * r + x.toNat)).toNat = wy_tb P r x := rfl
  have ht := @wy_tb_lt P r hI x
  have c4 := wy_c4 hR ht hb (c := c.toNat) (by omega)
  unfold f_X6_chosenValue
  simp (disch := omega) only [wy_ix, s14, et, hg, Int.toNat_natCast, c4]
  rfl
/-- what is chosen of the sources of the steps ahead of s -/
def wy_ch (P : wq_St) (o : Nat → Int) (s : Nat) (S : wq_St) (g : Nat → Nat) : Prop := ∀ j : Nat, j < s → S 281 (o j).toNat = (g (o j).toNat : Int) ∧ g (o j).toNat < 40
theorem wy_ch_x (hs : s < 3) (hch : wy_ch P o (s + 1) S g) {x : Int} (hx : wy_ps o x ≤ (s : Int)) : S 281 x.toNat = (g x.toNat : Int) ∧ g x.toNat < 40 := by
  have hb := wy_ps_b o x
  have h := @wy_ps_o o x (wy_ps o x).toNat (by omega) (by omega)
  have h2 := hch (wy_ps o x).toNat (by omega)
  rw [h] at h2
  exact h2
theorem wy_as_le {k : Nat} (h : wy_as P r o s k) : wy_ps o (P 17 (6 * r + k)) ≤ (s : Int) ∧ (P 16 (6 * r + k) = 3 → wy_ps o (P 20 (6 * r + k)) ≤ (s : Int)) := by
  unfold wy_as wy_cs at h
  split at h
  · omega
  · refine ⟨by omega, fun h3 => ?_⟩
    rename_i hn
    have : ¬(wy_ps o (P 17 (6 * r + k)) < wy_ps o (P 20 (6 * r + k))) := fun hh => hn ⟨h3, hh⟩
    omega
theorem wy_x_holds (hI : wy_iv P) (hR : wy_R wy_co S P) (hr : r < 8) (hs : s < 3) (hch : wy_ch P o (s + 1) S g) {k : Nat} (hk : (k : Int) < P 15 r) (ha : wy_as P r o s k) : f_X6_holds (199 + 9 * r) (199 + 9 * r + 3 + k) S = some ((if wy_ho P r g k then 1 else 0), S) := by
  have b15 := wy_b15 hI r
  have b16 := wy_b16 hI (6 * r + k)
  have b17 := wy_b17 hI (6 * r + k)
  have b18 := wy_b18 hI (6 * r + k)
  have b19 := wy_b19 hI (6 * r + k)
  have b20 := wy_b20 hI (6 * r + k)
  have b21 := wy_b21 hI (6 * r + k)
  have hk6 : k < 6 := by omega
  have hle := wy_as_le ha
  have h1 := wy_ch_x (P := P) hs hch hle.1
  have hv1 := @wy_gv_b P r g hI (P 17 (6 * r + k)) (P 18 (6 * r + k))
  have hv2 := @wy_gv_b P r g hI (P 20 (6 * r + k)) (P 21 (6 * r + k))
  unfold f_X6_holds
  rw [wy_c17 hR hr hk6, wy_c18 hR hr hk6, wy_bd (wy_x_chosen hI hR hr ⟨b17.1, b17.2⟩ ⟨b18.1, b18.2⟩ h1.1 h1.2)]
  simp (disch := omega) only [wy_c16 hR hr hk6, wy_c19 hR hr hk6, wy_c20 hR hr hk6, wy_c21 hR hr hk6, wq_w_id]
  by_cases k0 : P 16 (6 * r + k) = 0
  · rw [if_pos k0]
    by_cases e : wy_gv P r g (P 17 (6 * r + k)) (P 18 (6 * r + k)) = P 19 (6 * r + k)
    · rw [if_pos e, if_pos ⟨fun _ => e, fun h => by omega, fun h => by omega, fun h => by omega⟩]
    · rw [if_neg e, if_neg (fun h => e (h.1 k0))]
  · rw [if_neg k0]
    by_cases k1 : P 16 (6 * r + k) = 1
    · rw [if_pos k1]
      by_cases e : P 19 (6 * r + k) ≤ wy_gv P r g (P 17 (6 * r + k)) (P 18 (6 * r + k))
      · rw [if_pos e, if_neg (fun h => by have := h.2.1 k1; omega)]
      · rw [if_neg e, if_pos ⟨fun h => by omega, fun h => by omega, fun h => by omega, fun h => by omega⟩]
    · rw [if_neg k1]
      by_cases k2 : P 16 (6 * r + k) = 2
      · rw [if_pos k2]
        by_cases e : wy_gv P r g (P 17 (6 * r + k)) (P 18 (6 * r + k)) ≤ P 19 (6 * r + k)
        · rw [if_pos e, if_neg (fun h => by have := h.2.2.1 k2; omega)]
        · rw [if_neg e, if_pos ⟨fun h => by omega, fun h => by omega, fun h => by omega, fun h => by omega⟩]
      · have k3 : P 16 (6 * r + k) = 3 := by omega
        have h2 := wy_ch_x (P := P) hs hch (hle.2 k3)
        rw [if_neg k2, wy_bd (wy_x_chosen hI hR hr ⟨b20.1, b20.2⟩ ⟨b21.1, b21.2⟩ h2.1 h2.2)]
        by_cases e : wy_gv P r g (P 17 (6 * r + k)) (P 18 (6 * r + k)) = wy_gv P r g (P 20 (6 * r + k)) (P 21 (6 * r + k))
        · rw [wq_w_id (by omega) (by omega), if_pos e, if_pos ⟨fun h => by omega, fun h => by omega, fun h => by omega, fun _ => e⟩]
        · rw [wq_w_id (by omega) (by omega), if_neg e, if_neg (fun h => e (h.2.2.2 k3))]
theorem wy_ha_s (k : Nat) : wy_ha P r o s g (k + 1) = (wy_ha P r o s g k && decide (wy_as P r o s k → wy_ho P r g k)) := rfl
theorem wy_ha_f {k : Nat} (ha : wy_as P r o s k) (hn : ¬wy_ho P r g k) : ∀ {n : Nat}, k < n → wy_ha P r o s g n = false
  | 0, h => by omega
  | n + 1, h => by
    rw [wy_ha_s]
    by_cases e : k = n
    · subst e
      rw [decide_eq_false (fun h => hn (h ha)), Bool.and_false]
    · rw [wy_ha_f ha hn (by omega), Bool.false_and]
theorem wy_ha_t {k : Nat} : ∀ {n : Nat}, wy_ha P r o s g n = true → k < n → wy_as P r o s k → wy_ho P r g k
  | 0, _, h, _ => by omega
  | n + 1, h, hk, ha => by
    rw [wy_ha_s, Bool.and_eq_true] at h
    by_cases e : k = n
    · subst e
      exact (of_decide_eq_true h.2) ha
    · exact wy_ha_t h.1 (by omega) ha
theorem wy_x_hold (hI : wy_iv P) (hR : wy_R wy_co S P) (hr : r < 8) (hs : s < 3) (hsp : wy_sp P r o s q S) (hch : wy_ch P o (s + 1) S g) : f_X6_conditionsHold (199 + 9 * r) q (s : Int) S = some ((if wy_ha P r o s g (P 15 r).toNat = true then 1 else 0), S) := by
  have b15 := wy_b15 hI r
  unfold f_X6_conditionsHold
  have key := wy_up (fun n i (_ : Unit) => l_X6_conditionsHold_3 (199 + 9 * r) q (s : Int) (fun S6 => some (1, S6)) n (i : Int) S = some ((if wy_ha P r o s g (P 15 r).toNat = true then 1 else 0), S)) (P 15 r).toNat (fun i _ => wy_ha P r o s g i = true) ?_ ?_ wq_fu 0 () (by omega) (wy_fu' (by omega)) rfl
  · exact key
  · intro n i _ hi h0 ih
    have hk : (i : Int) < P 15 r := by omega
    obtain ⟨v, e1, e2, e3⟩ := hsp i hk
    have e : ((i : Int) + 1) = ((i + 1 : Nat) : Int) := by omega
    rw [l_X6_conditionsHold_3_s]
    unfold b_X6_conditionsHold_3
    simp (disch := omega) only [wy_ix, Int.toNat_natCast, wy_c15 hR hr, wq_w_id]
    rw [if_neg (by omega), wy_bd e1, e2, e]
    by_cases ha : v = (s : Int)
    · have hap := e3.mp ha
      rw [if_pos ha, wy_bd (wy_x_holds hI hR hr hs hch hk hap)]
      by_cases ho : wy_ho P r g i
      · rw [if_pos ho, if_neg (by decide)]
        refine ih () ?_
        rw [wy_ha_s, h0, decide_eq_true (fun _ => ho)]
        rfl
      · rw [if_neg ho, if_pos wq_w_0, wy_ha_f hap ho hi, if_neg (by decide)]
    · rw [if_neg ha]
      refine ih () ?_
      rw [wy_ha_s, h0, decide_eq_true (fun h => absurd (e3.mpr h) ha)]
      rfl
  · intro n _ h0
    rw [l_X6_conditionsHold_3_s]
    unfold b_X6_conditionsHold_3
    simp (disch := omega) only [wy_c15 hR hr, wq_w_id]
    rw [if_pos (by omega), if_pos h0]
theorem wy_x_wanted (hI : wy_iv P) (hR : wy_R wy_co S P) (hr : r < 8) (hv : wy_vp P r o w) (hp : wy_pf P r q S o w) (hs : (s : Int) < P 13 r) (hw : w s ≠ -1) (hch : wy_ch P o s S g) : f_X6_valueLookedFor (199 + 9 * r) q (s : Int) S = some (wy_wa P r o s g (wy_uo P r o s (w s) (P 15 r).toNat).toNat, S) := by
  have b13 := wy_b13 hI r
  have b15 := wy_b15 hI r
  have hs3 : s < 3 := by omega
  have hws := hv.2.2.2 s hs
  have hos := hv.1.1 s hs3
  have hps := (hv.2.1 s hs).2
  obtain ⟨c, hc⟩ : ∃ c : Nat, w s = (c : Int) := ⟨(w s).toNat, by omega⟩
  have hsp := wy_pf_sp hI hR hr hv hp hs
  obtain ⟨k, hk, hu, hku⟩ := wy_uo_is (hws.2.2 hw)
  have hcfi := wy_x_cfi hI hR hr hs3 (c := c) (by omega) hsp (hp.1 s hs).1 hos hps
  rw [← hc] at hcfi
  have b16 := wy_b16 hI (6 * r + k)
  have b17 := wy_b17 hI (6 * r + k)
  have b18 := wy_b18 hI (6 * r + k)
  have b20 := wy_b20 hI (6 * r + k)
  have b21 := wy_b21 hI (6 * r + k)
  have hk6 : k < 6 := by omega
  have hoth := hI.2.2.2.2.2.2.1 r k (by omega)
  unfold f_X6_valueLookedFor
  rw [wy_ix (by omega) (by omega) (by omega), Int.toNat_natCast, (hp.1 s hs).2, wy_bd hcfi, hku, Int.toNat_natCast]
  have hqo := (hp.1 s hs).1
  simp (disch := omega) only [wy_ix, Int.toNat_natCast, hqo, wy_c16 hR hr hk6, wy_c17 hR hr hk6, wy_c18 hR hr hk6, wy_c19 hR hr hk6, wy_c20 hR hr hk6, wy_c21 hR hr hk6, wq_w_id]
  rw [if_neg (by omega)]
  unfold wy_wa
  have hle := wy_as_le hu.2.1
  have chx : ∀ x : Int, wy_ps o x < (s : Int) → S 281 x.toNat = (g x.toNat : Int) ∧ g x.toNat < 40 := fun x hx => by
    have hb := wy_ps_b o x
    have h := @wy_ps_o o x (wy_ps o x).toNat (by omega) (by omega)
    have h2 := hch (wy_ps o x).toNat (by omega)
    rw [h] at h2
    exact h2
  rcases hu.1 with k0 | k3
  · rw [if_neg (by omega), if_pos k0]
  · have n0 : ¬P 16 (6 * r + k) = 0 := by omega
    rw [if_pos k3, if_neg n0]
    have hne := hoth.2 k3
    by_cases e : P 17 (6 * r + k) = o s
    · have hx : wy_ps o (P 20 (6 * r + k)) < (s : Int) := by
        have h1 := hle.2 k3
        by_cases h2 : wy_ps o (P 20 (6 * r + k)) = (s : Int)
        · have := wy_ps_o hs3 h2
          omega
        · omega
      have h2 := chx _ hx
      rw [if_pos e, if_pos e, wy_bd (wy_x_chosen hI hR hr ⟨b20.1, b20.2⟩ ⟨b21.1, b21.2⟩ h2.1 h2.2)]
    · have hx : wy_ps o (P 17 (6 * r + k)) < (s : Int) := by
        have h1 := hle.1
        by_cases h2 : wy_ps o (P 17 (6 * r + k)) = (s : Int)
        · exact absurd (wy_ps_o hs3 h2).symm e
        · omega
      have h2 := chx _ hx
      rw [if_neg e, if_neg e, wy_bd (wy_x_chosen hI hR hr ⟨b17.1, b17.2⟩ ⟨b18.1, b18.2⟩ h2.1 h2.2)]
end
