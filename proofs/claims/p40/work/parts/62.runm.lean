/-! a run as a whole; the model's pieces of it -/
def wy_g0 : Nat → Nat := fun _ => 0
def wy_tk (P : wq_St) (r : Nat) (o w : Nat → Int) : Int := wy_rt P r o w (P 13 r).toNat 0 wy_g0
def wy_fn (f : (Nat → Nat) → Int) (P : wq_St) (r : Nat) (o : Nat → Int) : Int := if P 13 r ≤ 0 then 0 else wy_rw f P r o (P 13 r).toNat 0 wy_g0
section
variable {P S M : wq_St} {r q s : Nat} {o w : Nat → Int} {g : Nat → Nat}
theorem wy_x_go (hI : wy_iv P) (hR : wy_R wy_co S P) (hr : r < 8) (hv : 1 ≤ P 13 r → wy_vp P r o w) (hq : q + 3 < 280) (hpf : 1 ≤ P 13 r → wy_pf P r q S o w) : ∃ S', f_X6_goThrough (199 + 9 * r) q S = some (0, S') ∧ S' 280 2 = wy_tk P r o w ∧ S' 280 3 = wy_fn (fun _ => 1) P r o ∧ S' 280 4 = wy_fn (wy_sv P r) P r o ∧ wy_f2 S S' := by
  have b13 := wy_b13 hI r
  have hf3 : wy_f2 S (wq_set (wq_set (wq_set S 280 2 0) 280 3 0) 280 4 0) := wy_f2_s (wy_f2_s (wy_f2_s (fun _ _ _ => rfl) (by omega)) (by omega)) (by omega)
  have c2 : wq_set (wq_set (wq_set S 280 2 0) 280 3 0) 280 4 0 280 2 = 0 := by rw [wy_set_ne (by omega), wy_set_ne (by omega), wy_set_at rfl rfl]
  have c3 : wq_set (wq_set (wq_set S 280 2 0) 280 3 0) 280 4 0 280 3 = 0 := by rw [wy_set_ne (by omega), wy_set_at rfl rfl]
  have c4 : wq_set (wq_set (wq_set S 280 2 0) 280 3 0) 280 4 0 280 4 = 0 := wy_set_at rfl rfl
  unfold f_X6_goThrough
  rw [wy_lt, wy_lt, wy_lt]
  generalize wq_set (wq_set (wq_set S 280 2 0) 280 3 0) 280 4 0 = S3 at *
  have hR3 := wy_f2_R hR hf3
  rw [wy_c13 hR3 hr, wq_w_id (by omega) (by omega)]
  unfold wy_fn wy_tk
  by_cases h0 : P 13 r ≤ 0
  · have e0 : (P 13 r).toNat = 0 := by omega
    rw [if_pos h0, if_pos h0, if_pos h0, e0]
    exact ⟨S3, rfl, c2, c3, c4, hf3⟩
  · rw [if_neg h0, if_neg h0, if_neg h0]
    obtain ⟨S', e1, z2, z3, z4, hf, -⟩ := wy_x_step hI hr (hv (by omega)) hq (P 13 r).toNat wq_dp 0 wy_g0 S3 (by omega) (by unfold wq_dp; omega) hR3 (wy_f2_pf hq (hpf (by omega)) hf3) (fun j hj => by omega)
    have e1' : f_X6_takeStep wq_dp (199 + 9 * r) q 0 S3 = some (0, S') := e1
    rw [wy_bd e1']
    exact ⟨S', rfl, by omega, by omega, by omega, wy_f2_t hf3 hf⟩
/-- the model's picks of the steps ahead of s -/
def wy_cm (o : Nat → Int) (s : Nat) (M : wq_St) (g : Nat → Nat) : Prop := ∀ j : Nat, j < s → M 31 j = (g (o j).toNat : Int) ∧ g (o j).toNat < 40
theorem wy_cm_x (hs : s ≤ 3) (hch : wy_cm o s M g) {x : Int} (hx : wy_ps o x < (s : Int)) : M 31 (wy_ps o x).toNat = (g x.toNat : Int) ∧ g x.toNat < 40 := by
  have hb := wy_ps_b o x
  have h := @wy_ps_o o x (wy_ps o x).toNat (by omega) (by omega)
  have h2 := hch (wy_ps o x).toNat (by omega)
  rw [h] at h2
  exact h2
theorem wy_m_picked (hI : wy_iv P) (hM : wy_M wy_co M P) (hp : wy_pm o) (h27 : ∀ j, j < 3 → M 27 j = o j) (hr : r < 8) {x c : Int} (hx : 0 ≤ x ∧ x ≤ 2) (hc : 0 ≤ c ∧ c ≤ 2) (hg : M 31 (wy_ps o x).toNat = (g x.toNat : Int)) (hb : g x.toNat < 40) : f_X9_pickedAt (r : Int) x c M = some (wy_gv P r g x c, M) := by
  have ht := @wy_tb_lt P r hI x
  have b14 := wy_b14 hI (3 * r + x.toNat)
  have hps := wy_ps_b o x
  have hps3 := hp.2 x hx.1 hx.2
  have e14 : M 14 (3 * r + x.toNat) = ((wy_tb P r x : Nat) : Int) := by
    rw [wy_m hM (by omega)]
    unfold wy_tb
    omega
  have en : (3 * (r : Int) + x).toNat = 3 * r + x.toNat := by omega
  obtain ⟨c', hc'⟩ : ∃ c' : Nat, c = (c' : Int) := ⟨c.toNat, by omega⟩
  subst hc'
  unfold f_X9_pickedAt
  rw [wy_ix (by omega) (by omega) (by omega), en, wy_bd (wy_m_stepOf hp h27 hx.1 hx.2), wy_ix (by omega) (by omega) (by omega), e14, hg, wy_bd (wy_m_valueAt (P := P) (fun j => wy_m hM (by omega)) ht hb (by omega))]
  unfold wy_gv
  rw [Int.toNat_natCast]
theorem wy_m_holds (hI : wy_iv P) (hM : wy_M wy_co M P) (hp : wy_pm o) (h27 : ∀ j, j < 3 → M 27 j = o j) (hr : r < 8) (hs : s < 3) (hch : wy_cm o (s + 1) M g) {k : Nat} (hk : k < 6) (ha : wy_as P r o s k) : f_X9_holds (r : Int) (6 * (r : Int) + (k : Int)) M = some ((if wy_ho P r g k then 1 else 0), M) := by
  have b16 := wy_b16 hI (6 * r + k)
  have b17 := wy_b17 hI (6 * r + k)
  have b18 := wy_b18 hI (6 * r + k)
  have b19 := wy_b19 hI (6 * r + k)
  have b20 := wy_b20 hI (6 * r + k)
  have b21 := wy_b21 hI (6 * r + k)
  have e16 : M 16 (6 * r + k) = P 16 (6 * r + k) := wy_m hM (by omega)
  have e17 : M 17 (6 * r + k) = P 17 (6 * r + k) := wy_m hM (by omega)
  have e18 : M 18 (6 * r + k) = P 18 (6 * r + k) := wy_m hM (by omega)
  have e19 : M 19 (6 * r + k) = P 19 (6 * r + k) := wy_m hM (by omega)
  have e20 : M 20 (6 * r + k) = P 20 (6 * r + k) := wy_m hM (by omega)
  have e21 : M 21 (6 * r + k) = P 21 (6 * r + k) := wy_m hM (by omega)
  have hle := wy_as_le ha
  have h1 := wy_cm_x (o := o) (by omega) hch (x := P 17 (6 * r + k)) (by omega)
  have hv1 := @wy_gv_b P r g hI (P 17 (6 * r + k)) (P 18 (6 * r + k))
  have hv2 := @wy_gv_b P r g hI (P 20 (6 * r + k)) (P 21 (6 * r + k))
  have w1 : wq_w 1 = 1 := rfl
  have w2 : wq_w 2 = 2 := rfl
  have en : (6 * (r : Int) + (k : Int)).toNat = 6 * r + k := by omega
  have ix48 : ∀ {α : Type} {f : Nat → Option α}, wq_ix (6 * (r : Int) + (k : Int)) 48 f = f (6 * r + k) := fun {α f} => by rw [wy_ix (by omega) (by omega) (by omega), en]
  unfold f_X9_holds
  rw [ix48, ix48, e17, e18, wy_bd (wy_m_picked hI hM hp h27 hr ⟨b17.1, b17.2⟩ ⟨b18.1, b18.2⟩ h1.1 h1.2), ix48, e16, wq_w_id (x := P 16 (6 * r + k)) (by omega) (by omega)]
  by_cases k0 : P 16 (6 * r + k) = 0
  · rw [if_pos k0, ix48, e19, wq_w_id (by omega) (by omega), wq_w_id (by omega) (by omega)]
    by_cases e : wy_gv P r g (P 17 (6 * r + k)) (P 18 (6 * r + k)) = P 19 (6 * r + k)
    · rw [if_pos e, if_pos ⟨fun _ => e, fun h => by omega, fun h => by omega, fun h => by omega⟩]
    · rw [if_neg e, if_neg (fun h => e (h.1 k0))]
  · rw [if_neg k0, ix48, e16, wq_w_id (x := P 16 (6 * r + k)) (by omega) (by omega), w1]
    by_cases k1 : P 16 (6 * r + k) = 1
    · rw [if_pos k1, ix48, e19, wq_w_id (by omega) (by omega), wq_w_id (by omega) (by omega)]
      by_cases e : P 19 (6 * r + k) ≤ wy_gv P r g (P 17 (6 * r + k)) (P 18 (6 * r + k))
      · rw [if_pos e, if_neg (fun h => by have := h.2.1 k1; omega)]
      · rw [if_neg e, if_pos ⟨fun h => by omega, fun h => by omega, fun h => by omega, fun h => by omega⟩]
    · rw [if_neg k1, ix48, e16, wq_w_id (x := P 16 (6 * r + k)) (by omega) (by omega), w2]
      by_cases k2 : P 16 (6 * r + k) = 2
      · rw [if_pos k2, ix48, e19, wq_w_id (by omega) (by omega), wq_w_id (by omega) (by omega)]
        by_cases e : wy_gv P r g (P 17 (6 * r + k)) (P 18 (6 * r + k)) ≤ P 19 (6 * r + k)
        · rw [if_pos e, if_neg (fun h => by have := h.2.2.1 k2; omega)]
        · rw [if_neg e, if_pos ⟨fun h => by omega, fun h => by omega, fun h => by omega, fun h => by omega⟩]
      · have k3 : P 16 (6 * r + k) = 3 := by omega
        have hle2 := hle.2 k3
        have h2 := wy_cm_x (o := o) (by omega) hch (x := P 20 (6 * r + k)) (by omega)
        rw [if_neg k2, ix48, ix48, e20, e21, wy_bd (wy_m_picked hI hM hp h27 hr ⟨b20.1, b20.2⟩ ⟨b21.1, b21.2⟩ h2.1 h2.2), wq_w_id (by omega) (by omega), wq_w_id (by omega) (by omega)]
        by_cases e : wy_gv P r g (P 17 (6 * r + k)) (P 18 (6 * r + k)) = wy_gv P r g (P 20 (6 * r + k)) (P 21 (6 * r + k))
        · rw [if_pos e, if_pos ⟨fun h => by omega, fun h => by omega, fun h => by omega, fun _ => e⟩]
        · rw [if_neg e, if_neg (fun h => e (h.2.2.2 k3))]
theorem wy_m_holdsAt (hI : wy_iv P) (hM : wy_M wy_co M P) (hp : wy_pm o) (h27 : ∀ j, j < 3 → M 27 j = o j) (hr : r < 8) (hs : s < 3) (hch : wy_cm o (s + 1) M g) : f_X9_holdsAt (r : Int) (s : Int) M = some ((if wy_ha P r o s g (P 15 r).toNat = true then 1 else 0), M) := by
  have b15 := wy_b15 hI r
  have e15 : M 15 r = P 15 r := wy_m hM (by omega)
  unfold f_X9_holdsAt
  have key := wy_up (fun n i (_ : Unit) => l_X9_holdsAt_8 (r : Int) (s : Int) (fun u6 S7 => wq_gd (u6 = 0 ∨ u6 = 1) <| some (u6, S7)) n (if wy_ha P r o s g i = true then 1 else 0) (6 * (r : Int) + (i : Int)) M = some ((if wy_ha P r o s g (P 15 r).toNat = true then 1 else 0), M)) (P 15 r).toNat (fun _ _ => True) ?_ ?_ wq_fu 0 () (by omega) (wy_fu' (by omega)) trivial
  · have e0 : (6 * (r : Int) + ((0 : Nat) : Int)) = 6 * (r : Int) := by omega
    rw [e0] at key
    exact key
  · intro n i _ hi _ ih
    have ih := ih () trivial
    have hcs := @wy_cs_b P r o i
    have e : (6 * (r : Int) + (i : Int) + 1) = 6 * (r : Int) + ((i + 1 : Nat) : Int) := by omega
    rw [l_X9_holdsAt_8_s]
    unfold b_X9_holdsAt_8
    rw [wy_ix (by omega) (by omega) (by omega), Int.toNat_natCast, e15, wq_w_id (x := 6 * (r : Int) + P 15 r) (by omega) (by omega), wq_w_id (x := 6 * (r : Int) + (i : Int)) (by omega) (by omega), if_neg (by omega), e]
    rw [wy_ha_s] at ih
    by_cases h0 : wy_ha P r o s g i = true
    · rw [h0, Bool.true_and] at ih
      rw [if_pos h0, if_neg (by decide), wy_bd (wy_m_soc hI hM hp h27 hr (by omega)), wq_w_id (by omega) (by omega), wq_w_id (by omega) (by omega)]
      by_cases ha : wy_cs (wy_ps o) P r i = (s : Int)
      · rw [if_pos ha, wy_bd (wy_m_holds hI hM hp h27 hr hs hch (by omega) ha)]
        by_cases ho : wy_ho P r g i
        · rw [if_pos ho, if_neg (by decide)]
          rw [decide_eq_true (fun _ => ho), if_pos rfl] at ih
          exact ih
        · rw [if_neg ho, if_pos wq_w_0]
          rw [decide_eq_false (fun h => ho (h ha)), if_neg (by decide)] at ih
          exact ih
      · rw [if_neg ha]
        rw [decide_eq_true (fun h => absurd h ha), if_pos rfl] at ih
        exact ih
    · have hf : wy_ha P r o s g i = false := by simpa using h0
      rw [hf, Bool.false_and, if_neg (by decide)] at ih
      rw [if_neg h0, if_pos wq_w_0]
      exact ih
  · intro n _ _
    rw [l_X9_holdsAt_8_s]
    unfold b_X9_holdsAt_8
    rw [wy_ix (by omega) (by omega) (by omega), Int.toNat_natCast, e15, if_pos (by rw [wq_w_id (by omega) (by omega), wq_w_id (by omega) (by omega)]; omega)]
    exact wq_gd_t (by split <;> omega)
theorem wy_m_minutes (hI : wy_iv P) (hM : wy_M wy_co M P) (hv : wy_vp P r o w) (h27 : ∀ j, j < 3 → M 27 j = o j) (h28 : ∀ j, j < 3 → M 28 j = w j) (hr : r < 8) (hs : (s : Int) < P 13 r) (hch : wy_cm o s M g) : f_X9_minutesAt (r : Int) (s : Int) M = some (wy_mi P r o w s g, M) := by
  have b13 := wy_b13 hI r
  have b15 := wy_b15 hI r
  have hs3 : s < 3 := by omega
  have hp := hv.1
  have hos := hp.1 s hs3
  have hws := hv.2.2.2 s hs
  have ht := @wy_tb_lt P r hI (o s)
  have b2 := wy_b2 hI (wy_tb P r (o s))
  have b14 := wy_b14 hI (3 * r + (o s).toNat)
  have m2 : ∀ j, M 2 j = P 2 j := fun j => wy_m hM (by omega)
  have m3 : ∀ j, M 3 j = P 3 j := fun j => wy_m hM (by omega)
  have m4 : ∀ j, M 4 j = P 4 j := fun j => wy_m hM (by omega)
  have e14 : M 14 (3 * r + (o s).toNat) = ((wy_tb P r (o s) : Nat) : Int) := by
    rw [wy_m hM (by omega)]
    unfold wy_tb
    omega
  have en : (3 * (r : Int) + o s).toNat = 3 * r + (o s).toNat := by omega
  have w1 : wq_w (-1) = -1 := rfl
  have q28 := h28 s hs3
  have q27 := h27 s hs3
  have ixs : ∀ {α : Type} {f : Nat → Option α}, wq_ix (s : Int) 3 f = f s := fun {α f} => by rw [wy_ix (by omega) (by omega) (by omega), Int.toNat_natCast]
  unfold f_X9_minutesAt wy_mi
  rw [ixs, q27, wy_ix (by omega) (by omega) (by omega), en, e14, ixs, q28, w1, wq_w_id (x := w s) (by omega) (by omega)]
  by_cases hw1 : w s = -1
  · rw [if_pos hw1, if_pos hw1, wy_bd (wy_m_rowsOf hI m2 m3 ht)]
  · rw [if_neg hw1, if_neg hw1, ixs, q28, wy_bd (wy_m_useOf hI hM hp h27 hr hs3 (by omega)), if_neg (hws.2.2 hw1)]
    obtain ⟨k, hk, hu, hku⟩ := wy_uo_is (hws.2.2 hw1)
    rw [hku, Int.toNat_natCast]
    have hk6 : k < 6 := by omega
    have b16 := wy_b16 hI (6 * r + k)
    have b17 := wy_b17 hI (6 * r + k)
    have b18 := wy_b18 hI (6 * r + k)
    have b19 := wy_b19 hI (6 * r + k)
    have b20 := wy_b20 hI (6 * r + k)
    have b21 := wy_b21 hI (6 * r + k)
    have e16 : M 16 (6 * r + k) = P 16 (6 * r + k) := wy_m hM (by omega)
    have e17 : M 17 (6 * r + k) = P 17 (6 * r + k) := wy_m hM (by omega)
    have e18 : M 18 (6 * r + k) = P 18 (6 * r + k) := wy_m hM (by omega)
    have e19 : M 19 (6 * r + k) = P 19 (6 * r + k) := wy_m hM (by omega)
    have e20 : M 20 (6 * r + k) = P 20 (6 * r + k) := wy_m hM (by omega)
    have e21 : M 21 (6 * r + k) = P 21 (6 * r + k) := wy_m hM (by omega)
    have hoth := hI.2.2.2.2.2.2.1 r k (by omega)
    have en6 : (6 * (r : Int) + (k : Int)).toNat = 6 * r + k := by omega
    have ix48 : ∀ {α : Type} {f : Nat → Option α}, wq_ix (6 * (r : Int) + (k : Int)) 48 f = f (6 * r + k) := fun {α f} => by rw [wy_ix (by omega) (by omega) (by omega), en6]
    -- the count
    have cnt : ∀ v : Int, 0 ≤ v ∧ v ≤ 999 → j_X9_minutesAt_123 (s : Int) ((wy_tb P r (o s) : Nat) : Int) v M = some (1 + wy_cw P (wy_tb P r (o s)) (w s).toNat v (wy_is P r o s), M) := by
      intro v hvb
      unfold j_X9_minutesAt_123
      have key := wy_up (fun n i (_ : Unit) => l_X9_minutesAt_131 (s : Int) ((wy_tb P r (o s) : Nat) : Int) v (fun u19 S20 => some (u19, S20)) n (1 + wy_cw P (wy_tb P r (o s)) (w s).toNat v i) (i : Int) M = some (1 + wy_cw P (wy_tb P r (o s)) (w s).toNat v (wy_is P r o s), M)) (wy_is P r o s) (fun _ _ => True) ?_ ?_ wq_fu 0 () (by omega) (wy_fu' (by unfold wy_is; omega)) trivial
      · exact key
      · intro n i _ hi _ ih
        have ih := ih () trivial
        have hi40 : i < 40 := by unfold wy_is at hi; omega
        have hii : (i : Int) < P 2 (wy_tb P r (o s)) := by unfold wy_is at hi; omega
        have b3 := wy_b3 hI (40 * wy_tb P r (o s) + i)
        have b4 : 0 ≤ wy_va P (wy_tb P r (o s)) (w s).toNat i ∧ wy_va P (wy_tb P r (o s)) (w s).toNat i ≤ 999 := wy_b4 hI _
        have e : ((i : Int) + 1) = ((i + 1 : Nat) : Int) := by omega
        have hwc : w s = (((w s).toNat : Nat) : Int) := by omega
        rw [l_X9_minutesAt_131_s]
        unfold b_X9_minutesAt_131
        rw [wy_ix (by omega) (by omega) (by omega), Int.toNat_natCast, m2, wq_w_id (x := P 2 (wy_tb P r (o s))) (by omega) (by omega), wq_w_id (x := (i : Int)) (by omega) (by omega), if_neg (by omega), wy_ix (by omega) (by omega) (by omega), wy_n40, m3, wq_w_id (x := P 3 (40 * wy_tb P r (o s) + i)) (by omega) (by omega), e]
        simp only [wy_cw] at ih
        by_cases h0 : P 3 (40 * wy_tb P r (o s) + i) = 0
        · rw [if_neg (fun h => h.1 h0)] at ih
          rw [if_pos h0, Int.add_assoc]
          exact ih
        · have hval := wy_m_valueAt (P := P) m4 ht hi40 (c := (w s).toNat) (by omega)
          rw [← hwc] at hval
          rw [if_neg h0, ixs, q28, wy_bd hval, wq_w_id (by omega) (by omega), wq_w_id (by omega) (by omega)]
          by_cases hva : wy_va P (wy_tb P r (o s)) (w s).toNat i = v
          · rw [if_pos ⟨h0, hva⟩] at ih
            rw [if_pos hva, Int.add_assoc]
            exact ih
          · rw [if_neg (fun h => hva h.2)] at ih
            rw [if_neg hva, Int.add_assoc]
            exact ih
      · intro n _ _
        rw [l_X9_minutesAt_131_s]
        unfold b_X9_minutesAt_131
        rw [wy_ix (by omega) (by omega) (by omega), Int.toNat_natCast, m2, if_pos (by rw [wq_w_id (by omega) (by omega), wq_w_id (by unfold wy_is; omega) (by unfold wy_is; omega)]; unfold wy_is; omega)]
    have hv1 := @wy_gv_b P r g hI (P 17 (6 * r + k)) (P 18 (6 * r + k))
    have hv2 := @wy_gv_b P r g hI (P 20 (6 * r + k)) (P 21 (6 * r + k))
    have hle := wy_as_le hu.2.1
    unfold wy_wa
    rw [ix48, e16, wq_w_id (x := P 16 (6 * r + k)) (by omega) (by omega)]
    rcases hu.1 with k0 | k3
    · rw [if_pos k0, if_pos k0, ix48, e19]
      exact cnt _ b19
    · have n0 : ¬P 16 (6 * r + k) = 0 := by omega
      have hne := (hoth.2 k3).2
      rw [if_neg n0, if_neg n0, ix48, e17, ixs, q27, wq_w_id (by omega) (by omega), wq_w_id (by omega) (by omega)]
      by_cases e : P 17 (6 * r + k) = o s
      · have hx : wy_ps o (P 20 (6 * r + k)) < (s : Int) := by
          have h1 := hle.2 k3
          by_cases h2 : wy_ps o (P 20 (6 * r + k)) = (s : Int)
          · have := wy_ps_o hs3 h2
            omega
          · omega
        have h2 := wy_cm_x (by omega) hch hx
        rw [if_pos e, if_pos e, ix48, ix48, e20, e21, wy_bd (wy_m_picked hI hM hp h27 hr ⟨b20.1, b20.2⟩ ⟨b21.1, b21.2⟩ h2.1 h2.2)]
        exact cnt _ hv2
      · have hx : wy_ps o (P 17 (6 * r + k)) < (s : Int) := by
          have h1 := hle.1
          by_cases h2 : wy_ps o (P 17 (6 * r + k)) = (s : Int)
          · exact absurd (wy_ps_o hs3 h2).symm e
          · omega
        have h2 := wy_cm_x (by omega) hch hx
        rw [if_neg e, if_neg e, ix48, ix48, e17, e18, wy_bd (wy_m_picked hI hM hp h27 hr ⟨b17.1, b17.2⟩ ⟨b18.1, b18.2⟩ h2.1 h2.2)]
        exact cnt _ hv1
end
