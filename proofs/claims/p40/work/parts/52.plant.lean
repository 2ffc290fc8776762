/-! the first of the least -/
def wy_mn {α : Type} (x y : Option (Int × α)) : Option (Int × α) := match x, y with
  | none, y => y
  | some a, none => some a
  | some a, some b => if b.1 < a.1 then some b else some a
def wy_mf {α : Type} (g : Nat → Option (Int × α)) : Nat → Option (Int × α)
  | 0 => none
  | n + 1 => wy_mn (wy_mf g n) (g n)
theorem wy_mn_0 {α : Type} (x : Option (Int × α)) : wy_mn x none = x := by cases x <;> rfl
theorem wy_mn_1 {α : Type} (x : Option (Int × α)) : wy_mn none x = x := by cases x <;> rfl
theorem wy_mn_s {α : Type} (a b : Int × α) : wy_mn (some a) (some b) = if b.1 < a.1 then some b else some a := rfl
theorem wy_mn_a {α : Type} (x y z : Option (Int × α)) : wy_mn (wy_mn x y) z = wy_mn x (wy_mn y z) := by
  cases x with
  | none => rw [wy_mn_1, wy_mn_1]
  | some a =>
    cases y with
    | none => rw [wy_mn_0, wy_mn_1]
    | some b =>
      cases z with
      | none => rw [wy_mn_0, wy_mn_0]
      | some c =>
        rw [wy_mn_s, wy_mn_s]
        by_cases h1 : b.1 < a.1
        · rw [if_pos h1, wy_mn_s]
          by_cases h2 : c.1 < b.1
          · rw [if_pos h2, wy_mn_s, if_pos (by omega)]
          · rw [if_neg h2, wy_mn_s, if_pos h1]
        · rw [if_neg h1, wy_mn_s]
          by_cases h2 : c.1 < b.1
          · rw [if_pos h2, wy_mn_s]
          · rw [if_neg h2, wy_mn_s, if_neg h1, if_neg (by omega)]
theorem wy_mf_none {α : Type} {g : Nat → Option (Int × α)} {a : Nat} : ∀ {b : Nat}, a ≤ b → (∀ i, a ≤ i → i < b → g i = none) → wy_mf g b = wy_mf g a
  | 0, h, _ => by rw [Nat.le_zero.mp h]
  | b + 1, h, hg => by
    by_cases e : a = b + 1
    · rw [e]
    · simp only [wy_mf]
      rw [hg b (by omega) (by omega), wy_mn_0]
      exact wy_mf_none (by omega) fun i h1 h2 => hg i h1 (by omega)
theorem wy_mf_congr {α : Type} {g g' : Nat → Option (Int × α)} : ∀ {b : Nat}, (∀ i, i < b → g i = g' i) → wy_mf g b = wy_mf g' b
  | 0, _ => rfl
  | b + 1, h => by
    simp only [wy_mf]
    rw [h b (by omega), wy_mf_congr fun i hi => h i (by omega)]
/-! ways of a step, and plans -/
/-- by the index of column i at step s, with ch choices ahead of it -/
def wy_wi (P : wq_St) (r : Nat) (o : Nat → Int) (s : Nat) (ch : Int) (i : Nat) : Option (Int × Int) :=
  if (i : Int) < P 1 (wy_tb P r (o s)) ∧ P 5 (3 * wy_tb P r (o s) + i) ≠ 0 ∧ wy_uo P r o s (i : Int) (P 15 r).toNat ≠ -1 then some (ch + Int.tdiv (ch * P 6 (wy_tb P r (o s))) (wy_u1 (P 7 (3 * wy_tb P r (o s) + i))), (i : Int)) else none
def wy_wy (P : wq_St) (r : Nat) (o : Nat → Int) (s : Nat) (ch : Int) : Nat → Option (Int × Int)
  | 0 => some (ch * P 6 (wy_tb P r (o s)), -1)
  | i + 1 => wy_wi P r o s ch i
def wy_bw (P : wq_St) (r : Nat) (o : Nat → Int) (s : Nat) (ch : Int) : Int × Int := (wy_mf (wy_wy P r o s ch) 4).getD (0, -1)
def wy_nt (P : wq_St) (r : Nat) (o : Nat → Int) (s : Nat) (ch : Int) : Int := wy_bh P r o s (P 15 r).toNat (ch * P 6 (wy_tb P r (o s)))
def wy_ud (o : Nat → Int) (s : Nat) (x : Int) : Nat → Int := fun j => if j = s then x else o j
abbrev wy_pl : Type := (Nat → Int) × (Nat → Int)
def wy_T (P : wq_St) (r : Nat) : Nat → Nat → (Nat → Int) → (Nat → Int) → Int → Int → Option (Int × wy_pl)
  | 0, _, o, w, _, sp => some (sp, (o, w))
  | d + 1, s, o, w, ch, sp => wy_mf (fun x => if wy_ps o (x : Int) < (s : Int) then none else wy_T P r d (s + 1) (wy_ud o s (x : Int)) (wy_ud w s (wy_bw P r (wy_ud o s (x : Int)) s ch).2) (wy_nt P r (wy_ud o s (x : Int)) s ch) (sp + (wy_bw P r (wy_ud o s (x : Int)) s ch).1)) (P 13 r).toNat
def wy_cb : Nat → Int
  | 0 => 1000
  | s + 1 => 40 * wy_cb s
theorem wy_cb_b : ∀ {s : Nat}, s ≤ 4 → 1000 ≤ wy_cb s ∧ wy_cb s ≤ 2560000000
  | 0, _ => by decide
  | 1, _ => by decide
  | 2, _ => by decide
  | 3, _ => by decide
  | 4, _ => by decide
  | s + 5, h => by omega
section
variable {P S : wq_St} {r : Nat} {o : Nat → Int} {s : Nat} {ch : Int}
theorem wy_tb_lt (hI : wy_iv P) (x : Int) : wy_tb P r x < 4 := by
  have h := wy_b14 hI (3 * r + x.toNat)
  unfold wy_tb
  omega
theorem wy_mf_wy (hI : wy_iv P) (hc : 0 ≤ ch) : ∀ n, ∃ a w, wy_mf (wy_wy P r o s ch) (n + 1) = some (a, w) ∧ 0 ≤ a ∧ a ≤ ch * P 6 (wy_tb P r (o s)) ∧ -1 ≤ w ∧ w < (n : Int)
  | 0 => by
    have b6 := wy_b6 hI (wy_tb P r (o s))
    have hm := wy_mul_le hc b6.1 b6.2
    refine ⟨_, _, wy_mn_1 _, hm.1, Int.le_refl _, by decide, by decide⟩
  | n + 1 => by
    obtain ⟨a, w, h1, h2, h3, h4, h5⟩ := wy_mf_wy hI hc n
    have b6 := wy_b6 hI (wy_tb P r (o s))
    have hm := wy_mul_le hc b6.1 b6.2
    rw [wy_mf, h1]
    simp only [wy_wy]
    unfold wy_wi
    split
    · rw [wy_mn_s]
      have hd := @wy_tdiv_b _ (wy_u1 (P 7 (3 * wy_tb P r (o s) + n))) hm.1 (wy_u1_b _)
      split
      · rename_i hlt
        dsimp only at hlt
        exact ⟨_, _, rfl, by omega, by omega, by omega, by omega⟩
      · exact ⟨a, w, rfl, h2, h3, h4, by omega⟩
    · rw [wy_mn_0]
      exact ⟨a, w, rfl, h2, h3, h4, by omega⟩
theorem wy_bw_b (hI : wy_iv P) (hc : 0 ≤ ch) : wy_mf (wy_wy P r o s ch) 4 = some (wy_bw P r o s ch) ∧ 0 ≤ (wy_bw P r o s ch).1 ∧ (wy_bw P r o s ch).1 ≤ ch * P 6 (wy_tb P r (o s)) ∧ -1 ≤ (wy_bw P r o s ch).2 ∧ (wy_bw P r o s ch).2 ≤ 2 := by
  obtain ⟨a, w, h1, h2, h3, h4, h5⟩ := @wy_mf_wy P r o s ch hI hc 3
  unfold wy_bw
  rw [h1]
  exact ⟨rfl, h2, h3, h4, by simp only [Option.getD_some]; omega⟩
theorem wy_x_behind (hI : wy_iv P) (hR : wy_R wy_co S P) (hr : r < 8) (hs : s < 3) (hsp : wy_sp P r o s 272 S) (hord : S (272 + 1) s = o s) (ho : 0 ≤ o s ∧ o s ≤ 2) (hc : 0 ≤ ch ∧ ch ≤ 2560000000) :
    f_X4_choicesBehind (199 + 9 * r) (s : Int) ch S = some (wy_nt P r o s ch, S) := by
  have b15 := wy_b15 hI r
  have s14 := wy_c14 hR hr (j := (o s).toNat) (by omega)
  have b14 := wy_b14 hI (3 * r + (o s).toNat)
  have et : (P 14 (3 * r + (o s).toNat)).toNat = wy_tb P r (o s) := rfl
  have ht := @wy_tb_lt P r hI (o s)
  have b6 := wy_b6 hI (wy_tb P r (o s))
  have hm := wy_mul_le hc.1 b6.1 b6.2
  unfold f_X4_choicesBehind
  simp (disch := omega) only [wy_ix, Int.toNat_natCast, hord, s14, et, wy_c6 hR ht, wq_w_id, wq_lt]
  have key := wy_up (fun n i (_ : Unit) => l_X4_choicesBehind_34 (199 + 9 * r) (s : Int) (fun u11 S12 => some (u11, S12)) n (wy_bh P r o s i (ch * P 6 (wy_tb P r (o s)))) (i : Int) S = some (wy_nt P r o s ch, S)) (P 15 r).toNat (fun _ _ => True) ?_ ?_ wq_fu 0 () (by omega) (wy_fu' (by omega)) trivial
  · exact key
  · intro n i _ hi _ ih
    have ih := ih () trivial
    have hk : (i : Int) < P 15 r := by omega
    obtain ⟨v, e1, e2, e3⟩ := hsp i hk
    have hb := @wy_bh_b P r hI o s _ hm.1 i
    rw [l_X4_choicesBehind_34_s]
    unfold b_X4_choicesBehind_34
    simp (disch := omega) only [wy_ix, Int.toNat_natCast, wy_c15 hR hr, wq_w_id]
    rw [if_neg (by omega), wy_bd e1, e2]
    have e : ((i : Int) + 1) = ((i + 1 : Nat) : Int) := by omega
    rw [e]
    simp only [wy_bh] at ih
    by_cases ha : v = (s : Int)
    · rw [if_pos (e3.mp ha)] at ih
      rw [if_pos ha, wy_bd (wy_x_narrow hI hR hr hk ⟨hb.1, by omega⟩)]
      exact ih
    · rw [if_neg (fun h => ha (e3.mpr h))] at ih
      rw [if_neg ha]
      exact ih
  · intro n _ _
    rw [l_X4_choicesBehind_34_s]
    unfold b_X4_choicesBehind_34
    simp (disch := omega) only [wy_c15 hR hr, wq_w_id]
    rw [if_pos (by omega)]
    rfl
theorem wy_cmp0 {a b : Int} (h1 : -9223372036854775808 ≤ a) (h2 : a < 9223372036854775808) (h3 : -9223372036854775808 ≤ b) (h4 : b < 9223372036854775808) : (0 ≤ wq_w (wq_cmp a b)) ↔ ¬(a < b) := by
  unfold wq_cmp
  rw [wq_v_id h1 h2, wq_v_id h3 h4]
  by_cases h : a < b
  · rw [if_pos h]
    simp [h]
    decide
  · rw [if_neg h]
    by_cases h' : a = b
    · rw [if_pos h']
      simp [h]
      decide
    · rw [if_neg h']
      simp [h]
      decide
theorem wy_x_ways (hI : wy_iv P) (hR : wy_R wy_co S P) (hr : r < 8) (hs : s < 3) (hsp : wy_sp P r o s 272 S) (hord : S (272 + 1) s = o s) (ho : 0 ≤ o s ∧ o s ≤ 2) (hps : wy_ps o (o s) = (s : Int)) (hc : 0 ≤ ch ∧ ch ≤ 2560000000) :
    ∃ S', f_X4_takeCheapestWay (199 + 9 * r) (s : Int) ch S = some ((wy_bw P r o s ch).1, S') ∧ S' 274 s = (wy_bw P r o s ch).2 ∧ ∀ k j, ¬(k = 274 ∧ j = s) → S' k j = S k j := by
  have s14 := wy_c14 hR hr (j := (o s).toNat) (by omega)
  have b14 := wy_b14 hI (3 * r + (o s).toNat)
  have et : (P 14 (3 * r + (o s).toNat)).toNat = wy_tb P r (o s) := rfl
  have ht := @wy_tb_lt P r hI (o s)
  have b6 := wy_b6 hI (wy_tb P r (o s))
  have b1 := wy_b1 hI (wy_tb P r (o s))
  have hm := wy_mul_le hc.1 b6.1 b6.2
  unfold f_X4_takeCheapestWay
  simp (disch := omega) only [wy_ix, Int.toNat_natCast, hord, s14, et, wy_c6 hR ht, wq_w_id, wq_lt]
  have key := wy_up (fun n i (q : Int × wq_St) => ∃ S', l_X4_takeCheapestWay_48 (199 + 9 * r) (s : Int) ch (6 + 48 * wy_tb P r (o s)) (ch * P 6 (wy_tb P r (o s))) (fun u13 S14 => some (u13, S14)) n q.1 (i : Int) q.2 = some ((wy_bw P r o s ch).1, S') ∧ S' 274 s = (wy_bw P r o s ch).2 ∧ ∀ k j, ¬(k = 274 ∧ j = s) → S' k j = S k j) (P 1 (wy_tb P r (o s))).toNat (fun i q => wy_mf (wy_wy P r o s ch) (i + 1) = some (q.1, q.2 274 s) ∧ ∀ k j, ¬(k = 274 ∧ j = s) → q.2 k j = S k j) ?_ ?_ wq_fu 0 (ch * P 6 (wy_tb P r (o s)), wq_set S (272 + 2) s (-1)) (by omega) (wy_fu' (by omega)) ⟨?_, ?_⟩
  · exact key
  · intro n i ⟨y, S1⟩ hi ⟨h0, hf⟩ ih
    dsimp only at h0 hf ih ⊢
    obtain ⟨a, w', g1, g2, g3, g4, g5⟩ := @wy_mf_wy P r o s ch hI hc.1 i
    have hy : 0 ≤ y ∧ y ≤ ch * P 6 (wy_tb P r (o s)) := by
      rw [h0] at g1
      cases g1
      exact ⟨g2, g3⟩
    have hR1 : wy_R wy_co S1 P := fun f j hcf hij => by
      have h := (wy_ok hij).2
      rw [hf _ _ (fun e => h (by unfold wy_scr; omega))]
      exact hR f j hcf hij
    have hsp1 : wy_sp P r o s 272 S1 := by
      intro k hk
      obtain ⟨v, e1, e2, e3⟩ := hsp k hk
      refine ⟨v, ?_, e2, e3⟩
      have hk6 : k < 6 := by have := wy_b15 hI r; omega
      have q0 : ∀ j, S1 (199 + 9 * r + 3 + k) j = S (199 + 9 * r + 3 + k) j := fun j => hf _ _ (by omega)
      have q1 : ∀ j, S1 (272 + 3) j = S (272 + 3) j := fun j => hf _ _ (by omega)
      unfold f_X1_stepIn at e1 ⊢
      simp only [q0, q1]
      have b16 := wy_b16 hI (6 * r + k)
      have b17 := wy_b17 hI (6 * r + k)
      have b20 := wy_b20 hI (6 * r + k)
      simp (disch := omega) only [wy_c16 hR hr hk6, wy_c17 hR hr hk6, wy_c20 hR hr hk6, wy_ix, wq_w_id] at e1 ⊢
      by_cases h3 : P 16 (6 * r + k) = 3
      · rw [if_pos h3] at e1 ⊢
        by_cases hl : wq_w (S (272 + 3) (P 20 (6 * r + k)).toNat) ≤ wq_w (S (272 + 3) (P 17 (6 * r + k)).toNat)
        · rw [if_pos hl] at e1 ⊢
          cases e1; rfl
        · rw [if_neg hl] at e1 ⊢
          cases e1; rfl
      · rw [if_neg h3] at e1 ⊢
        cases e1; rfl
    have hord1 : S1 (272 + 1) s = o s := by rw [hf _ _ (by omega)]; exact hord
    have b5 := wy_b5 hI (3 * wy_tb P r (o s) + i)
    have b7 := wy_b7 hI (3 * wy_tb P r (o s) + i)
    have hu1 := wy_u1_b (P 7 (3 * wy_tb P r (o s) + i))
    have hu2 : wy_u1 (P 7 (3 * wy_tb P r (o s) + i)) ≤ 40 := by unfold wy_u1; split <;> omega
    have hd := @wy_tdiv_b _ (wy_u1 (P 7 (3 * wy_tb P r (o s) + i))) hm.1 hu1
    have hub := @wy_uo_b P r o s (i : Int) (P 15 r).toNat
    have hkb := wy_b15 hI r
    rw [l_X4_takeCheapestWay_48_s]
    unfold b_X4_takeCheapestWay_48
    simp (disch := omega) only [wy_ix, Int.toNat_natCast, wy_c1 hR1 ht, wy_c5 hR1 ht, wq_w_id]
    rw [if_neg (by omega)]
    have e : ((i : Int) + 1) = ((i + 1 : Nat) : Int) := by omega
    rw [e]
    have hskip : wy_wi P r o s ch i = none → wy_mf (wy_wy P r o s ch) (i + 1 + 1) = some (y, S1 274 s) := fun hn => by
      rw [wy_mf, h0]
      simp only [wy_wy]
      rw [hn, wy_mn_0]
    by_cases h5 : P 5 (3 * wy_tb P r (o s) + i) = 0
    · rw [if_pos h5]
      refine ih (y, S1) ⟨hskip ?_, hf⟩
      unfold wy_wi
      rw [if_neg (fun h => h.2.1 h5)]
    · rw [if_neg h5, wy_bd (wy_x_cfi hI hR1 hr hs (by omega) hsp1 hord1 ho hps), wq_w_id (by omega) (by omega)]
      by_cases hu : wy_uo P r o s (i : Int) (P 15 r).toNat = -1
      · rw [if_pos hu]
        refine ih (y, S1) ⟨hskip ?_, hf⟩
        unfold wy_wi
        rw [if_neg (fun h => h.2.2 hu)]
      · rw [if_neg hu]
        have hwi : wy_wi P r o s ch i = some (ch + Int.tdiv (ch * P 6 (wy_tb P r (o s))) (wy_u1 (P 7 (3 * wy_tb P r (o s) + i))), (i : Int)) := by
          unfold wy_wi
          rw [if_pos ⟨by omega, h5, hu⟩]
        have c7 : S1 (6 + 48 * wy_tb P r (o s) + 45 + i) 1 = P 7 (3 * wy_tb P r (o s) + i) := wy_c7 hR1 ht (by omega)
        simp (disch := omega) only [c7, wy_wmax, wq_w_id, wq_v_id, wq_gd_t, wq_divL, wq_lt, wy_cmp0]
        by_cases hlt : ch + Int.tdiv (ch * P 6 (wy_tb P r (o s))) (wy_u1 (P 7 (3 * wy_tb P r (o s) + i))) < y
        · rw [if_neg (fun h => h hlt)]
          refine ih (ch + Int.tdiv (ch * P 6 (wy_tb P r (o s))) (wy_u1 (P 7 (3 * wy_tb P r (o s) + i))), wq_set S1 (272 + 2) s (i : Int)) ⟨?_, ?_⟩
          · dsimp only
            rw [wy_mf, h0]
            simp only [wy_wy]
            rw [hwi, wy_mn_s, if_pos hlt, wy_set_at rfl rfl]
          · intro k j hkj
            dsimp only
            rw [wy_set_ne (by omega)]
            exact hf k j hkj
        · rw [if_pos hlt]
          refine ih (y, S1) ⟨?_, hf⟩
          rw [wy_mf, h0]
          simp only [wy_wy]
          rw [hwi, wy_mn_s, if_neg hlt]
  · intro n ⟨y, S1⟩ ⟨h0, hf⟩
    dsimp only at h0 hf ⊢
    have r4 : S1 (6 + 48 * wy_tb P r (o s)) 4 = P 1 (wy_tb P r (o s)) := by rw [hf _ _ (by omega)]; exact wy_c1 hR ht
    rw [l_X4_takeCheapestWay_48_s]
    unfold b_X4_takeCheapestWay_48
    simp (disch := omega) only [r4, wq_w_id]
    rw [if_pos (by omega)]
    have hb := @wy_bw_b P r o s ch hI hc.1
    have e4 : wy_mf (wy_wy P r o s ch) 4 = wy_mf (wy_wy P r o s ch) ((P 1 (wy_tb P r (o s))).toNat + 1) := wy_mf_none (by omega) fun i h1 h2 => by
      obtain ⟨c, rfl⟩ : ∃ c, i = c + 1 := ⟨i - 1, by omega⟩
      simp only [wy_wy]
      unfold wy_wi
      rw [if_neg (fun h => by omega)]
    rw [e4, h0] at hb
    have e5 := Option.some.inj hb.1
    exact ⟨S1, by rw [← e5], by rw [← e5], hf⟩
  · simp only [wy_mf, wy_wy]
    rw [wy_mn_1, wy_set_at rfl rfl]
  · intro k j hkj
    exact wy_set_ne hkj
end
