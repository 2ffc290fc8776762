/-! TWO STORES: runs take and find the same; sums are greater by d for each choice -/
def wz_gr (P : wq_St) (r : Nat) (o : Nat → Int) (s : Nat) (g : Nat → Nat) : Prop := ∀ j : Nat, j < s → (g (o j).toNat : Int) < P 2 (wy_tb P r (o j))
section
variable {P Q : wq_St} {d : Int} {r t s : Nat} {o w : Nat → Int} {by_ : Int} {g : Nat → Nat}
theorem wz_gx (hg : wz_gr P r o s g) (hs : s ≤ 3) {x : Int} (hx : wy_ps o x < (s : Int)) : (g x.toNat : Int) < P 2 (wy_tb P r x) := by
  have b := wy_ps_b o x
  obtain ⟨j, hj⟩ : ∃ j : Nat, wy_ps o x = (j : Int) := ⟨(wy_ps o x).toNat, by omega⟩
  have e := wy_ps_o (s := j) (by omega) hj
  have h := hg j (by omega)
  rw [e] at h
  exact h
theorem wz_gv (hI : wy_iv P) (h : wz_L d P Q) {x c : Int} (hx : (g x.toNat : Int) < P 2 (wy_tb P r x)) (hc : 0 ≤ c ∧ c < P 1 (wy_tb P r x)) : wy_gv Q r g x c = wy_gv P r g x c + d := by
  unfold wy_gv
  rw [wz_tb h.1]
  exact wz_va h.2.1 (wy_tb_lt hI x) hx (by omega)
theorem wz_ho (hI : wy_iv P) (h : wz_L d P Q) (hC : wz_C P) (hr : r < 8) (hs : s < 3) (hg : wz_gr P r o (s + 1) g) {k : Nat} (hk : (k : Int) < P 15 r) (ha : wy_as P r o s k) : wy_ho Q r g k ↔ wy_ho P r g k := by
  obtain ⟨a1, a2⟩ := wy_as_le ha
  have hcol := hC.1 r k hr hk
  have b18 := wy_b18 hI (6 * r + k)
  have b21 := wy_b21 hI (6 * r + k)
  have e1 := wz_gv hI h (c := P 18 (6 * r + k)) (wz_gx hg (by omega) (x := P 17 (6 * r + k)) (by omega)) ⟨b18.1, hcol.1⟩
  have e2 : P 16 (6 * r + k) = 3 → wy_gv Q r g (P 20 (6 * r + k)) (P 21 (6 * r + k)) = wy_gv P r g (P 20 (6 * r + k)) (P 21 (6 * r + k)) + d := fun k3 => wz_gv hI h (wz_gx hg (by omega) (by have := a2 k3; omega)) ⟨b21.1, hcol.2 k3⟩
  have hn := h.2.2.2 r k hr hk
  unfold wy_ho
  rw [wz_e h.1 16 _ (by decide), wz_e h.1 17 _ (by decide), wz_e h.1 18 _ (by decide), wz_e h.1 20 _ (by decide), wz_e h.1 21 _ (by decide), e1]
  constructor
  · rintro ⟨p0, p1, p2, p3⟩
    refine ⟨fun q => ?_, fun q => ?_, fun q => ?_, fun q => ?_⟩
    · have := p0 q
      have := hn (by omega)
      omega
    · have := p1 q
      have := hn (by omega)
      omega
    · have := p2 q
      have := hn (by omega)
      omega
    · have := p3 q
      have := e2 q
      omega
  · rintro ⟨p0, p1, p2, p3⟩
    refine ⟨fun q => ?_, fun q => ?_, fun q => ?_, fun q => ?_⟩
    · have := p0 q
      have := hn (by omega)
      omega
    · have := p1 q
      have := hn (by omega)
      omega
    · have := p2 q
      have := hn (by omega)
      omega
    · have := p3 q
      have := e2 q
      omega
theorem wz_ha (hI : wy_iv P) (h : wz_L d P Q) (hC : wz_C P) (hr : r < 8) (hs : s < 3) (hg : wz_gr P r o (s + 1) g) : ∀ n : Nat, (n : Int) ≤ P 15 r → wy_ha Q r o s g n = wy_ha P r o s g n
  | 0, _ => rfl
  | n + 1, hn => by
    rw [wy_ha_s, wy_ha_s, wz_ha hI h hC hr hs hg n (by omega)]
    congr 1
    refine decide_eq_decide.mpr ⟨fun h1 ha => ?_, fun h1 ha => ?_⟩
    · exact (wz_ho hI h hC hr hs hg (by omega) ha).mp (h1 ((wz_as h.1 n).mpr ha))
    · have ha' := (wz_as h.1 n).mp ha
      exact (wz_ho hI h hC hr hs hg (by omega) ha').mpr (h1 ha')
/-- the source that is looked through, and the other one -/
theorem wz_use (hI : wy_iv P) (hv : wy_vp P r o w) (hs : (s : Int) < P 13 r) {c : Int} {k : Nat} (hk : (k : Int) < P 15 r) (hu : wy_us P r o s c k) : (P 17 (6 * r + k) = o s ∧ P 18 (6 * r + k) = c ∧ (P 16 (6 * r + k) = 3 → wy_ps o (P 20 (6 * r + k)) < (s : Int))) ∨ (P 17 (6 * r + k) ≠ o s ∧ P 16 (6 * r + k) = 3 ∧ P 20 (6 * r + k) = o s ∧ P 21 (6 * r + k) = c ∧ wy_ps o (P 17 (6 * r + k)) < (s : Int)) := by
  have b13 := wy_b13 hI r
  have hs3 : s < 3 := by omega
  obtain ⟨u1, u2, u3⟩ := hu
  obtain ⟨a1, a2⟩ := wy_as_le u2
  have hcs : wy_cs (wy_ps o) P r k = (s : Int) := u2
  have hne := (hI.2.2.2.2.2.2.1 r k hk).2
  have hos := (hv.2.1 s hs).2
  by_cases e : P 17 (6 * r + k) = o s
  · rw [if_pos e] at u3
    refine Or.inl ⟨e, u3, fun k3 => ?_⟩
    have h2 := a2 k3
    rcases Int.lt_or_eq_of_le h2 with h3 | h3
    · exact h3
    · have := wy_ps_o hs3 h3
      exact absurd (this.symm.trans e.symm) (hne k3).2
  · rw [if_neg e] at u3
    have h17 : wy_ps o (P 17 (6 * r + k)) < (s : Int) := by
      rcases Int.lt_or_eq_of_le a1 with h3 | h3
      · exact h3
      · exact absurd (wy_ps_o hs3 h3).symm e
    unfold wy_cs at hcs
    by_cases c3 : P 16 (6 * r + k) = 3 ∧ wy_ps o (P 17 (6 * r + k)) < wy_ps o (P 20 (6 * r + k))
    · rw [if_pos c3] at hcs
      exact Or.inr ⟨e, c3.1, (wy_ps_o hs3 hcs).symm, u3, h17⟩
    · rw [if_neg c3] at hcs
      omega
theorem wz_wa (hI : wy_iv P) (h : wz_L d P Q) (hC : wz_C P) (hr : r < 8) (hv : wy_vp P r o w) (hs : (s : Int) < P 13 r) (hg : wz_gr P r o s g) {c : Int} {k : Nat} (hk : (k : Int) < P 15 r) (hu : wy_us P r o s c k) : wy_wa Q r o s g k = wy_wa P r o s g k + d := by
  have b13 := wy_b13 hI r
  have hcol := hC.1 r k hr hk
  have b18 := wy_b18 hI (6 * r + k)
  have b21 := wy_b21 hI (6 * r + k)
  unfold wy_wa
  rw [wz_e h.1 16 _ (by decide), wz_e h.1 17 _ (by decide), wz_e h.1 18 _ (by decide), wz_e h.1 20 _ (by decide), wz_e h.1 21 _ (by decide)]
  by_cases k0 : P 16 (6 * r + k) = 0
  · rw [if_pos k0, if_pos k0]
    exact h.2.2.2 r k hr hk (by omega)
  · have k3 : P 16 (6 * r + k) = 3 := hu.1.resolve_left k0
    rw [if_neg k0, if_neg k0]
    rcases wz_use hI hv hs hk hu with ⟨u1, u2, u3⟩ | ⟨u1, u2, u3, u4, u5⟩
    · rw [if_pos u1, if_pos u1]
      exact wz_gv hI h (wz_gx hg (by omega) (u3 k3)) ⟨b21.1, hcol.2 k3⟩
    · rw [if_neg u1, if_neg u1]
      exact wz_gv hI h (wz_gx hg (by omega) u5) ⟨b18.1, hcol.1⟩
theorem wz_cw (h : wz_L d P Q) (ht : t < 4) {c : Nat} (hc : (c : Int) < P 1 t) (v : Int) : ∀ n : Nat, (n : Int) ≤ P 2 t → wy_cw Q t c (v + d) n = wy_cw P t c v n
  | 0, _ => rfl
  | n + 1, hn => by
    have e : (Q 3 (40 * t + n) ≠ 0 ∧ wy_va Q t c n = v + d) ↔ (P 3 (40 * t + n) ≠ 0 ∧ wy_va P t c n = v) := by
      rw [wz_e h.1 3 _ (by decide), wz_va h.2.1 ht (by omega) hc, wz_c]
    simp only [wy_cw]
    rw [wz_cw h ht hc v n (by omega)]
    by_cases h1 : P 3 (40 * t + n) ≠ 0 ∧ wy_va P t c n = v
    · rw [if_pos h1, if_pos (e.mpr h1)]
    · rw [if_neg h1, if_neg (fun h' => h1 (e.mp h'))]
theorem wz_is (h : wz_E P Q) : wy_is Q r o s = wy_is P r o s := by
  unfold wy_is
  rw [wz_tb h, wz_e h 2 _ (by decide)]
theorem wz_mi (hI : wy_iv P) (h : wz_L d P Q) (hC : wz_C P) (hr : r < 8) (hv : wy_vp P r o w) (hs : (s : Int) < P 13 r) (hg : wz_gr P r o s g) : wy_mi Q r o w s g = wy_mi P r o w s g := by
  have hw := hv.2.2.2 s hs
  unfold wy_mi
  rw [wz_is h.1, wz_tb h.1, wz_ct h.1, wz_uo h.1, wz_e h.1 15 _ (by decide)]
  by_cases w1 : w s = -1
  · rw [if_pos w1, if_pos w1]
  · rw [if_neg w1, if_neg w1]
    obtain ⟨k, k1, k2, k3⟩ := wy_uo_is (hw.2.2 w1)
    have hk : (k : Int) < P 15 r := by omega
    have hcol := hC.1 r k hr hk
    have b2 := wy_b2 hI (wy_tb P r (o s))
    have eis : wy_is P r o s = (P 2 (wy_tb P r (o s))).toNat := rfl
    rw [k3, Int.toNat_natCast, wz_wa hI h hC hr hv hs hg hk k2, wz_cw h (wy_tb_lt hI (o s)) ?_ _ _ (by omega)]
    rcases wz_use hI hv hs hk k2 with ⟨u1, u2, -⟩ | ⟨u1, u2, u3, u4, -⟩
    · rw [u1, u2] at hcol
      have := hcol.1
      omega
    · have h2 := hcol.2 u2
      rw [u3, u4] at h2
      omega
theorem wz_gn (hg : wz_gr P r o s g) {i : Nat} (hi : i < wy_is P r o s) : wz_gr P r o (s + 1) (wy_gu g (o s) i) := fun j hj => by
  by_cases e : (o j).toNat = (o s).toNat
  · have e2 : wy_tb P r (o j) = wy_tb P r (o s) := by
      unfold wy_tb
      rw [e]
    have e3 : wy_gu g (o s) i (o j).toNat = i := if_pos e
    have eis : wy_is P r o s = (P 2 (wy_tb P r (o s))).toNat := rfl
    rw [e3, e2]
    omega
  · rw [wy_gu_ne e]
    refine hg j ?_
    rcases Nat.lt_or_eq_of_le (Nat.le_of_lt_succ hj) with h | h
    · exact h
    · exact absurd (by rw [h]) e
theorem wz_gg (hI : wy_iv P) (h : wz_L d P Q) (hC : wz_C P) (hr : r < 8) (hs : s < 3) (hg : wz_gr P r o s g) {i : Nat} (hi : i < wy_is P r o s) : wy_gg Q r o s g i ↔ wy_gg P r o s g i := by
  have b15 := wy_b15 hI r
  unfold wy_gg
  rw [wz_tb h.1, wz_e h.1 3 _ (by decide), wz_e h.1 15 _ (by decide), wz_ha hI h hC hr hs (wz_gn hg hi) _ (by omega)]
theorem wz_su (a b c : Nat → Int) (e : Int) : ∀ n : Nat, (∀ i, i < n → a i = b i + e * c i) → wy_su a n = wy_su b n + e * wy_su c n
  | 0, _ => by simp [wy_su]
  | n + 1, h => by
    simp only [wy_su]
    rw [wz_su a b c e n (fun i hi => h i (by omega)), h n (by omega), Int.mul_add]
    omega
theorem wz_rt (hI : wy_iv P) (h : wz_L d P Q) (hC : wz_C P) (hr : r < 8) (hv : wy_vp P r o w) : ∀ (n s : Nat) (g : Nat → Nat), (n : Int) + (s : Int) = P 13 r → wz_gr P r o s g → wy_rt Q r o w n s g = wy_rt P r o w n s g
  | 0, _, _, _, _ => rfl
  | n + 1, s, g, hn, hg => by
    have b13 := wy_b13 hI r
    simp only [wy_rt]
    rw [wz_mi hI h hC hr hv (by omega) hg, wz_is h.1]
    congr 1
    refine wy_su_congr (fun i hi => ?_)
    have hgg := wz_gg hI h hC hr (by omega) hg hi
    by_cases c : wy_gg P r o s g i
    · rw [if_pos c, if_pos (hgg.mpr c)]
      exact wz_rt hI h hC hr hv n (s + 1) _ (by omega) (wz_gn hg hi)
    · rw [if_neg c, if_neg (fun h' => c (hgg.mp h'))]
theorem wz_rw (hI : wy_iv P) (h : wz_L d P Q) (hC : wz_C P) (hr : r < 8) (f f' : (Nat → Nat) → Int) (e : Int) (hf : ∀ g : Nat → Nat, wz_gr P r o (P 13 r).toNat g → f' g = f g + e) : ∀ (n s : Nat) (g : Nat → Nat), (n : Int) + (s : Int) = P 13 r → wz_gr P r o s g → wy_rw f' Q r o n s g = wy_rw f P r o n s g + e * wy_rw (fun _ => 1) P r o n s g
  | 0, s, g, hn, hg => by
    simp only [wy_rw]
    rw [hf g (by rw [show (P 13 r).toNat = s by omega]; exact hg), Int.mul_one]
  | n + 1, s, g, hn, hg => by
    have b13 := wy_b13 hI r
    simp only [wy_rw]
    rw [wz_is h.1]
    refine wz_su _ _ _ e _ (fun i hi => ?_)
    have hgg := wz_gg hI h hC hr (by omega) hg hi
    by_cases c : wy_gg P r o s g i
    · rw [if_pos c, if_pos c, if_pos (hgg.mpr c)]
      exact wz_rw hI h hC hr f f' e hf n (s + 1) _ (by omega) (wz_gn hg hi)
    · rw [if_neg c, if_neg c, if_neg (fun h' => c (hgg.mp h')), Int.mul_zero, Int.add_zero]
theorem wz_sv (hI : wy_iv P) (h : wz_L d P Q) (hC : wz_C P) (hr : r < 8) (hv : wy_vp P r o w) (hg : wz_gr P r o (P 13 r).toNat g) : wy_sv Q r g = wy_sv P r g + (if P 22 r = -1 then 0 else d) := by
  have b13 := wy_b13 hI r
  have b22 := wy_b22 hI r
  unfold wy_sv
  rw [wz_e h.1 22 _ (by decide), wz_e h.1 28 _ (by decide)]
  by_cases c : P 22 r = -1
  · rw [if_pos c, if_pos c, if_pos c]
    rfl
  · obtain ⟨s1, s2, s3, s4⟩ := hI.2.2.2.2.2.2.2.1 r c
    rw [if_neg c, if_neg c, if_neg c]
    have hp := hv.2.2.1 (P 22 r) (by omega) s1
    exact wz_gv hI h (wz_gx hg (by omega) (by omega)) ⟨s3, hC.2 r hr c⟩
theorem wz_g0 : wz_gr P r o 0 g := fun j hj => absurd hj (Nat.not_lt_zero j)
theorem wz_vp (hI : wy_iv P) (h1 : 1 ≤ P 13 r) : wy_vp P r (wy_pp P r).2.1 (wy_pp P r).2.2 := wy_vp_pp hI h1
theorem wz_tr (hI : wy_iv P) (h : wz_L d P Q) (hC : wz_C P) (hr : r < 8) : wy_tr Q r = wy_tr P r := by
  have b13 := wy_b13 hI r
  unfold wy_tr wy_tk
  rw [wz_pp hI h hC hr, wz_e h.1 13 _ (by decide)]
  by_cases h1 : 1 ≤ P 13 r
  · exact wz_rt hI h hC hr (wz_vp hI h1) _ 0 _ (by omega) wz_g0
  · rw [show (P 13 r).toNat = 0 by omega]
    rfl
theorem wz_fn1 (hI : wy_iv P) (h : wz_L d P Q) (hC : wz_C P) (hr : r < 8) : wy_fn (fun _ => 1) Q r o = wy_fn (fun _ => 1) P r o := by
  have b13 := wy_b13 hI r
  unfold wy_fn
  rw [wz_e h.1 13 _ (by decide)]
  by_cases h1 : P 13 r ≤ 0
  · rw [if_pos h1, if_pos h1]
  · rw [if_neg h1, if_neg h1, wz_rw hI h hC hr (fun _ => 1) (fun _ => 1) 0 (fun _ _ => rfl) _ 0 _ (by omega) wz_g0, Int.zero_mul, Int.add_zero]
theorem wz_fns (hI : wy_iv P) (h : wz_L d P Q) (hC : wz_C P) (hr : r < 8) (hv : 1 ≤ P 13 r → wy_vp P r o w) : wy_fn (wy_sv Q r) Q r o = wy_fn (wy_sv P r) P r o + (if P 22 r = -1 then 0 else d) * wy_fn (fun _ => 1) P r o := by
  have b13 := wy_b13 hI r
  unfold wy_fn
  rw [wz_e h.1 13 _ (by decide)]
  by_cases h1 : P 13 r ≤ 0
  · rw [if_pos h1, if_pos h1, if_pos h1, Int.mul_zero]
    rfl
  · rw [if_neg h1, if_neg h1, if_neg h1]
    exact wz_rw hI h hC hr (wy_sv P r) (wy_sv Q r) _ (fun g hg => wz_sv hI h hC hr (hv (by omega)) hg) _ 0 _ (by omega) wz_g0
theorem wz_fd (hI : wy_iv P) (h : wz_L d P Q) (hC : wz_C P) (hr : r < 8) : wy_fd Q r = wy_fd P r := by
  unfold wy_fd
  rw [wz_pp hI h hC hr]
  exact wz_fn1 hI h hC hr
theorem wz_sd (hI : wy_iv P) (h : wz_L d P Q) (hC : wz_C P) (hr : r < 8) : wy_sd Q r = wy_sd P r + (if P 22 r = -1 then 0 else d) * wy_fd P r := by
  unfold wy_sd wy_fd
  rw [wz_pp hI h hC hr]
  exact wz_fns hI h hC hr (fun h1 => wz_vp hI h1)
theorem wz_wr (hI : wy_iv P) (h : wz_L d P Q) (hC : wz_C P) (hr : r < 8) : wy_wr Q r ↔ wy_wr P r := by
  unfold wy_wr
  rw [wz_ft hI h hC hr, wz_tr hI h hC hr]
end
