section
variable {P : wq_St} {r s : Nat} {o w : Nat → Int} {g g' : Nat → Nat} {f : (Nat → Nat) → Int}
/-- an order of all sources -/
def wy_vo (P : wq_St) (r : Nat) (o : Nat → Int) : Prop := wy_pm o ∧ (∀ j : Nat, (j : Int) < P 13 r → o j < P 13 r ∧ wy_ps o (o j) = (j : Int)) ∧ (∀ x : Int, 0 ≤ x → x < P 13 r → wy_ps o x < P 13 r)
theorem wy_vo_ne (hI : wy_iv P) (hv : wy_vo P r o) {i j : Nat} (hi : (i : Int) < P 13 r) (hj : (j : Int) < P 13 r) (h : i ≠ j) : (o i).toNat ≠ (o j).toNat := fun e => by
  have b13 := wy_b13 hI r
  have h1 := hv.2.1 i hi
  have h2 := hv.2.1 j hj
  have h3 := hv.1.1 i (by omega)
  have h4 := hv.1.1 j (by omega)
  have : o i = o j := by omega
  rw [this] at h1
  omega
/-- g is good up to step s -/
def wy_pg (P : wq_St) (r : Nat) (o : Nat → Int) (s : Nat) (g : Nat → Nat) : Prop := (∀ j : Nat, j < s → P 3 (40 * wy_tb P r (o j) + g (o j).toNat) ≠ 0) ∧ ∀ k : Nat, (k : Int) < P 15 r → wy_cs (wy_ps o) P r k < (s : Int) → wy_ho P r g k
theorem wy_cs_src {k : Nat} {n : Int} (h : wy_cs (wy_ps o) P r k < n) : wy_ps o (P 17 (6 * r + k)) < n ∧ (P 16 (6 * r + k) = 3 → wy_ps o (P 20 (6 * r + k)) < n) := by
  unfold wy_cs at h
  split at h
  · omega
  · refine ⟨by omega, fun h3 => ?_⟩
    rename_i hn
    have : ¬(wy_ps o (P 17 (6 * r + k)) < wy_ps o (P 20 (6 * r + k))) := fun hh => hn ⟨h3, hh⟩
    omega
theorem wy_src_ne (hv : wy_vo P r o) (hs : (s : Int) < P 13 r) {x : Int} (hx : 0 ≤ x) (h : wy_ps o x < (s : Int)) (hI : wy_iv P) : x.toNat ≠ (o s).toNat := fun e => by
  have b13 := wy_b13 hI r
  have h4 := hv.1.1 s (by omega)
  have h2 := hv.2.1 s hs
  have : x = o s := by omega
  rw [this] at h
  omega
theorem wy_rw_NS (hI : wy_iv P) (hv : wy_vo P r o) : ∀ (d s : Nat) (g : Nat → Nat), (d : Int) + (s : Int) = P 13 r → wy_pg P r o s g → wy_rw f P r o d s g = wy_NS f P r o d s g
  | 0, s, g, hd, hp => by
    have b13 := wy_b13 hI r
    have b15 := wy_b15 hI r
    have q1 : wy_tv P r g (P 13 r).toNat = true := by
      refine wy_tv_i fun x hx => ?_
      have hps := hv.2.2 (x : Int) (by omega) (by omega)
      have hb := wy_ps_b o (x : Int)
      have ho := @wy_ps_o o (x : Int) (wy_ps o (x : Int)).toNat (by omega) (by omega)
      have h := hp.1 (wy_ps o (x : Int)).toNat (by omega)
      rw [ho, Int.toNat_natCast] at h
      exact h
    have q2 : wy_hk P r g (P 15 r).toNat = true := by
      refine wy_hk_i fun k hk => ?_
      have hk' : (k : Int) < P 15 r := by omega
      obtain ⟨h17, h20⟩ := hI.2.2.2.2.2.2.1 r k hk'
      have b17 := wy_b17 hI (6 * r + k)
      have b20 := wy_b20 hI (6 * r + k)
      have p17 := hv.2.2 _ b17.1 h17
      refine hp.2 k hk' ?_
      unfold wy_cs
      by_cases h3 : P 16 (6 * r + k) = 3
      · have p20 := hv.2.2 _ b20.1 (h20 h3).1
        split <;> omega
      · rw [if_neg (fun h => h3 h.1)]
        omega
    simp only [wy_rw, wy_NS]
    unfold wy_A
    rw [if_pos ⟨q1, q2⟩]
  | d + 1, s, g, hd, hp => by
    have b13 := wy_b13 hI r
    have b15 := wy_b15 hI r
    have hs : (s : Int) < P 13 r := by omega
    have hs3 : s < 3 := by omega
    have hos := hv.1.1 s hs3
    have hos2 := hv.2.1 s hs
    simp only [wy_rw, wy_NS]
    refine wy_su_congr fun i _ => ?_
    have keep : ∀ k : Nat, (k : Int) < P 15 r → wy_cs (wy_ps o) P r k < (s : Int) → (wy_ho P r g k ↔ wy_ho P r (wy_gu g (o s) i) k) := fun k hk hc => by
      have b17 := wy_b17 hI (6 * r + k)
      have b20 := wy_b20 hI (6 * r + k)
      have hsrc := wy_cs_src hc
      exact wy_ho_congr hI (wy_gu_ne (wy_src_ne hv hs b17.1 hsrc.1 hI)).symm fun h3 => (wy_gu_ne (wy_src_ne hv hs b20.1 (hsrc.2 h3) hI)).symm
    by_cases hg : wy_gg P r o s g i
    · rw [if_pos hg]
      refine wy_rw_NS hI hv d (s + 1) _ (by omega) ⟨fun j hj => ?_, fun k hk hc => ?_⟩
      · by_cases e : j = s
        · subst e
          rw [wy_gu_at]
          exact hg.1
        · rw [wy_gu_ne (wy_vo_ne hI hv (by omega) hs e)]
          exact hp.1 j (by omega)
      · by_cases hcs : wy_cs (wy_ps o) P r k < (s : Int)
        · exact (keep k hk hcs).mp (hp.2 k hk hcs)
        · exact wy_ha_t hg.2 (by omega) (show wy_cs (wy_ps o) P r k = (s : Int) by omega)
    · rw [if_neg hg]
      refine (wy_NS_0 d (s + 1) _ fun g' hg' => ?_).symm
      unfold wy_A
      rw [if_neg]
      intro hh
      have hfix : ∀ x : Int, 0 ≤ x → wy_ps o x ≤ (s : Int) → g' x.toNat = wy_gu g (o s) i x.toNat := fun x hx hpx => hg' x.toNat fun j h1 h2 e => by
        have h3 := hv.2.1 j (by omega)
        have h4 := hv.1.1 j (by omega)
        have : x = o j := by omega
        rw [this] at hpx
        omega
      apply hg
      refine ⟨?_, wy_ha_i fun k hk has => ?_⟩
      · have h := wy_tv_t hh.1 (x := (o s).toNat) (by omega)
        have e1 := hfix (o s) hos.1 (by omega)
        rw [wy_gu_at] at e1
        rw [e1, Int.toNat_of_nonneg hos.1] at h
        exact h
      · have b17 := wy_b17 hI (6 * r + k)
        have b20 := wy_b20 hI (6 * r + k)
        have hle := wy_as_le has
        refine (wy_ho_congr hI (hfix _ b17.1 hle.1) fun h3 => hfix _ b20.1 (hle.2 h3)).mp (wy_hk_t hh.2 hk)
theorem wy_gu_comm {a b : Int} {i j : Nat} (h : a.toNat ≠ b.toNat) : wy_gu (wy_gu g a i) b j = wy_gu (wy_gu g b j) a i := by
  funext y
  unfold wy_gu
  by_cases h1 : y = b.toNat
  · rw [if_pos h1, if_neg (by omega), if_pos h1]
  · rw [if_neg h1]
    by_cases h2 : y = a.toNat
    · rw [if_pos h2, if_pos h2]
    · rw [if_neg h2, if_neg h2, if_neg h1]
end
