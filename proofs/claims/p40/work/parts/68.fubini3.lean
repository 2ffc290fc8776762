section
variable {P : wq_St} {r s : Nat} {o w : Nat → Int} {g g' : Nat → Nat} {f : (Nat → Nat) → Int}
abbrev wy_it (P : wq_St) (r : Nat) (x : Int) : Nat := (P 2 (wy_tb P r x)).toNat
def wy_N2 (f : (Nat → Nat) → Int) (P : wq_St) (r : Nat) (a b : Int) (g : Nat → Nat) : Int := wy_su (fun i => wy_su (fun j => wy_A f P r (wy_gu (wy_gu g a i) b j)) (wy_it P r b)) (wy_it P r a)
def wy_N3 (f : (Nat → Nat) → Int) (P : wq_St) (r : Nat) (a b c : Int) (g : Nat → Nat) : Int := wy_su (fun i => wy_su (fun j => wy_su (fun k => wy_A f P r (wy_gu (wy_gu (wy_gu g a i) b j) c k)) (wy_it P r c)) (wy_it P r b)) (wy_it P r a)
theorem wy_N2_s {a b : Int} (h : a.toNat ≠ b.toNat) : wy_N2 f P r a b g = wy_N2 f P r b a g := by
  unfold wy_N2
  rw [wy_su_swap]
  refine wy_su_congr fun j _ => wy_su_congr fun i _ => ?_
  rw [wy_gu_comm h]
theorem wy_N3_12 {a b c : Int} (h : a.toNat ≠ b.toNat) : wy_N3 f P r a b c g = wy_N3 f P r b a c g := by
  unfold wy_N3
  rw [wy_su_swap]
  refine wy_su_congr fun j _ => wy_su_congr fun i _ => ?_
  rw [wy_gu_comm h]
theorem wy_N3_23 {a b c : Int} (h : b.toNat ≠ c.toNat) : wy_N3 f P r a b c g = wy_N3 f P r a c b g := by
  unfold wy_N3
  refine wy_su_congr fun i _ => ?_
  rw [wy_su_swap]
  refine wy_su_congr fun k _ => wy_su_congr fun j _ => ?_
  rw [wy_gu_comm h]
/-- an answer by any order -/
theorem wy_rw_any (hI : wy_iv P) {o o' : Nat → Int} (hv : wy_vo P r o) (hv' : wy_vo P r o') (h1 : 1 ≤ P 13 r) : wy_rw f P r o (P 13 r).toNat 0 wy_g0 = wy_rw f P r o' (P 13 r).toNat 0 wy_g0 := by
  have b13 := wy_b13 hI r
  have pg : ∀ o, wy_pg P r o 0 wy_g0 := fun o => ⟨fun j hj => by omega, fun k _ hc => by
    have h := @wy_cs_b P r o k
    omega⟩
  rw [wy_rw_NS hI hv _ _ _ (by omega) (pg o), wy_rw_NS hI hv' _ _ _ (by omega) (pg o')]
  have h : P 13 r = 1 ∨ P 13 r = 2 ∨ P 13 r = 3 := by omega
  rcases h with h | h | h
  · have e : (P 13 r).toNat = 1 := by omega
    have a0 := hv.2.1 0 (by omega)
    have a0' := hv'.2.1 0 (by omega)
    have c0 := hv.1.1 0 (by omega)
    have c0' := hv'.1.1 0 (by omega)
    have e0 : o 0 = o' 0 := by omega
    rw [e]
    simp only [wy_NS]
    unfold wy_is
    rw [e0]
  · have e : (P 13 r).toNat = 2 := by omega
    have a0 := hv.2.1 0 (by omega)
    have a1 := hv.2.1 1 (by omega)
    have a0' := hv'.2.1 0 (by omega)
    have a1' := hv'.2.1 1 (by omega)
    have c0 := hv.1.1 0 (by omega)
    have c1 := hv.1.1 1 (by omega)
    have c0' := hv'.1.1 0 (by omega)
    have c1' := hv'.1.1 1 (by omega)
    have n01 : o 0 ≠ o 1 := fun e => by rw [e] at a0; omega
    have n01' : o' 0 ≠ o' 1 := fun e => by rw [e] at a0'; omega
    have q : ∀ o : Nat → Int, wy_NS f P r o (P 13 r).toNat 0 wy_g0 = wy_N2 f P r (o 0) (o 1) wy_g0 := fun o => by rw [e]; rfl
    rw [q, q]
    have hc : (o 0 = o' 0 ∧ o 1 = o' 1) ∨ (o 0 = o' 1 ∧ o 1 = o' 0) := by omega
    rcases hc with hc | hc
    · rw [hc.1, hc.2]
    · rw [hc.1, hc.2]
      exact wy_N2_s (by omega)
  · have e : (P 13 r).toNat = 3 := by omega
    have q : ∀ o : Nat → Int, wy_NS f P r o (P 13 r).toNat 0 wy_g0 = wy_N3 f P r (o 0) (o 1) (o 2) wy_g0 := fun o => by rw [e]; rfl
    rw [q, q]
    have can : ∀ o : Nat → Int, wy_vo P r o → wy_N3 f P r (o 0) (o 1) (o 2) wy_g0 = wy_N3 f P r 0 1 2 wy_g0 := by
      intro o hv
      have a0 := hv.2.1 0 (by omega)
      have a1 := hv.2.1 1 (by omega)
      have a2 := hv.2.1 2 (by omega)
      have c0 := hv.1.1 0 (by omega)
      have c1 := hv.1.1 1 (by omega)
      have c2 := hv.1.1 2 (by omega)
      have n01 : o 0 ≠ o 1 := fun e => by rw [e] at a0; omega
      have n02 : o 0 ≠ o 2 := fun e => by rw [e] at a0; omega
      have n12 : o 1 ≠ o 2 := fun e => by rw [e] at a1; omega
      have hc : (o 0 = 0 ∧ o 1 = 1 ∧ o 2 = 2) ∨ (o 0 = 0 ∧ o 1 = 2 ∧ o 2 = 1) ∨ (o 0 = 1 ∧ o 1 = 0 ∧ o 2 = 2) ∨ (o 0 = 1 ∧ o 1 = 2 ∧ o 2 = 0) ∨ (o 0 = 2 ∧ o 1 = 0 ∧ o 2 = 1) ∨ (o 0 = 2 ∧ o 1 = 1 ∧ o 2 = 0) := by omega
      rcases hc with hc | hc | hc | hc | hc | hc
      · rw [hc.1, hc.2.1, hc.2.2]
      · rw [hc.1, hc.2.1, hc.2.2, wy_N3_23 (by decide)]
      · rw [hc.1, hc.2.1, hc.2.2, wy_N3_12 (by decide)]
      · rw [hc.1, hc.2.1, hc.2.2, wy_N3_23 (by decide), wy_N3_12 (by decide)]
      · rw [hc.1, hc.2.1, hc.2.2, wy_N3_12 (by decide), wy_N3_23 (by decide)]
      · rw [hc.1, hc.2.1, hc.2.2, wy_N3_12 (by decide), wy_N3_23 (by decide), wy_N3_12 (by decide)]
    rw [can o hv, can o' hv']
theorem wy_vp_vo (h : wy_vp P r o w) : wy_vo P r o := ⟨h.1, h.2.1, h.2.2.1⟩
theorem wy_vp_id (hI : wy_iv P) : wy_vp P r (fun j => (j : Int)) (fun _ => -1) := by
  have b13 := wy_b13 hI r
  refine ⟨⟨fun j hj => ⟨?_, ?_⟩, fun x h0 h2 => ?_⟩, fun j hj => ⟨hj, ?_⟩, fun x h0 h1 => ?_, fun s _ => ⟨?_, ?_, fun h => absurd rfl h⟩⟩
  · show (0 : Int) ≤ (j : Int)
    omega
  · show (j : Int) ≤ 2
    omega
  · show (if ((0 : Nat) : Int) = x then (0 : Int) else if ((1 : Nat) : Int) = x then 1 else if ((2 : Nat) : Int) = x then 2 else 3) < 3
    repeat' split
    all_goals omega
  · show (if ((0 : Nat) : Int) = (j : Int) then (0 : Int) else if ((1 : Nat) : Int) = (j : Int) then 1 else if ((2 : Nat) : Int) = (j : Int) then 2 else 3) = (j : Int)
    repeat' split
    all_goals omega
  · show (if ((0 : Nat) : Int) = x then (0 : Int) else if ((1 : Nat) : Int) = x then 1 else if ((2 : Nat) : Int) = x then 2 else 3) < P 13 r
    repeat' split
    all_goals omega
  · show (-1 : Int) ≤ -1
    omega
  · show (-1 : Int) ≤ 2
    omega
theorem wy_fn_any (hI : wy_iv P) {o o' : Nat → Int} (hv : 1 ≤ P 13 r → wy_vo P r o) (hv' : 1 ≤ P 13 r → wy_vo P r o') : wy_fn f P r o = wy_fn f P r o' := by
  unfold wy_fn
  by_cases h0 : P 13 r ≤ 0
  · rw [if_pos h0, if_pos h0]
  · rw [if_neg h0, if_neg h0]
    exact wy_rw_any hI (hv (by omega)) (hv' (by omega)) (by omega)
end
