/-! the plan of a report -/
def wy_pn (P : wq_St) (r : Nat) : Option (Int × wy_pl) := wy_T P r (P 13 r).toNat 0 (fun j => (j : Int)) (fun _ => -1) 1000 0
def wy_on (a b c : Nat) : Nat → Int := wy_o3 (a : Int) (b : Int) (c : Int)
def wy_o1 (a : Nat) : Nat → Int := wy_ud (fun j => (j : Int)) 0 (a : Int)
def wy_o2 (a b : Nat) : Nat → Int := wy_ud (wy_o1 a) 1 (b : Int)
section
variable {P : wq_St} {r : Nat} {o : Nat → Int}
theorem wy_wy_congr {o o' : Nat → Int} {s : Nat} {ch : Int} (hs : s < 3) (h : ∀ j, j ≤ s → o j = o' j) : wy_wy P r o' s ch = wy_wy P r o s ch := by
  funext i
  have e := h s (Nat.le_refl s)
  cases i with
  | zero => simp only [wy_wy]; rw [e]
  | succ i =>
    simp only [wy_wy]
    unfold wy_wi
    rw [wy_uo_congr hs h, e]
theorem wy_bw_congr {o o' : Nat → Int} {s : Nat} {ch : Int} (hs : s < 3) (h : ∀ j, j ≤ s → o j = o' j) : wy_bw P r o' s ch = wy_bw P r o s ch := by
  unfold wy_bw
  rw [wy_wy_congr hs h]
theorem wy_nt_congr {o o' : Nat → Int} {s : Nat} {ch : Int} (hs : s < 3) (h : ∀ j, j ≤ s → o j = o' j) : wy_nt P r o' s ch = wy_nt P r o s ch := by
  unfold wy_nt
  rw [wy_bh_congr hs h, h s (Nat.le_refl s)]
theorem wy_o1_on (a b c j : Nat) (h : j ≤ 0) : wy_o1 a j = wy_on a b c j := by
  have : j = 0 := by omega
  subst this
  rfl
theorem wy_o2_on (a b c j : Nat) (h : j ≤ 1) : wy_o2 a b j = wy_on a b c j := by
  have : j = 0 ∨ j = 1 := by omega
  rcases this with rfl | rfl <;> rfl
theorem wy_T_s (d s : Nat) (o w : Nat → Int) (ch sp : Int) : wy_T P r (d + 1) s o w ch sp = wy_mf (fun x => if wy_ps o (x : Int) < (s : Int) then none else wy_T P r d (s + 1) (wy_ud o s (x : Int)) (wy_ud w s (wy_bw P r (wy_ud o s (x : Int)) s ch).2) (wy_nt P r (wy_ud o s (x : Int)) s ch) (sp + (wy_bw P r (wy_ud o s (x : Int)) s ch).1)) (P 13 r).toNat := rfl
/-- which sources are left -/
def wy_F0 (n : Nat) (L : (Nat → Option (Int × wy_pl)) → Option (Int × wy_pl)) : Prop := ∀ F : Nat → Option (Int × wy_pl), wy_mf (fun x => if wy_ps (fun j => (j : Int)) (x : Int) < ((0 : Nat) : Int) then none else F x) n = L F
def wy_F1 (a n : Nat) (L : (Nat → Option (Int × wy_pl)) → Option (Int × wy_pl)) : Prop := ∀ F : Nat → Option (Int × wy_pl), wy_mf (fun x => if wy_ps (wy_o1 a) (x : Int) < ((1 : Nat) : Int) then none else F x) n = L F
def wy_F2 (a b n : Nat) (L : (Nat → Option (Int × wy_pl)) → Option (Int × wy_pl)) : Prop := ∀ F : Nat → Option (Int × wy_pl), wy_mf (fun x => if wy_ps (wy_o2 a b) (x : Int) < ((2 : Nat) : Int) then none else F x) n = L F
theorem wy_F0_1 : wy_F0 1 fun F => F 0 := fun F => by simp [wy_mf, wy_ps, wy_mn_1]
theorem wy_F0_2 : wy_F0 2 fun F => wy_mn (F 0) (F 1) := fun F => by simp [wy_mf, wy_ps, wy_mn_1]
theorem wy_F0_3 : wy_F0 3 fun F => wy_mn (wy_mn (F 0) (F 1)) (F 2) := fun F => by simp [wy_mf, wy_ps, wy_mn_1]
theorem wy_F1_20 : wy_F1 0 2 fun F => F 1 := fun F => by simp [wy_mf, wy_ps, wy_o1, wy_ud, wy_mn_0, wy_mn_1]
theorem wy_F1_21 : wy_F1 1 2 fun F => F 0 := fun F => by simp [wy_mf, wy_ps, wy_o1, wy_ud, wy_mn_0, wy_mn_1]
theorem wy_F1_30 : wy_F1 0 3 fun F => wy_mn (F 1) (F 2) := fun F => by simp [wy_mf, wy_ps, wy_o1, wy_ud, wy_mn_0, wy_mn_1]
theorem wy_F1_31 : wy_F1 1 3 fun F => wy_mn (F 0) (F 2) := fun F => by simp [wy_mf, wy_ps, wy_o1, wy_ud, wy_mn_0, wy_mn_1]
theorem wy_F1_32 : wy_F1 2 3 fun F => wy_mn (F 0) (F 1) := fun F => by simp [wy_mf, wy_ps, wy_o1, wy_ud, wy_mn_0, wy_mn_1]
theorem wy_F2_01 : wy_F2 0 1 3 fun F => F 2 := fun F => by simp [wy_mf, wy_ps, wy_o2, wy_o1, wy_ud, wy_mn_0, wy_mn_1]
theorem wy_F2_02 : wy_F2 0 2 3 fun F => F 1 := fun F => by simp [wy_mf, wy_ps, wy_o2, wy_o1, wy_ud, wy_mn_0, wy_mn_1]
theorem wy_F2_10 : wy_F2 1 0 3 fun F => F 2 := fun F => by simp [wy_mf, wy_ps, wy_o2, wy_o1, wy_ud, wy_mn_0, wy_mn_1]
theorem wy_F2_12 : wy_F2 1 2 3 fun F => F 0 := fun F => by simp [wy_mf, wy_ps, wy_o2, wy_o1, wy_ud, wy_mn_0, wy_mn_1]
theorem wy_F2_20 : wy_F2 2 0 3 fun F => F 1 := fun F => by simp [wy_mf, wy_ps, wy_o2, wy_o1, wy_ud, wy_mn_0, wy_mn_1]
theorem wy_F2_21 : wy_F2 2 1 3 fun F => F 0 := fun F => by simp [wy_mf, wy_ps, wy_o2, wy_o1, wy_ud, wy_mn_0, wy_mn_1]
theorem wy_L3 (hI : wy_iv P) (hm : P 13 r = 3) {a b c : Nat} (hf : wy_F2 a b 3 fun F => F c) :
    wy_T P r 1 2 (wy_o2 a b) (wy_ud (wy_ud (fun _ => -1) 0 (wy_bw P r (wy_o1 a) 0 1000).2) 1 (wy_bw P r (wy_o2 a b) 1 (wy_nt P r (wy_o1 a) 0 1000)).2) (wy_nt P r (wy_o2 a b) 1 (wy_nt P r (wy_o1 a) 0 1000)) (0 + (wy_bw P r (wy_o1 a) 0 1000).1 + (wy_bw P r (wy_o2 a b) 1 (wy_nt P r (wy_o1 a) 0 1000)).1) = wy_g3 P r (wy_on a b c) := by
  have hm3 : (P 13 r).toNat = 3 := by omega
  rw [wy_T_s, hm3, hf, wy_g3_3 hI hm]
  rw [wy_bw_congr (o := wy_o1 a) (o' := wy_on a b c) (by omega) (wy_o1_on a b c), wy_nt_congr (o := wy_o1 a) (o' := wy_on a b c) (by omega) (wy_o1_on a b c), wy_bw_congr (o := wy_o2 a b) (o' := wy_on a b c) (by omega) (wy_o2_on a b c), wy_nt_congr (o := wy_o2 a b) (o' := wy_on a b c) (by omega) (wy_o2_on a b c), Int.zero_add]
  rfl
theorem wy_pn3 (hI : wy_iv P) (hm : P 13 r = 3) : wy_pn P r = wy_mn (wy_mn (wy_mn (wy_g3 P r (wy_on 0 1 2)) (wy_g3 P r (wy_on 0 2 1))) (wy_mn (wy_g3 P r (wy_on 1 0 2)) (wy_g3 P r (wy_on 1 2 0)))) (wy_mn (wy_g3 P r (wy_on 2 0 1)) (wy_g3 P r (wy_on 2 1 0))) := by
  have hm3 : (P 13 r).toNat = 3 := by omega
  have L2 : ∀ a b b' : Nat, wy_F1 a 3 (fun F => wy_mn (F b) (F b')) → ∀ w ch sp, wy_T P r 2 1 (wy_o1 a) w ch sp = wy_mn (wy_T P r 1 2 (wy_o2 a b) (wy_ud w 1 (wy_bw P r (wy_o2 a b) 1 ch).2) (wy_nt P r (wy_o2 a b) 1 ch) (sp + (wy_bw P r (wy_o2 a b) 1 ch).1)) (wy_T P r 1 2 (wy_o2 a b') (wy_ud w 1 (wy_bw P r (wy_o2 a b') 1 ch).2) (wy_nt P r (wy_o2 a b') 1 ch) (sp + (wy_bw P r (wy_o2 a b') 1 ch).1)) := by
    intro a b b' hf w ch sp
    rw [wy_T_s, hm3, hf]
    rfl
  unfold wy_pn
  rw [hm3, wy_T_s, hm3, wy_F0_3]
  simp only [Nat.zero_add]
  rw [show wy_ud (fun j => (j : Int)) 0 ((0 : Nat) : Int) = wy_o1 0 from rfl, show wy_ud (fun j => (j : Int)) 0 ((1 : Nat) : Int) = wy_o1 1 from rfl, show wy_ud (fun j => (j : Int)) 0 ((2 : Nat) : Int) = wy_o1 2 from rfl]
  rw [L2 0 1 2 wy_F1_30, L2 1 0 2 wy_F1_31, L2 2 0 1 wy_F1_32]
  rw [wy_L3 hI hm wy_F2_01, wy_L3 hI hm wy_F2_02, wy_L3 hI hm wy_F2_10, wy_L3 hI hm wy_F2_12, wy_L3 hI hm wy_F2_20, wy_L3 hI hm wy_F2_21]
theorem wy_o2_2 (a b : Nat) : wy_o2 a b = wy_on a b 2 := by
  funext j
  unfold wy_o2 wy_o1 wy_on wy_o3
  unfold wy_ud
  by_cases h : j = 2
  · subst h; rfl
  · rw [if_neg h]
theorem wy_o1_2 (a : Nat) : wy_o1 a = wy_on a 1 2 := by
  rw [← wy_o2_2]
  funext j
  unfold wy_o2 wy_o1
  unfold wy_ud
  by_cases h : j = 1
  · subst h; rfl
  · rw [if_neg h]
theorem wy_w2_2 (a b : Int) : wy_ud (wy_ud (fun _ => -1) 0 a) 1 b = wy_w3 a b (-1) := by
  funext j
  unfold wy_w3
  by_cases h : j = 2
  · subst h; rfl
  · exact (if_neg h).symm
theorem wy_w1_2 (a : Int) : wy_ud (fun _ => -1) 0 a = wy_w3 a (-1) (-1) := by
  rw [← wy_w2_2]
  funext j
  by_cases h : j = 1
  · subst h; rfl
  · exact (if_neg h).symm
theorem wy_pn2 (hI : wy_iv P) (hm : P 13 r = 2) : wy_pn P r = wy_mn (wy_g3 P r (wy_on 0 1 2)) (wy_g3 P r (wy_on 1 0 2)) := by
  have hm3 : (P 13 r).toNat = 2 := by omega
  have L2 : ∀ a b : Nat, wy_F1 a 2 (fun F => F b) → wy_T P r 1 1 (wy_o1 a) (wy_ud (fun _ => -1) 0 (wy_bw P r (wy_o1 a) 0 1000).2) (wy_nt P r (wy_o1 a) 0 1000) (0 + (wy_bw P r (wy_o1 a) 0 1000).1) = wy_g3 P r (wy_on a b 2) := by
    intro a b hf
    rw [wy_T_s, hm3, hf, wy_g3_2 hI hm]
    rw [wy_bw_congr (o := wy_o1 a) (o' := wy_on a b 2) (by omega) (wy_o1_on a b 2), wy_nt_congr (o := wy_o1 a) (o' := wy_on a b 2) (by omega) (wy_o1_on a b 2), Int.zero_add]
    rw [← wy_w2_2, ← wy_o2_2]
    rfl
  unfold wy_pn
  rw [hm3, wy_T_s, hm3, wy_F0_2]
  simp only [Nat.zero_add]
  rw [show wy_ud (fun j => (j : Int)) 0 ((0 : Nat) : Int) = wy_o1 0 from rfl, show wy_ud (fun j => (j : Int)) 0 ((1 : Nat) : Int) = wy_o1 1 from rfl]
  rw [L2 0 1 wy_F1_20, L2 1 0 wy_F1_21]
theorem wy_pn1 (hI : wy_iv P) (hm : P 13 r = 1) : wy_pn P r = wy_g3 P r (wy_on 0 1 2) := by
  have hm3 : (P 13 r).toNat = 1 := by omega
  unfold wy_pn
  rw [hm3, wy_T_s, hm3, wy_F0_1, wy_g3_1 hI hm]
  simp only [Nat.zero_add]
  rw [show wy_ud (fun j => (j : Int)) 0 ((0 : Nat) : Int) = wy_o1 0 from rfl, wy_o1_2, wy_w1_2, Int.zero_add]
  rfl
theorem wy_pn0 (hm : P 13 r = 0) : wy_pn P r = some ((0 : Int), ((fun j : Nat => (j : Int)), fun _ : Nat => (-1 : Int))) := by
  have hm3 : (P 13 r).toNat = 0 := by omega
  unfold wy_pn
  rw [hm3]
  rfl
/-! all codes of orders -/
def wy_vd (m : Int) (x y z : Nat) : Prop := (x ≠ y ∧ x ≠ z ∧ y ≠ z) ∧ (m = 3 ∨ (z = 2 ∧ (m = 2 ∨ y = 1)))
def wy_vdb (m : Int) (i : Nat) : Bool := decide ((i / 9 ≠ i / 3 % 3 ∧ i / 9 ≠ i % 3 ∧ i / 3 % 3 ≠ i % 3) ∧ (m = 3 ∨ (i % 3 = 2 ∧ (m = 2 ∨ i / 3 % 3 = 1))))
def wy_gc (P : wq_St) (r : Nat) (i : Nat) : Option (Int × wy_pl) := if wy_vdb (P 13 r) i = true then wy_g3 P r (wy_on (i / 9) (i / 3 % 3) (i % 3)) else none
theorem wy_gc_0 {i : Nat} (h : wy_vdb (P 13 r) i = false) : wy_gc P r i = none := by
  unfold wy_gc
  rw [if_neg (by rw [h]; decide)]
theorem wy_gc_1 {i : Nat} (h : wy_vdb (P 13 r) i = true) : wy_gc P r i = wy_g3 P r (wy_on (i / 9) (i / 3 % 3) (i % 3)) := by
  unfold wy_gc
  rw [if_pos h]
theorem wy_gc_all (hI : wy_iv P) (h1 : 1 ≤ P 13 r) : wy_mf (wy_gc P r) 27 = wy_pn P r := by
  have b13 := wy_b13 hI r
  have h : P 13 r = 1 ∨ P 13 r = 2 ∨ P 13 r = 3 := by omega
  rcases h with h | h | h
  · have q0 : ∀ i, i < 27 → i ≠ 5 → wy_gc P r i = none := fun i hi h5 => wy_gc_0 (by
      rw [h]
      have : ∀ i, i < 27 → i ≠ 5 → wy_vdb 1 i = false := by decide
      exact this i hi h5)
    have q5 : wy_gc P r 5 = wy_g3 P r (wy_on 0 1 2) := wy_gc_1 (by rw [h]; decide)
    rw [wy_pn1 hI h, wy_mf_none (a := 6) (by omega) (fun i h1 h2 => q0 i (by omega) (by omega))]
    simp only [wy_mf]
    rw [q0 0 (by omega) (by omega), q0 1 (by omega) (by omega), q0 2 (by omega) (by omega), q0 3 (by omega) (by omega), q0 4 (by omega) (by omega), q5]
    simp only [wy_mn_0, wy_mn_1]
  · have q0 : ∀ i, i < 27 → i ≠ 5 → i ≠ 11 → wy_gc P r i = none := fun i hi h5 h11 => wy_gc_0 (by
      rw [h]
      have : ∀ i, i < 27 → i ≠ 5 → i ≠ 11 → wy_vdb 2 i = false := by decide
      exact this i hi h5 h11)
    have q5 : wy_gc P r 5 = wy_g3 P r (wy_on 0 1 2) := wy_gc_1 (by rw [h]; decide)
    have q11 : wy_gc P r 11 = wy_g3 P r (wy_on 1 0 2) := wy_gc_1 (by rw [h]; decide)
    rw [wy_pn2 hI h, wy_mf_none (a := 12) (by omega) (fun i h1 h2 => q0 i (by omega) (by omega) (by omega))]
    rw [wy_mf, wy_mf_none (a := 6) (b := 11) (by omega) (fun i h1 h2 => q0 i (by omega) (by omega) (by omega)), wy_mf, wy_mf_none (a := 0) (b := 5) (by omega) (fun i h1 h2 => q0 i (by omega) (by omega) (by omega)), q5, q11]
    simp only [wy_mf, wy_mn_0, wy_mn_1]
  · have q0 : ∀ i, i < 27 → i ≠ 5 ∧ i ≠ 7 ∧ i ≠ 11 ∧ i ≠ 15 ∧ i ≠ 19 ∧ i ≠ 21 → wy_gc P r i = none := fun i hi h5 => wy_gc_0 (by
      rw [h]
      have : ∀ i, i < 27 → i ≠ 5 ∧ i ≠ 7 ∧ i ≠ 11 ∧ i ≠ 15 ∧ i ≠ 19 ∧ i ≠ 21 → wy_vdb 3 i = false := by decide
      exact this i hi h5)
    have q5 : wy_gc P r 5 = wy_g3 P r (wy_on 0 1 2) := wy_gc_1 (by rw [h]; decide)
    have q7 : wy_gc P r 7 = wy_g3 P r (wy_on 0 2 1) := wy_gc_1 (by rw [h]; decide)
    have q11 : wy_gc P r 11 = wy_g3 P r (wy_on 1 0 2) := wy_gc_1 (by rw [h]; decide)
    have q15 : wy_gc P r 15 = wy_g3 P r (wy_on 1 2 0) := wy_gc_1 (by rw [h]; decide)
    have q19 : wy_gc P r 19 = wy_g3 P r (wy_on 2 0 1) := wy_gc_1 (by rw [h]; decide)
    have q21 : wy_gc P r 21 = wy_g3 P r (wy_on 2 1 0) := wy_gc_1 (by rw [h]; decide)
    rw [wy_pn3 hI h, wy_mf_none (a := 22) (by omega) (fun i h1 h2 => q0 i (by omega) (by omega))]
    rw [wy_mf, wy_mf_none (a := 20) (b := 21) (by omega) (fun i h1 h2 => q0 i (by omega) (by omega)), wy_mf, wy_mf_none (a := 16) (b := 19) (by omega) (fun i h1 h2 => q0 i (by omega) (by omega)), wy_mf, wy_mf_none (a := 12) (b := 15) (by omega) (fun i h1 h2 => q0 i (by omega) (by omega)), wy_mf, wy_mf_none (a := 8) (b := 11) (by omega) (fun i h1 h2 => q0 i (by omega) (by omega)), wy_mf, wy_mf_none (a := 6) (b := 7) (by omega) (fun i h1 h2 => q0 i (by omega) (by omega)), wy_mf, wy_mf_none (a := 0) (b := 5) (by omega) (fun i h1 h2 => q0 i (by omega) (by omega)), q5, q7, q11, q15, q19, q21]
    simp only [wy_mf, wy_mn_1, wy_mn_a]
end
