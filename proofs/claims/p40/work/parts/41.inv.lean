/-! what always holds of P -/
/-- rows that are there, of the first n -/
def wy_ct (P : wq_St) (t : Nat) : Nat → Int
  | 0 => 0
  | i + 1 => wy_ct P t i + (if P 3 (40 * t + i) = 0 then 0 else 1)
theorem wy_ct_b (P : wq_St) (t : Nat) : ∀ n : Nat, 0 ≤ wy_ct P t n ∧ wy_ct P t n ≤ (n : Int)
  | 0 => by simp [wy_ct]
  | n + 1 => by
    have h := wy_ct_b P t n
    simp only [wy_ct]
    split <;> omega
def wy_lo (f : Nat) : Int := match f with
  | 22 => -1
  | 23 => -2147483648
  | _ => 0
def wy_hi (f : Nat) : Int := match f with
  | 1 => 3
  | 2 => 40
  | 3 => 1
  | 4 => 999
  | 5 => 1
  | 6 => 40
  | 7 => 40
  | 8 => 999
  | 9 => 999
  | 10 => 1
  | 11 => 1000
  | 12 => 1
  | 13 => 3
  | 14 => 3
  | 15 => 6
  | 16 => 3
  | 17 => 2
  | 18 => 2
  | 19 => 999
  | 20 => 2
  | 21 => 2
  | 22 => 2
  | 23 => 2147483647
  | _ => 0
def wy_iB (P : wq_St) : Prop := ∀ f i, 1 ≤ f → f ≤ 23 → wy_lo f ≤ P f i ∧ P f i ≤ wy_hi f
def wy_iO (P : wq_St) : Prop := 0 ≤ P 0 5 ∧ P 0 5 ≤ 4 ∧ 1 ≤ P 0 11 ∧ P 0 11 ≤ 10 ∧ 0 ≤ P 0 28 ∧ P 0 28 ≤ 8
def wy_iK (P : wq_St) : Prop := ∀ t : Nat, P 0 5 ≤ (t : Int) → P 10 t = 0
def wy_iD (P : wq_St) : Prop := ∀ r : Nat, P 0 28 ≤ (r : Int) → P 12 r = 0
def wy_iL (P : wq_St) : Prop := ∀ i, P 8 i ≤ P 9 i
def wy_iT (P : wq_St) : Prop := ∀ r j : Nat, (j : Int) < P 13 r → P 14 (3 * r + j) < P 0 5
def wy_iC (P : wq_St) : Prop := ∀ r k : Nat, (k : Int) < P 15 r → P 17 (6 * r + k) < P 13 r ∧ (P 16 (6 * r + k) = 3 → P 20 (6 * r + k) < P 13 r ∧ P 20 (6 * r + k) ≠ P 17 (6 * r + k))
def wy_iS (P : wq_St) : Prop := ∀ r : Nat, P 22 r ≠ -1 → P 22 r < P 13 r ∧ P 23 r = P 28 r ∧ 0 ≤ P 28 r ∧ P 28 r ≤ 2
def wy_iN (P : wq_St) : Prop := ∀ r : Nat, P 0 28 ≤ (r : Int) → r < 8 → P 22 r = -1 ∧ P 24 r = -1 ∧ P 25 r = -1 ∧ P 26 r = -1
def wy_iP (P : wq_St) : Prop := ∀ t : Nat, t < 4 → P 27 t = wy_ct P t (P 2 t).toNat
def wy_iv (P : wq_St) : Prop := wy_iB P ∧ wy_iO P ∧ wy_iK P ∧ wy_iD P ∧ wy_iL P ∧ wy_iT P ∧ wy_iC P ∧ wy_iS P ∧ wy_iN P ∧ wy_iP P
section
variable {P : wq_St}
theorem wy_b1 (h : wy_iv P) (i : Nat) : 0 ≤ P 1 i ∧ P 1 i ≤ 3 := h.1 1 i (by decide) (by decide)
theorem wy_b2 (h : wy_iv P) (i : Nat) : 0 ≤ P 2 i ∧ P 2 i ≤ 40 := h.1 2 i (by decide) (by decide)
theorem wy_b3 (h : wy_iv P) (i : Nat) : 0 ≤ P 3 i ∧ P 3 i ≤ 1 := h.1 3 i (by decide) (by decide)
theorem wy_b4 (h : wy_iv P) (i : Nat) : 0 ≤ P 4 i ∧ P 4 i ≤ 999 := h.1 4 i (by decide) (by decide)
theorem wy_b5 (h : wy_iv P) (i : Nat) : 0 ≤ P 5 i ∧ P 5 i ≤ 1 := h.1 5 i (by decide) (by decide)
theorem wy_b6 (h : wy_iv P) (i : Nat) : 0 ≤ P 6 i ∧ P 6 i ≤ 40 := h.1 6 i (by decide) (by decide)
theorem wy_b7 (h : wy_iv P) (i : Nat) : 0 ≤ P 7 i ∧ P 7 i ≤ 40 := h.1 7 i (by decide) (by decide)
theorem wy_b8 (h : wy_iv P) (i : Nat) : 0 ≤ P 8 i ∧ P 8 i ≤ 999 := h.1 8 i (by decide) (by decide)
theorem wy_b9 (h : wy_iv P) (i : Nat) : 0 ≤ P 9 i ∧ P 9 i ≤ 999 := h.1 9 i (by decide) (by decide)
theorem wy_b10 (h : wy_iv P) (i : Nat) : 0 ≤ P 10 i ∧ P 10 i ≤ 1 := h.1 10 i (by decide) (by decide)
theorem wy_b11 (h : wy_iv P) (i : Nat) : 0 ≤ P 11 i ∧ P 11 i ≤ 1000 := h.1 11 i (by decide) (by decide)
theorem wy_b12 (h : wy_iv P) (i : Nat) : 0 ≤ P 12 i ∧ P 12 i ≤ 1 := h.1 12 i (by decide) (by decide)
theorem wy_b13 (h : wy_iv P) (i : Nat) : 0 ≤ P 13 i ∧ P 13 i ≤ 3 := h.1 13 i (by decide) (by decide)
theorem wy_b14 (h : wy_iv P) (i : Nat) : 0 ≤ P 14 i ∧ P 14 i ≤ 3 := h.1 14 i (by decide) (by decide)
theorem wy_b15 (h : wy_iv P) (i : Nat) : 0 ≤ P 15 i ∧ P 15 i ≤ 6 := h.1 15 i (by decide) (by decide)
theorem wy_b16 (h : wy_iv P) (i : Nat) : 0 ≤ P 16 i ∧ P 16 i ≤ 3 := h.1 16 i (by decide) (by decide)
theorem wy_b17 (h : wy_iv P) (i : Nat) : 0 ≤ P 17 i ∧ P 17 i ≤ 2 := h.1 17 i (by decide) (by decide)
theorem wy_b18 (h : wy_iv P) (i : Nat) : 0 ≤ P 18 i ∧ P 18 i ≤ 2 := h.1 18 i (by decide) (by decide)
theorem wy_b19 (h : wy_iv P) (i : Nat) : 0 ≤ P 19 i ∧ P 19 i ≤ 999 := h.1 19 i (by decide) (by decide)
theorem wy_b20 (h : wy_iv P) (i : Nat) : 0 ≤ P 20 i ∧ P 20 i ≤ 2 := h.1 20 i (by decide) (by decide)
theorem wy_b21 (h : wy_iv P) (i : Nat) : 0 ≤ P 21 i ∧ P 21 i ≤ 2 := h.1 21 i (by decide) (by decide)
theorem wy_b22 (h : wy_iv P) (i : Nat) : -1 ≤ P 22 i ∧ P 22 i ≤ 2 := h.1 22 i (by decide) (by decide)
theorem wy_b23 (h : wy_iv P) (i : Nat) : -2147483648 ≤ P 23 i ∧ P 23 i ≤ 2147483647 := h.1 23 i (by decide) (by decide)
theorem wy_lohi {f : Nat} : -2147483648 ≤ wy_lo f ∧ wy_hi f < 2147483648 := by
  constructor
  · unfold wy_lo; split <;> omega
  · unfold wy_hi; split <;> omega
/-- bounded cells read as they are -/
theorem wy_pw (h : wy_iv P) {f i : Nat} (h1 : 1 ≤ f) (h2 : f ≤ 23) : wq_w (P f i) = P f i := by
  have h3 := h.1 f i h1 h2
  have h4 := @wy_lohi f
  exact wq_w_id (by omega) (by omega)
/-- the fields that plans and runs look at -/
abbrev wy_co (f : Nat) : Prop := f ≠ 0 ∧ f ≠ 10 ∧ f ≠ 11 ∧ f ≠ 12 ∧ ¬(24 ≤ f ∧ f ≤ 26)
abbrev wy_al (_ : Nat) : Prop := True
def wy_M (C : Nat → Prop) (M P : wq_St) : Prop := ∀ f i : Nat, C f → f ≤ 26 → (f = 0 → i = 5 ∨ i = 11 ∨ (28 ≤ i ∧ i ≤ 32)) → (f = 22 ∨ 24 ≤ f → (i : Int) < P 0 28) → M f i = P f i
theorem wy_m {M : wq_St} (h : wy_M wy_co M P) {f i : Nat} (hf : (1 ≤ f ∧ f ≤ 9) ∨ (13 ≤ f ∧ f ≤ 21) ∨ f = 23) : M f i = P f i :=
  h f i (by unfold wy_co; omega) (by omega) (by omega) (by omega)
theorem wy_ma {M : wq_St} (h : wy_M wy_al M P) {f i : Nat} (hf : (1 ≤ f ∧ f ≤ 21) ∨ f = 23) : M f i = P f i :=
  h f i trivial (by omega) (by omega) (by omega)
theorem wy_ma0 {M : wq_St} (h : wy_M wy_al M P) {i : Nat} (hi : i = 5 ∨ i = 11 ∨ (28 ≤ i ∧ i ≤ 32)) : M 0 i = P 0 i :=
  h 0 i trivial (by omega) (fun _ => hi) (by omega)
theorem wy_M_co {M : wq_St} (h : wy_M wy_al M P) : wy_M wy_co M P := fun f i _ h2 h3 h4 => h f i trivial h2 h3 h4
theorem wy_M_off {C : Nat → Prop} {M : wq_St} (h : wy_M C M P) {k j : Nat} {v : Int} (hk : 27 ≤ k ∨ (k = 0 ∧ 33 ≤ j) ∨ ¬C k) : wy_M C (wq_set M k j v) P := fun f i h1 h2 h3 h4 => by
  rw [wy_set_ne (fun e => ?_)]
  · exact h f i h1 h2 h3 h4
  · rcases hk with hk | hk | hk
    · omega
    · have := h3 (by omega)
      omega
    · exact hk (e.1 ▸ h1)
theorem wy_M_set {C : Nat → Prop} {M : wq_St} (h : wy_M C M P) {k j : Nat} (v : Int) (hk : ¬(k = 0 ∧ j = 28)) : wy_M C (wq_set M k j v) (wq_set P k j v) := fun f i h1 h2 h3 h4 => by
  rw [wy_set_ne (fun e => hk ⟨e.1.symm, e.2.symm⟩)] at h4
  by_cases e : f = k ∧ i = j
  · rw [wy_set_at e.1 e.2, wy_set_at e.1 e.2]
  · rw [wy_set_ne e, wy_set_ne e]
    exact h f i h1 h2 h3 h4
/-! cells of the class -/
variable {S : wq_St}
theorem wy_R_co (h : wy_R wy_al S P) : wy_R wy_co S P := wy_R_mono h fun _ _ => trivial
theorem wy_c1 (h : wy_R wy_co S P) {t : Nat} (ht : t < 4) : S (6 + 48 * t) 4 = P 1 t := h 1 t (by decide) ⟨ht, fun e => by omega⟩
theorem wy_c2 (h : wy_R wy_co S P) {t : Nat} (ht : t < 4) : S (6 + 48 * t) 5 = P 2 t := h 2 t (by decide) ⟨ht, fun e => by omega⟩
theorem wy_c27 (h : wy_R wy_co S P) {t : Nat} (ht : t < 4) : S (6 + 48 * t) 6 = P 27 t := h 27 t (by decide) ⟨ht, fun e => by omega⟩
theorem wy_c6 (h : wy_R wy_co S P) {t : Nat} (ht : t < 4) : S (6 + 48 * t) 7 = P 6 t := h 6 t (by decide) ⟨ht, fun e => by omega⟩
theorem wy_c3 (h : wy_R wy_co S P) {t i : Nat} (ht : t < 4) (hi : i < 40) : S (6 + 48 * t + 43) i = P 3 (40 * t + i) := by
  have h1 := h 3 (40 * t + i) (by decide) ⟨by show 40 * t + i < 160; omega, fun e => by omega⟩
  have e1 : wy_ka 3 (40 * t + i) = 6 + 48 * t + 43 := by show 6 + 48 * ((40 * t + i) / 40) + 43 = _; omega
  have e2 : wy_io 3 (40 * t + i) = i := by show (40 * t + i) % 40 = _; omega
  rw [e1, e2] at h1
  exact h1
theorem wy_c4 (h : wy_R wy_co S P) {t i c : Nat} (ht : t < 4) (hi : i < 40) (hc : c < 3) : S (6 + 48 * t + 3 + i) c = P 4 (3 * (40 * t + i) + c) := by
  have h1 := h 4 (3 * (40 * t + i) + c) (by decide) ⟨by show 3 * (40 * t + i) + c < 480; omega, fun e => by omega⟩
  have e1 : wy_ka 4 (3 * (40 * t + i) + c) = 6 + 48 * t + 3 + i := by show 6 + 48 * ((3 * (40 * t + i) + c) / 120) + 3 + (3 * (40 * t + i) + c) / 3 % 40 = _; omega
  have e2 : wy_io 4 (3 * (40 * t + i) + c) = c := by show (3 * (40 * t + i) + c) % 3 = _; omega
  rw [e1, e2] at h1
  exact h1
theorem wy_k3 {t c : Nat} (hc : c < 3) : 6 + 48 * ((3 * t + c) / 3) + 45 + (3 * t + c) % 3 = 6 + 48 * t + 45 + c := by omega
theorem wy_c5 (h : wy_R wy_co S P) {t c : Nat} (ht : t < 4) (hc : c < 3) : S (6 + 48 * t + 45 + c) 0 = P 5 (3 * t + c) := by
  have h1 := h 5 (3 * t + c) (by decide) ⟨by show 3 * t + c < 12; omega, fun e => by omega⟩
  rw [show wy_ka 5 (3 * t + c) = _ from wy_k3 hc] at h1
  exact h1
theorem wy_c7 (h : wy_R wy_co S P) {t c : Nat} (ht : t < 4) (hc : c < 3) : S (6 + 48 * t + 45 + c) 1 = P 7 (3 * t + c) := by
  have h1 := h 7 (3 * t + c) (by decide) ⟨by show 3 * t + c < 12; omega, fun e => by omega⟩
  rw [show wy_ka 7 (3 * t + c) = _ from wy_k3 hc] at h1
  exact h1
theorem wy_c8 (h : wy_R wy_co S P) {t c : Nat} (ht : t < 4) (hc : c < 3) : S (6 + 48 * t + 45 + c) 2 = P 8 (3 * t + c) := by
  have h1 := h 8 (3 * t + c) (by decide) ⟨by show 3 * t + c < 12; omega, fun e => by omega⟩
  rw [show wy_ka 8 (3 * t + c) = _ from wy_k3 hc] at h1
  exact h1
theorem wy_c9 (h : wy_R wy_co S P) {t c : Nat} (ht : t < 4) (hc : c < 3) : S (6 + 48 * t + 45 + c) 3 = P 9 (3 * t + c) := by
  have h1 := h 9 (3 * t + c) (by decide) ⟨by show 3 * t + c < 12; omega, fun e => by omega⟩
  rw [show wy_ka 9 (3 * t + c) = _ from wy_k3 hc] at h1
  exact h1
theorem wy_c13 (h : wy_R wy_co S P) {r : Nat} (hr : r < 8) : S (199 + 9 * r) 3 = P 13 r := h 13 r (by decide) ⟨hr, fun e => by omega⟩
theorem wy_c15 (h : wy_R wy_co S P) {r : Nat} (hr : r < 8) : S (199 + 9 * r) 4 = P 15 r := h 15 r (by decide) ⟨hr, fun e => by omega⟩
theorem wy_c22 (h : wy_R wy_co S P) {r : Nat} (hr : r < 8) : S (199 + 9 * r) 5 = P 22 r := h 22 r (by decide) ⟨hr, fun e => by omega⟩
theorem wy_c28 (h : wy_R wy_co S P) {r : Nat} (hr : r < 8) : S (199 + 9 * r) 6 = P 28 r := h 28 r (by decide) ⟨hr, fun e => by omega⟩
theorem wy_c14 (h : wy_R wy_co S P) {r j : Nat} (hr : r < 8) (hj : j < 3) : S (199 + 9 * r + 1) j = P 14 (3 * r + j) := by
  have h1 := h 14 (3 * r + j) (by decide) ⟨by show 3 * r + j < 24; omega, fun e => by omega⟩
  have e1 : wy_ka 14 (3 * r + j) = 199 + 9 * r + 1 := by show 199 + 9 * ((3 * r + j) / 3) + 1 = _; omega
  have e2 : wy_io 14 (3 * r + j) = j := by show (3 * r + j) % 3 = _; omega
  rw [e1, e2] at h1
  exact h1
theorem wy_k6 {r k : Nat} (hk : k < 6) : 199 + 9 * ((6 * r + k) / 6) + 3 + (6 * r + k) % 6 = 199 + 9 * r + 3 + k := by omega
theorem wy_c16 (h : wy_R wy_co S P) {r k : Nat} (hr : r < 8) (hk : k < 6) : S (199 + 9 * r + 3 + k) 0 = P 16 (6 * r + k) := by
  have h1 := h 16 (6 * r + k) (by decide) ⟨by show 6 * r + k < 48; omega, fun e => by omega⟩
  rw [show wy_ka 16 (6 * r + k) = _ from wy_k6 hk] at h1
  exact h1
theorem wy_c17 (h : wy_R wy_co S P) {r k : Nat} (hr : r < 8) (hk : k < 6) : S (199 + 9 * r + 3 + k) 1 = P 17 (6 * r + k) := by
  have h1 := h 17 (6 * r + k) (by decide) ⟨by show 6 * r + k < 48; omega, fun e => by omega⟩
  rw [show wy_ka 17 (6 * r + k) = _ from wy_k6 hk] at h1
  exact h1
theorem wy_c18 (h : wy_R wy_co S P) {r k : Nat} (hr : r < 8) (hk : k < 6) : S (199 + 9 * r + 3 + k) 2 = P 18 (6 * r + k) := by
  have h1 := h 18 (6 * r + k) (by decide) ⟨by show 6 * r + k < 48; omega, fun e => by omega⟩
  rw [show wy_ka 18 (6 * r + k) = _ from wy_k6 hk] at h1
  exact h1
theorem wy_c19 (h : wy_R wy_co S P) {r k : Nat} (hr : r < 8) (hk : k < 6) : S (199 + 9 * r + 3 + k) 3 = P 19 (6 * r + k) := by
  have h1 := h 19 (6 * r + k) (by decide) ⟨by show 6 * r + k < 48; omega, fun e => by omega⟩
  rw [show wy_ka 19 (6 * r + k) = _ from wy_k6 hk] at h1
  exact h1
theorem wy_c20 (h : wy_R wy_co S P) {r k : Nat} (hr : r < 8) (hk : k < 6) : S (199 + 9 * r + 3 + k) 4 = P 20 (6 * r + k) := by
  have h1 := h 20 (6 * r + k) (by decide) ⟨by show 6 * r + k < 48; omega, fun e => by omega⟩
  rw [show wy_ka 20 (6 * r + k) = _ from wy_k6 hk] at h1
  exact h1
theorem wy_c21 (h : wy_R wy_co S P) {r k : Nat} (hr : r < 8) (hk : k < 6) : S (199 + 9 * r + 3 + k) 5 = P 21 (6 * r + k) := by
  have h1 := h 21 (6 * r + k) (by decide) ⟨by show 6 * r + k < 48; omega, fun e => by omega⟩
  rw [show wy_ka 21 (6 * r + k) = _ from wy_k6 hk] at h1
  exact h1
theorem wy_cT (h : wy_R wy_al S P) : S 0 6 = P 0 5 := h 0 5 trivial ⟨by decide, fun _ => by decide⟩
theorem wy_cN (h : wy_R wy_al S P) : S 0 7 = P 0 28 := h 0 28 trivial ⟨by decide, fun _ => by decide⟩
theorem wy_cS (h : wy_R wy_al S P) : S 282 5 = P 0 11 := h 0 11 trivial ⟨by decide, fun _ => by decide⟩
theorem wy_cG (h : wy_R wy_al S P) : S 282 6 = P 0 29 := h 0 29 trivial ⟨by decide, fun _ => by decide⟩
theorem wy_cP (h : wy_R wy_al S P) : S 282 7 = P 0 30 := h 0 30 trivial ⟨by decide, fun _ => by decide⟩
theorem wy_cL (h : wy_R wy_al S P) : S 282 8 = P 0 31 := h 0 31 trivial ⟨by decide, fun _ => by decide⟩
theorem wy_cO (h : wy_R wy_al S P) : S 282 9 = P 0 32 := h 0 32 trivial ⟨by decide, fun _ => by decide⟩
theorem wy_c10 (h : wy_R wy_al S P) {t : Nat} (ht : t < 4) : S (6 + 48 * t) 8 = P 10 t := h 10 t trivial ⟨ht, fun e => by omega⟩
theorem wy_c11 (h : wy_R wy_al S P) {r : Nat} (hr : r < 8) : S (199 + 9 * r) 2 = P 11 r := h 11 r trivial ⟨hr, fun e => by omega⟩
theorem wy_c12 (h : wy_R wy_al S P) {r : Nat} (hr : r < 8) : S (199 + 9 * r) 7 = P 12 r := h 12 r trivial ⟨hr, fun e => by omega⟩
theorem wy_c24 (h : wy_R wy_al S P) {r : Nat} (hr : r < 8) : S (199 + 9 * r) 8 = P 24 r := h 24 r trivial ⟨hr, fun e => by omega⟩
theorem wy_c25 (h : wy_R wy_al S P) {r : Nat} (hr : r < 8) : S (199 + 9 * r) 9 = P 25 r := h 25 r trivial ⟨hr, fun e => by omega⟩
theorem wy_c26 (h : wy_R wy_al S P) {r : Nat} (hr : r < 8) : S (199 + 9 * r) 10 = P 26 r := h 26 r trivial ⟨hr, fun e => by omega⟩
/-! numbers of cells -/
theorem wy_n40 (t i : Nat) : (40 * (t : Int) + (i : Int)).toNat = 40 * t + i := by omega
theorem wy_n3 (t i : Nat) : (3 * (t : Int) + (i : Int)).toNat = 3 * t + i := by omega
theorem wy_n6 (t i : Nat) : (6 * (t : Int) + (i : Int)).toNat = 6 * t + i := by omega
theorem wy_n34 (t i c : Nat) : (3 * (40 * (t : Int) + (i : Int)) + (c : Int)).toNat = 3 * (40 * t + i) + c := by omega
theorem wy_fu {N : Nat} (h : N ≤ 1000) : N < wq_fu := by unfold wq_fu; omega
theorem wy_fu' {N : Nat} (h : N ≤ 1000) : N < wq_fu + 0 := wy_fu h
/-! the model: rows that are there -/
variable {M : wq_St}
theorem wy_m_rowsOf (hI : wy_iv P) (h2 : ∀ i, M 2 i = P 2 i) (h3 : ∀ i, M 3 i = P 3 i) {t : Nat} (ht : t < 4) : f_X9_rowsOf (t : Int) M = some (wy_ct P t (P 2 t).toNat, M) := by
  have b2 := wy_b2 hI t
  unfold f_X9_rowsOf
  have key := wy_up (fun n i (_ : Unit) => l_X9_rowsOf_7 (t : Int) (fun u3 S4 => some (u3, S4)) n (wy_ct P t i) (40 * (t : Int) + (i : Int)) M = some (wy_ct P t (P 2 t).toNat, M)) (P 2 t).toNat (fun _ _ => True) ?_ ?_ wq_fu 0 () (by omega) (wy_fu' (by omega)) trivial
  · simpa [wy_ct] using key
  · intro n i s hi _ ih
    have b3 := wy_b3 hI (40 * t + i)
    rw [l_X9_rowsOf_7_s]
    unfold b_X9_rowsOf_7
    simp (disch := omega) only [wy_ix, Int.toNat_natCast, h2, h3, wq_w_id, wy_n40]
    rw [if_neg (by omega)]
    have ih := ih () trivial
    have e : (40 * (t : Int) + (i : Int) + 1) = 40 * (t : Int) + ((i + 1 : Nat) : Int) := by omega
    simp only [wy_ct] at ih
    rw [e]
    by_cases hc : P 3 (40 * t + i) = 0
    · rw [if_pos hc] at ih ⊢
      exact ih
    · rw [if_neg hc] at ih ⊢
      exact ih
  · intro n s _
    rw [l_X9_rowsOf_7_s]
    unfold b_X9_rowsOf_7
    simp (disch := omega) only [wy_ix, Int.toNat_natCast, h2, wq_w_id]
    rw [if_pos (by omega)]
end
