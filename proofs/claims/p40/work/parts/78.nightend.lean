/-! NIGHTS: both sides end alike -/
section
variable {P Q S M : wq_St} {r D W i : Nat} {ln : Nat → Nat} {dm wm : Int}
theorem wy_ex_s {p : Nat → Prop} {n : Nat} : (∃ x, x < n + 1 ∧ p x) ↔ p n ∨ ∃ x, x < n ∧ p x := by
  constructor
  · rintro ⟨x, hx, hp⟩
    by_cases e : x = n
    · rw [e] at hp; exact Or.inl hp
    · exact Or.inr ⟨x, by omega, hp⟩
  · rintro (h | ⟨x, hx, hp⟩)
    · exact ⟨n, by omega, h⟩
    · exact ⟨x, by omega, hp⟩
/-- a cell that is set to v, or stays, step by step -/
theorem wy_steps {p : Nat → Prop} {g : Nat → Int} {a v : Int} (h0 : g 0 = a) (h1 : ∀ i, p i → g (i + 1) = v) (h2 : ∀ i, ¬p i → g (i + 1) = g i) : ∀ n, ((∃ x, x < n ∧ p x) → g n = v) ∧ ((¬∃ x, x < n ∧ p x) → g n = a)
  | 0 => ⟨fun ⟨x, hx, _⟩ => by omega, fun _ => h0⟩
  | n + 1 => by
    obtain ⟨a1, a2⟩ := wy_steps h0 h1 h2 n
    rw [wy_ex_s]
    by_cases c : p n
    · exact ⟨fun _ => h1 n c, fun h => absurd (Or.inl c) h⟩
    · exact ⟨fun h => (h2 n c).trans (a1 (h.resolve_left c)), fun h => (h2 n c).trans (a2 fun h' => h (Or.inr h'))⟩
def wy_Am (P : wq_St) (ln : Nat → Nat) (D j x : Nat) : Prop := (x < D → wy_wr P (ln x)) ∧ wy_tm P (ln x) j
theorem wy_Qr_10 (j n : Nat) : ((∃ x, x < n ∧ wy_Am P ln D j x) → wy_Qr P ln D n 10 j = 1) ∧ ((¬∃ x, x < n ∧ wy_Am P ln D j x) → wy_Qr P ln D n 10 j = P 10 j) := by
  refine wy_steps (g := fun n => wy_Qr P ln D n 10 j) rfl (fun i h => ?_) (fun i h => ?_) n
  · show wy_Qr P ln D (i + 1) 10 j = 1
    simp only [wy_Qr]
    by_cases c : i < D
    · rw [if_pos c]
      unfold wy_kp
      rw [if_pos (h.1 c)]
      exact wy_mt_1 h.2
    · rw [if_neg c]
      exact wy_mt_1 h.2
  · show wy_Qr P ln D (i + 1) 10 j = wy_Qr P ln D i 10 j
    simp only [wy_Qr]
    by_cases c : i < D
    · rw [if_pos c]
      unfold wy_kp
      by_cases w : wy_wr P (ln i)
      · rw [if_pos w, wy_mt_0 (fun h' => h ⟨fun _ => w, h'⟩), wy_k5_o (by omega)]
      · rw [if_neg w, wy_k5_o (by omega)]
    · rw [if_neg c]
      unfold wy_ow
      rw [wy_mt_0 (fun h' => h ⟨fun h'' => absurd h'' c, h'⟩), wy_set_ne (by omega)]
theorem wy_k5_at {f v : Nat} {w : Int} (hf : (f = 12 ∧ w = 0) ∨ (f = 24 ∧ w = wy_fd P v) ∨ (f = 25 ∧ w = wy_sd P v) ∨ (f = 26 ∧ w = P 0 29)) : wy_k5 P v Q f v = w := by
  unfold wy_k5
  rcases hf with ⟨rfl, rfl⟩ | ⟨rfl, rfl⟩ | ⟨rfl, rfl⟩ | ⟨rfl, rfl⟩
  · rw [wy_set_at rfl rfl]
  · rw [wy_set_ne (by omega), wy_set_ne (by omega), wy_set_ne (by omega), wy_set_at rfl rfl]
  · rw [wy_set_ne (by omega), wy_set_ne (by omega), wy_set_at rfl rfl]
  · rw [wy_set_ne (by omega), wy_set_at rfl rfl]
theorem wy_k5_ne {f j v : Nat} (hf : f = 12 ∨ f = 24 ∨ f = 25 ∨ f = 26) (hj : j ≠ v) : wy_k5 P v Q f j = Q f j := by
  unfold wy_k5
  rw [wy_set_ne (by omega), wy_set_ne (by omega), wy_set_ne (by omega), wy_set_ne (by omega), wy_set_ne (by omega)]
theorem wy_Qr_r {f : Nat} {w : Int} (r n : Nat) (hf : (f = 12 ∧ w = 0) ∨ (f = 24 ∧ w = wy_fd P r) ∨ (f = 25 ∧ w = wy_sd P r) ∨ (f = 26 ∧ w = P 0 29)) : ((∃ x, x < n ∧ (x < D ∧ ln x = r)) → wy_Qr P ln D n f r = w) ∧ ((¬∃ x, x < n ∧ (x < D ∧ ln x = r)) → wy_Qr P ln D n f r = P f r) := by
  have hf' : f = 12 ∨ f = 24 ∨ f = 25 ∨ f = 26 := by
    rcases hf with h | h | h | h
    · exact Or.inl h.1
    · exact Or.inr (Or.inl h.1)
    · exact Or.inr (Or.inr (Or.inl h.1))
    · exact Or.inr (Or.inr (Or.inr h.1))
  refine wy_steps (g := fun n => wy_Qr P ln D n f r) rfl (fun i h => ?_) (fun i h => ?_) n
  · show wy_Qr P ln D (i + 1) f r = w
    simp only [wy_Qr]
    rw [if_pos h.1, wy_kp_n (by omega), h.2]
    exact wy_k5_at hf
  · show wy_Qr P ln D (i + 1) f r = wy_Qr P ln D i f r
    simp only [wy_Qr]
    by_cases c : i < D
    · rw [if_pos c, wy_kp_n (by omega)]
      exact wy_k5_ne hf' (fun e => h ⟨c, e.symm⟩)
    · rw [if_neg c]
      unfold wy_ow
      rw [wy_mt_o (by omega), wy_set_ne (by omega)]
theorem wy_Qr_32 : ∀ n, wy_Qr P ln D n 0 32 = P 0 32 + wy_su (fun x => if x < D then 0 else P 11 (ln x)) n
  | 0 => (Int.add_zero _).symm
  | n + 1 => by
    have h := wy_Qr_32 n
    simp only [wy_Qr, wy_su]
    by_cases c : n < D
    · rw [if_pos c, if_pos c, wy_kp_n (by omega), wy_k5_o (by omega), h, Int.add_zero]
    · rw [if_neg c, if_neg c]
      unfold wy_ow
      rw [wy_mt_o (by omega), wy_set_at rfl rfl, h]
      omega
theorem wy_Qr_31e : ∀ n, D ≤ n → wy_Qr P ln D n 0 31 = wy_lf P ln D
  | 0, h => by
    have e : D = 0 := by omega
    subst e
    exact wy_Qr_31 0 (Nat.le_refl _)
  | n + 1, h => by
    by_cases e : D = n + 1
    · subst e
      exact wy_Qr_31 _ (Nat.le_refl _)
    · simp only [wy_Qr]
      rw [if_neg (by omega)]
      unfold wy_ow
      rw [wy_mt_o (by omega), wy_set_ne (by omega), wy_Qr_31e n (by omega)]
theorem wy_k4_at {f v : Nat} {w : Int} (hf : (f = 24 ∧ w = wy_fd P v) ∨ (f = 25 ∧ w = wy_sd P v) ∨ (f = 26 ∧ w = P 0 29)) : wy_k4 P v Q f v = w := by
  unfold wy_k4
  rcases hf with ⟨rfl, rfl⟩ | ⟨rfl, rfl⟩ | ⟨rfl, rfl⟩
  · rw [wy_set_ne (by omega), wy_set_ne (by omega), wy_set_at rfl rfl]
  · rw [wy_set_ne (by omega), wy_set_at rfl rfl]
  · rw [wy_set_at rfl rfl]
theorem wy_Qm_r {f : Nat} {w : Int} (r n : Nat) (hf : (f = 24 ∧ w = wy_fd P r) ∨ (f = 25 ∧ w = wy_sd P r) ∨ (f = 26 ∧ w = P 0 29)) : ((∃ x, x < n ∧ ln x = r) → wy_Qm P ln n f r = w) ∧ ((¬∃ x, x < n ∧ ln x = r) → wy_Qm P ln n f r = P f r) := by
  refine wy_steps (g := fun n => wy_Qm P ln n f r) rfl (fun i h => ?_) (fun i h => ?_) n
  · show wy_Qm P ln (i + 1) f r = w
    simp only [wy_Qm]
    rw [h]
    exact wy_k4_at hf
  · show wy_Qm P ln (i + 1) f r = wy_Qm P ln i f r
    simp only [wy_Qm]
    unfold wy_k4
    rw [wy_set_ne (by omega), wy_set_ne (by omega), wy_set_ne (by omega), wy_set_ne (by omega)]
def wy_Bm (P : wq_St) (c2 c3 : Int) (j r : Nat) : Prop := ((P 12 r ≠ 0 ∧ ¬wy_bt c2 r) ∨ wy_bt c3 r) ∧ wy_tm P r j
theorem wy_qk_10 {c2 c3 : Int} (j n : Nat) : ((∃ r, r < n ∧ wy_Bm P c2 c3 j r) → wy_qk P c2 c3 Q n 10 j = 1) ∧ ((¬∃ r, r < n ∧ wy_Bm P c2 c3 j r) → wy_qk P c2 c3 Q n 10 j = Q 10 j) := by
  refine wy_steps (g := fun n => wy_qk P c2 c3 Q n 10 j) rfl (fun i h => ?_) (fun i h => ?_) n
  · show wy_qk P c2 c3 Q (i + 1) 10 j = 1
    simp only [wy_qk]
    rw [wy_set_ne (by omega)]
    unfold wy_q2
    rw [if_pos h.1]
    exact wy_mt_1 h.2
  · show wy_qk P c2 c3 Q (i + 1) 10 j = wy_qk P c2 c3 Q i 10 j
    simp only [wy_qk]
    rw [wy_set_ne (by omega)]
    unfold wy_q2
    by_cases c : (P 12 i ≠ 0 ∧ ¬wy_bt c2 i) ∨ wy_bt c3 i
    · rw [if_pos c, wy_mt_0 (fun h' => h ⟨c, h'⟩), wy_set_ne (by omega)]
    · rw [if_neg c, wy_set_ne (by omega)]
theorem wy_qk_12d {c2 c3 : Int} {j : Nat} : ∀ n, j < n → wy_qk P c2 c3 Q n 12 j = if P 12 j ≠ 0 ∧ ¬wy_bt c2 j then 1 else 0
  | 0, h => by omega
  | n + 1, h => by
    simp only [wy_qk]
    by_cases e : j = n
    · subst e
      exact wy_set_at rfl rfl
    · rw [wy_set_ne (by omega), wy_q2_n (by omega), wy_set_ne (by omega)]
      exact wy_qk_12d n (by omega)
theorem wy_qk_32 {c2 c3 : Int} : ∀ n, wy_qk P c2 c3 Q n 0 32 = Q 0 32 + wy_su (wy_q1 P c2) n
  | 0 => (Int.add_zero _).symm
  | n + 1 => by
    simp only [wy_qk, wy_su]
    rw [wy_set_ne (by omega), wy_q2_n (by omega), wy_set_at rfl rfl, wy_qk_32 n]
    omega
/-! sums over the line are sums over the reports -/
theorem wy_su_one (G : Nat → Int) (a : Nat) : ∀ n, wy_su G n = wy_su (fun r => if r = a then 0 else G r) n + (if a < n then G a else 0)
  | 0 => rfl
  | n + 1 => by
    simp only [wy_su]
    rw [wy_su_one G a n]
    by_cases e : n = a
    · subst e
      rw [if_pos rfl, if_neg (by omega), if_pos (by omega)]
    · rw [if_neg e]
      by_cases c : a < n
      · rw [if_pos c, if_pos (by omega)]
        omega
      · rw [if_neg c, if_neg (by omega)]
        omega
theorem wy_su_line {F : Nat → Int} {N : Nat} : ∀ (W : Nat) (G : Nat → Int), (∀ x y, x < W → y < W → ln x = ln y → x = y) → (∀ x, x < W → ln x < N) → (∀ x, x < W → G (ln x) = F x) → (∀ r, r < N → (∀ x, x < W → ln x ≠ r) → G r = 0) → wy_su F W = wy_su G N
  | 0, G, _, _, _, h0 => by
    rw [wy_su_congr (b := fun _ => 0) fun r hr => h0 r hr fun x hx => by omega, wy_su_0]
    rfl
  | W + 1, G, inj, hlt, hG, h0 => by
    have ih := wy_su_line W (fun r => if r = ln W then 0 else G r) (fun x y hx hy => inj x y (by omega) (by omega)) (fun x hx => hlt x (by omega)) (fun x hx => by
      show (if ln x = ln W then 0 else G (ln x)) = F x
      rw [if_neg (fun e => by have := inj x W (by omega) (by omega) e; omega)]
      exact hG x (by omega)) (fun r hr hx => by
      show (if r = ln W then 0 else G r) = 0
      by_cases e : r = ln W
      · rw [if_pos e]
      · rw [if_neg e]
        exact h0 r hr fun x hx' e' => by
          by_cases c : x = W
          · rw [c] at e'; exact e e'.symm
          · exact hx x (by omega) e')
    simp only [wy_su]
    rw [ih, wy_su_one G (ln W) N, if_pos (hlt W (by omega)), hG W (by omega)]
theorem wy_su_D (D : Nat) : ∀ n, wy_su (fun x => if x < D then 1 else 0) n = if n ≤ D then (n : Int) else (D : Int)
  | 0 => by
    rw [if_pos (by omega)]
    rfl
  | n + 1 => by
    simp only [wy_su]
    rw [wy_su_D D n]
    by_cases c : n < D
    · rw [if_pos c, if_pos (by omega), if_pos (by omega)]
      omega
    · rw [if_neg c, if_neg (c := n + 1 ≤ D) (by omega)]
      by_cases e : n ≤ D
      · rw [if_pos e]
        omega
      · rw [if_neg e]
        omega
theorem wy_ln_inj (hln : wy_ln P 8 W ln) (x y : Nat) (hx : x < W) (hy : y < W) (h : ln x = ln y) : x = y := by
  by_cases c : x < y
  · have h1 := hln.2.2.1 x y c hy
    rw [h] at h1
    exact absurd h1 (wy_bf_a h1)
  · by_cases c' : y < x
    · have h1 := hln.2.2.1 y x c' hx
      rw [h] at h1
      exact absurd h1 (wy_bf_a h1)
    · omega
theorem wy_ln_N (hI : wy_iv P) (hln : wy_ln P 8 W ln) {x : Nat} (hx : x < W) : ln x < (P 0 28).toNat := by
  by_cases h : ln x < (P 0 28).toNat
  · exact h
  · exact absurd (hI.2.2.2.1 (ln x) (by omega)) (hln.2.1 x hx).2
/-- done, by its place and by its bit -/
theorem wy_bt_ln (hln : wy_ln P 8 W ln) (hDW : D ≤ W) (hk : wy_mk P ln D dm wm) {x : Nat} (hx : x < W) : wy_bt dm (ln x) ↔ x < D := by
  rw [hk.2.2.1 (ln x) (hln.2.1 x hx).1]
  constructor
  · rintro ⟨y, hy, e⟩
    have := wy_ln_inj hln y x (by omega) hx e
    omega
  · exact fun h => ⟨x, h, rfl⟩
theorem wy_owe (hI : wy_iv P) (hln : wy_ln P 8 W ln) (hDW : D ≤ W) (hk : wy_mk P ln D dm wm) : wy_su (fun x => if x < D then 0 else P 11 (ln x)) W = wy_su (wy_q1 P dm) (P 0 28).toNat := by
  refine wy_su_line W _ (wy_ln_inj hln) (fun x hx => wy_ln_N hI hln hx) (fun x hx => ?_) (fun r hr hn => ?_)
  · have h := wy_bt_ln hln hDW hk hx
    unfold wy_q1
    by_cases c : x < D
    · rw [if_pos c, if_neg (fun h' => h'.2 (h.mpr c))]
    · rw [if_neg c, if_pos ⟨(hln.2.1 x hx).2, fun h' => c (h.mp h')⟩]
  · unfold wy_q1
    rw [if_neg (fun h => ?_)]
    have hO := hI.2.1
    unfold wy_iO at hO
    obtain ⟨x, hx, e⟩ := hln.2.2.2 r (by omega) h.1
    exact hn x hx e
theorem wy_cnt (hI : wy_iv P) (hln : wy_ln P 8 W ln) (hDW : D ≤ W) (hk : wy_mk P ln D dm wm) : wy_su (fun r => if wy_bt dm r then 1 else 0) (P 0 28).toNat = (D : Int) := by
  have hO := hI.2.1
  unfold wy_iO at hO
  have h1 : wy_su (fun x => if x < D then 1 else 0) W = wy_su (fun r => if wy_bt dm r then 1 else 0) (P 0 28).toNat := by
    refine wy_su_line W _ (wy_ln_inj hln) (fun x hx => wy_ln_N hI hln hx) (fun x hx => ?_) (fun r hr hn => ?_)
    · have h := wy_bt_ln hln hDW hk hx
      by_cases c : x < D
      · rw [if_pos c, if_pos (h.mpr c)]
      · rw [if_neg c, if_neg (fun h' => c (h.mp h'))]
    · rw [if_neg (fun h => ?_)]
      obtain ⟨x, hx, e⟩ := (hk.2.2.1 r (by omega)).mp h
      exact hn x (by omega) e
  rw [← h1, wy_su_D]
  by_cases c : W ≤ D
  · rw [if_pos c]
    omega
  · rw [if_neg c]
/-- the class's state behind a night is the model's -/
theorem wy_same (hI : wy_iv P) (hln : wy_ln P 8 W ln) (hDW : D ≤ W) (hk : wy_mk P ln D dm wm) : wy_qk P dm wm (wy_Qm P ln D) (P 0 28).toNat = wy_Qr P ln D W := by
  have hO := hI.2.1
  unfold wy_iO at hO
  have hxD : ∀ r, (∃ x, x < W ∧ (x < D ∧ ln x = r)) ↔ ∃ x, x < D ∧ ln x = r := fun r => ⟨fun ⟨x, _, h⟩ => ⟨x, h⟩, fun ⟨x, h⟩ => ⟨x, by omega, h⟩⟩
  funext f j
  by_cases f10 : f = 10
  · subst f10
    have a := @wy_Qr_10 P D ln j W
    have b := @wy_qk_10 P (wy_Qm P ln D) dm wm j (P 0 28).toNat
    have hAB : (∃ x, x < W ∧ wy_Am P ln D j x) ↔ ∃ r, r < (P 0 28).toNat ∧ wy_Bm P dm wm j r := by
      constructor
      · rintro ⟨x, hx, h1, h2⟩
        refine ⟨ln x, wy_ln_N hI hln hx, ?_, h2⟩
        have h := wy_bt_ln hln hDW hk hx
        by_cases c : x < D
        · exact Or.inr ((hk.2.2.2 (ln x) (hln.2.1 x hx).1).mpr ⟨x, c, rfl, h1 c⟩)
        · exact Or.inl ⟨(hln.2.1 x hx).2, fun h' => c (h.mp h')⟩
      · rintro ⟨r, hr, h1, h2⟩
        rcases h1 with h1 | h1
        · obtain ⟨x, hx, e⟩ := hln.2.2.2 r (by omega) h1.1
          subst e
          have h := wy_bt_ln hln hDW hk hx
          exact ⟨x, hx, fun c => absurd (h.mpr c) h1.2, h2⟩
        · obtain ⟨x, hx, e, hw⟩ := (hk.2.2.2 r (by omega)).mp h1
          subst e
          exact ⟨x, by omega, fun _ => hw, h2⟩
    by_cases c : ∃ x, x < W ∧ wy_Am P ln D j x
    · rw [a.1 c, b.1 (hAB.mp c)]
    · rw [a.2 c, b.2 (fun h => c (hAB.mpr h)), wy_Qm_o (by omega)]
  · by_cases f12 : f = 12
    · subst f12
      have a := @wy_Qr_r P D ln 12 0 j W (Or.inl ⟨rfl, rfl⟩)
      rw [hxD] at a
      by_cases hj : j < (P 0 28).toNat
      · rw [wy_qk_12d _ hj]
        have hb := hk.2.2.1 j (by omega)
        have b12 := wy_b12 hI j
        by_cases c : ∃ x, x < D ∧ ln x = j
        · rw [a.1 c, if_neg (fun h => h.2 (hb.mpr c))]
        · rw [a.2 c]
          by_cases c0 : P 12 j = 0
          · rw [if_neg (fun h => h.1 c0), c0]
          · rw [if_pos ⟨c0, fun h => c (hb.mp h)⟩]
            omega
      · rw [wy_qk_12 _ (by omega), wy_Qm_o (by omega), a.2]
        rintro ⟨x, hx, e⟩
        have := wy_ln_N hI hln (x := x) (by omega)
        omega
    · by_cases f0 : f = 0 ∧ (j = 31 ∨ j = 32)
      · obtain ⟨rfl, hj⟩ := f0
        rcases hj with rfl | rfl
        · rw [wy_qk_o (by omega), wy_Qm_31, wy_Qr_31e W hDW]
        · rw [wy_qk_32, wy_Qr_32, wy_Qm_o (by omega), wy_owe hI hln hDW hk]
      · by_cases fr : f = 24 ∨ f = 25 ∨ f = 26
        · have hf : f ≠ 10 ∧ f ≠ 12 ∧ ¬(f = 0 ∧ j = 32) := ⟨f10, f12, fun h => by rcases fr with e | e | e <;> omega⟩
          obtain ⟨w, hw⟩ : ∃ w, (f = 24 ∧ w = wy_fd P j) ∨ (f = 25 ∧ w = wy_sd P j) ∨ (f = 26 ∧ w = P 0 29) := by
            rcases fr with h | h | h
            · exact ⟨_, Or.inl ⟨h, rfl⟩⟩
            · exact ⟨_, Or.inr (Or.inl ⟨h, rfl⟩)⟩
            · exact ⟨_, Or.inr (Or.inr ⟨h, rfl⟩)⟩
          have a := @wy_Qr_r P D ln f w j W (Or.inr hw)
          rw [hxD] at a
          have b := @wy_Qm_r P ln f w j D hw
          rw [wy_qk_o hf]
          by_cases c : ∃ x, x < D ∧ ln x = j
          · rw [a.1 c, b.1 c]
          · rw [a.2 c, b.2 c]
        · rw [wy_qk_o (by omega), wy_Qm_o (by omega), wy_Qr_o (by omega)]
theorem wy_iv_Qr (hI : wy_iv P) (hln : wy_ln P 8 W ln) (hDW : D ≤ W) : wy_iv (wy_Qr P ln D W) := by
  have hI' := hI
  have o : ∀ f i, f ≠ 10 ∧ f ≠ 12 ∧ f ≠ 24 ∧ f ≠ 25 ∧ f ≠ 26 ∧ ¬(f = 0 ∧ (i = 31 ∨ i = 32)) → wy_Qr P ln D W f i = P f i := fun f i h => wy_Qr_o h W
  have n12 : ∀ j, wy_Qr P ln D W 12 j = 0 ∨ wy_Qr P ln D W 12 j = P 12 j := fun j => by
    have a := @wy_Qr_r P D ln 12 0 j W (Or.inl ⟨rfl, rfl⟩)
    by_cases c : ∃ x, x < W ∧ (x < D ∧ ln x = j)
    · exact Or.inl (a.1 c)
    · exact Or.inr (a.2 c)
  obtain ⟨iB, iO, iK, iD, iL, iT, iC, iS, iN, iP⟩ := hI
  have n10 : ∀ j : Nat, (wy_Qr P ln D W 10 j = 1 ∧ (j : Int) < P 0 5) ∨ wy_Qr P ln D W 10 j = P 10 j := fun j => by
    have a := @wy_Qr_10 P D ln j W
    by_cases c : ∃ x, x < W ∧ wy_Am P ln D j x
    · refine Or.inl ⟨a.1 c, ?_⟩
      obtain ⟨x, hx, -, k, hk, e⟩ := c
      have := iT (ln x) k hk
      have := wy_b14 hI' (3 * ln x + k)
      omega
    · exact Or.inr (a.2 c)
  refine ⟨fun f i h1 h2 => ?_, ?_, fun t ht => ?_, fun r hr => ?_, fun i => ?_, fun r j hj => ?_, fun r k hk => ?_, fun r hr => ?_, fun r h1 h2 => ?_, fun t ht => ?_⟩
  · by_cases f10 : f = 10
    · subst f10
      rcases n10 i with h | h
      · rw [h.1]
        exact ⟨by show (0 : Int) ≤ 1; omega, by show (1 : Int) ≤ 1; omega⟩
      · rw [h]
        exact iB 10 i h1 h2
    · by_cases f12 : f = 12
      · subst f12
        rcases n12 i with h | h
        · rw [h]
          exact ⟨by show (0 : Int) ≤ 0; omega, by show (0 : Int) ≤ 1; omega⟩
        · rw [h]
          exact iB 12 i h1 h2
      · rw [o f i (by omega)]
        exact iB f i h1 h2
  · unfold wy_iO
    rw [o 0 5 (by omega), o 0 11 (by omega), o 0 28 (by omega)]
    exact iO
  · rw [o 0 5 (by omega)] at ht
    rcases n10 t with h | h
    · omega
    · rw [h]
      exact iK t ht
  · rw [o 0 28 (by omega)] at hr
    rcases n12 r with h | h
    · exact h
    · rw [h]
      exact iD r hr
  · rw [o 8 i (by omega), o 9 i (by omega)]
    exact iL i
  · rw [o 13 r (by omega)] at hj
    rw [o 14 _ (by omega), o 0 5 (by omega)]
    exact iT r j hj
  · rw [o 15 r (by omega)] at hk
    rw [o 13 _ (by omega), o 16 _ (by omega), o 17 _ (by omega), o 20 _ (by omega)]
    exact iC r k hk
  · rw [o 22 r (by omega)] at hr ⊢
    rw [o 13 _ (by omega), o 23 _ (by omega), o 28 _ (by omega)]
    exact iS r hr
  · rw [o 0 28 (by omega)] at h1
    have hno : ¬∃ x, x < W ∧ (x < D ∧ ln x = r) := by
      rintro ⟨x, hx, -, e⟩
      have := wy_ln_N hI' hln hx
      omega
    rw [o 22 _ (by omega), (@wy_Qr_r P D ln 24 _ r W (Or.inr (Or.inl ⟨rfl, rfl⟩))).2 hno, (@wy_Qr_r P D ln 25 _ r W (Or.inr (Or.inr (Or.inl ⟨rfl, rfl⟩)))).2 hno, (@wy_Qr_r P D ln 26 _ r W (Or.inr (Or.inr (Or.inr ⟨rfl, rfl⟩)))).2 hno]
    exact iN r h1 h2
  · rw [o 27 _ (by omega), o 2 _ (by omega), wy_ct_cg (fun i => o 3 i (by omega))]
    exact iP t ht
end
