/-- the first state of the class, of the model -/
def wq_S0 : wq_St := fun k j => if k = 282 ∧ j = 5 then 1 else if 199 ≤ k ∧ k < 271 ∧ (k - 199) % 9 = 0 ∧ (j = 5 ∨ j = 8 ∨ j = 9 ∨ j = 10) then -1 else 0
def wq_eqv (e e' : va_E) : Prop := ∀ (D : va_G) (q : Nat) (H : Heap), va_at D vwCl (q, e) H → va_at D vwCl (q, e') H
theorem wq_eqv_rf {e e' : va_E} (h : e = e') : wq_eqv e e' := fun _ _ _ h9 => h ▸ h9
theorem wq_eqv_ra {c : ClassId} {n : Nat} {f g : Nat → Option Nat} (h : ∀ j, j < n → f j = g j) : wq_eqv (.inl (c, n, .inr (.inr (.inr (.inr f))))) (.inl (c, n, .inr (.inr (.inr (.inr g))))) := by
  intro D q H h9
  have h9 : H[q]? = some (vp_cell c (n, .inr (.inr (.inr (.inr f))))) := h9
  show H[q]? = some (vp_cell c (n, .inr (.inr (.inr (.inr g)))))
  rw [h9, vp_cell_q, vp_cell_q]
  unfold arrV
  congr 2
  refine congrArg Array.ofFn (funext fun j => ?_)
  show va_rf (f j.val) = va_rf (g j.val)
  rw [h j.val j.isLt]
theorem wq_lt3 {P : Nat → Prop} (h0 : P 0) (h1 : P 1) (h2 : P 2) : ∀ j, j < 3 → P j
  | 0, _ => h0
  | 1, _ => h1
  | 2, _ => h2
  | j + 3, h => absurd h (by omega)
theorem wq_lt4 {P : Nat → Prop} (h0 : P 0) (h1 : P 1) (h2 : P 2) (h3 : P 3) : ∀ j, j < 4 → P j
  | 0, _ => h0
  | 1, _ => h1
  | 2, _ => h2
  | 3, _ => h3
  | j + 4, h => absurd h (by omega)
theorem wq_lt6 {P : Nat → Prop} (h0 : P 0) (h1 : P 1) (h2 : P 2) (h3 : P 3) (h4 : P 4) (h5 : P 5) : ∀ j, j < 6 → P j
  | 0, _ => h0
  | 1, _ => h1
  | 2, _ => h2
  | 3, _ => h3
  | 4, _ => h4
  | 5, _ => h5
  | j + 6, h => absurd h (by omega)
theorem wq_lt8 {P : Nat → Prop} (h0 : P 0) (h1 : P 1) (h2 : P 2) (h3 : P 3) (h4 : P 4) (h5 : P 5) (h6 : P 6) (h7 : P 7) : ∀ j, j < 8 → P j
  | 0, _ => h0
  | 1, _ => h1
  | 2, _ => h2
  | 3, _ => h3
  | 4, _ => h4
  | 5, _ => h5
  | 6, _ => h6
  | 7, _ => h7
  | j + 8, h => absurd h (by omega)
set_option maxHeartbeats 40000000 in
set_option maxRecDepth 100000 in
theorem wq_c8_0 (Ar : Nat → ClassId) (b : Nat) : ∀ k, k < 40 → ∃ e, (wq_c_X8_init Ar b)[0 + k]? = some e ∧ wq_eqv e (wq_EC Ar b (wq_S0 (0 + k)) (0 + k))
  | 0, _ => ⟨_, rfl, wq_eqv_rf rfl⟩
  | 1, _ => ⟨_, rfl, wq_eqv_rf rfl⟩
  | 2, _ => ⟨_, rfl, wq_eqv_rf rfl⟩
  | 3, _ => ⟨_, rfl, wq_eqv_rf rfl⟩
  | 4, _ => ⟨_, rfl, wq_eqv_rf rfl⟩
  | 5, _ => ⟨_, rfl, wq_eqv_ra (wq_lt4 rfl rfl rfl rfl)⟩
  | 6, _ => ⟨_, rfl, wq_eqv_rf rfl⟩
  | 7, _ => ⟨_, rfl, wq_eqv_ra (wq_lt3 rfl rfl rfl)⟩
  | 8, _ => ⟨_, rfl, wq_eqv_ra (fun j hj => (if_pos hj).trans (congrArg some (by show b + 5 + 1 + 2 + 1 + j = b + (8 + 1 + j); omega)))⟩
  | 9, _ => ⟨_, rfl, wq_eqv_rf rfl⟩
  | 10, _ => ⟨_, rfl, wq_eqv_rf rfl⟩
  | 11, _ => ⟨_, rfl, wq_eqv_rf rfl⟩
  | 12, _ => ⟨_, rfl, wq_eqv_rf rfl⟩
  | 13, _ => ⟨_, rfl, wq_eqv_rf rfl⟩
  | 14, _ => ⟨_, rfl, wq_eqv_rf rfl⟩
  | 15, _ => ⟨_, rfl, wq_eqv_rf rfl⟩
  | 16, _ => ⟨_, rfl, wq_eqv_rf rfl⟩
  | 17, _ => ⟨_, rfl, wq_eqv_rf rfl⟩
  | 18, _ => ⟨_, rfl, wq_eqv_rf rfl⟩
  | 19, _ => ⟨_, rfl, wq_eqv_rf rfl⟩
  | 20, _ => ⟨_, rfl, wq_eqv_rf rfl⟩
  | 21, _ => ⟨_, rfl, wq_eqv_rf rfl⟩
  | 22, _ => ⟨_, rfl, wq_eqv_rf rfl⟩
  | 23, _ => ⟨_, rfl, wq_eqv_rf rfl⟩
  | 24, _ => ⟨_, rfl, wq_eqv_rf rfl⟩
  | 25, _ => ⟨_, rfl, wq_eqv_rf rfl⟩
  | 26, _ => ⟨_, rfl, wq_eqv_rf rfl⟩
  | 27, _ => ⟨_, rfl, wq_eqv_rf rfl⟩
  | 28, _ => ⟨_, rfl, wq_eqv_rf rfl⟩
  | 29, _ => ⟨_, rfl, wq_eqv_rf rfl⟩
  | 30, _ => ⟨_, rfl, wq_eqv_rf rfl⟩
  | 31, _ => ⟨_, rfl, wq_eqv_rf rfl⟩
  | 32, _ => ⟨_, rfl, wq_eqv_rf rfl⟩
  | 33, _ => ⟨_, rfl, wq_eqv_rf rfl⟩
  | 34, _ => ⟨_, rfl, wq_eqv_rf rfl⟩
  | 35, _ => ⟨_, rfl, wq_eqv_rf rfl⟩
  | 36, _ => ⟨_, rfl, wq_eqv_rf rfl⟩
  | 37, _ => ⟨_, rfl, wq_eqv_rf rfl⟩
  | 38, _ => ⟨_, rfl, wq_eqv_rf rfl⟩
  | 39, _ => ⟨_, rfl, wq_eqv_rf rfl⟩
  | k + 40, h => absurd h (by omega)
set_option maxHeartbeats 40000000 in
set_option maxRecDepth 100000 in
theorem wq_c8_40 (Ar : Nat → ClassId) (b : Nat) : ∀ k, k < 40 → ∃ e, (wq_c_X8_init Ar b)[40 + k]? = some e ∧ wq_eqv e (wq_EC Ar b (wq_S0 (40 + k)) (40 + k))
  | 0, _ => ⟨_, rfl, wq_eqv_rf rfl⟩
  | 1, _ => ⟨_, rfl, wq_eqv_rf rfl⟩
  | 2, _ => ⟨_, rfl, wq_eqv_rf rfl⟩
  | 3, _ => ⟨_, rfl, wq_eqv_rf rfl⟩
  | 4, _ => ⟨_, rfl, wq_eqv_rf rfl⟩
  | 5, _ => ⟨_, rfl, wq_eqv_rf rfl⟩
  | 6, _ => ⟨_, rfl, wq_eqv_rf rfl⟩
  | 7, _ => ⟨_, rfl, wq_eqv_rf rfl⟩
  | 8, _ => ⟨_, rfl, wq_eqv_rf rfl⟩
  | 9, _ => ⟨_, rfl, wq_eqv_rf rfl⟩
  | 10, _ => ⟨_, rfl, wq_eqv_rf rfl⟩
  | 11, _ => ⟨_, rfl, wq_eqv_rf rfl⟩
  | 12, _ => ⟨_, rfl, wq_eqv_rf rfl⟩
  | 13, _ => ⟨_, rfl, wq_eqv_rf rfl⟩
  | 14, _ => ⟨_, rfl, wq_eqv_rf rfl⟩
  | 15, _ => ⟨_, rfl, wq_eqv_ra (wq_lt3 rfl rfl rfl)⟩
  | 16, _ => ⟨_, rfl, wq_eqv_ra (fun j hj => (if_pos hj).trans (congrArg some (by show b + 5 + 49 + 2 + 1 + j = b + (56 + 1 + j); omega)))⟩
  | 17, _ => ⟨_, rfl, wq_eqv_rf rfl⟩
  | 18, _ => ⟨_, rfl, wq_eqv_rf rfl⟩
  | 19, _ => ⟨_, rfl, wq_eqv_rf rfl⟩
  | 20, _ => ⟨_, rfl, wq_eqv_rf rfl⟩
  | 21, _ => ⟨_, rfl, wq_eqv_rf rfl⟩
  | 22, _ => ⟨_, rfl, wq_eqv_rf rfl⟩
  | 23, _ => ⟨_, rfl, wq_eqv_rf rfl⟩
  | 24, _ => ⟨_, rfl, wq_eqv_rf rfl⟩
  | 25, _ => ⟨_, rfl, wq_eqv_rf rfl⟩
  | 26, _ => ⟨_, rfl, wq_eqv_rf rfl⟩
  | 27, _ => ⟨_, rfl, wq_eqv_rf rfl⟩
  | 28, _ => ⟨_, rfl, wq_eqv_rf rfl⟩
  | 29, _ => ⟨_, rfl, wq_eqv_rf rfl⟩
  | 30, _ => ⟨_, rfl, wq_eqv_rf rfl⟩
  | 31, _ => ⟨_, rfl, wq_eqv_rf rfl⟩
  | 32, _ => ⟨_, rfl, wq_eqv_rf rfl⟩
  | 33, _ => ⟨_, rfl, wq_eqv_rf rfl⟩
  | 34, _ => ⟨_, rfl, wq_eqv_rf rfl⟩
  | 35, _ => ⟨_, rfl, wq_eqv_rf rfl⟩
  | 36, _ => ⟨_, rfl, wq_eqv_rf rfl⟩
  | 37, _ => ⟨_, rfl, wq_eqv_rf rfl⟩
  | 38, _ => ⟨_, rfl, wq_eqv_rf rfl⟩
  | 39, _ => ⟨_, rfl, wq_eqv_rf rfl⟩
  | k + 40, h => absurd h (by omega)
set_option maxHeartbeats 40000000 in
set_option maxRecDepth 100000 in
theorem wq_c8_80 (Ar : Nat → ClassId) (b : Nat) : ∀ k, k < 40 → ∃ e, (wq_c_X8_init Ar b)[80 + k]? = some e ∧ wq_eqv e (wq_EC Ar b (wq_S0 (80 + k)) (80 + k))
  | 0, _ => ⟨_, rfl, wq_eqv_rf rfl⟩
  | 1, _ => ⟨_, rfl, wq_eqv_rf rfl⟩
  | 2, _ => ⟨_, rfl, wq_eqv_rf rfl⟩
  | 3, _ => ⟨_, rfl, wq_eqv_rf rfl⟩
  | 4, _ => ⟨_, rfl, wq_eqv_rf rfl⟩
  | 5, _ => ⟨_, rfl, wq_eqv_rf rfl⟩
  | 6, _ => ⟨_, rfl, wq_eqv_rf rfl⟩
  | 7, _ => ⟨_, rfl, wq_eqv_rf rfl⟩
  | 8, _ => ⟨_, rfl, wq_eqv_rf rfl⟩
  | 9, _ => ⟨_, rfl, wq_eqv_rf rfl⟩
  | 10, _ => ⟨_, rfl, wq_eqv_rf rfl⟩
  | 11, _ => ⟨_, rfl, wq_eqv_rf rfl⟩
  | 12, _ => ⟨_, rfl, wq_eqv_rf rfl⟩
  | 13, _ => ⟨_, rfl, wq_eqv_rf rfl⟩
  | 14, _ => ⟨_, rfl, wq_eqv_rf rfl⟩
  | 15, _ => ⟨_, rfl, wq_eqv_rf rfl⟩
  | 16, _ => ⟨_, rfl, wq_eqv_rf rfl⟩
  | 17, _ => ⟨_, rfl, wq_eqv_rf rfl⟩
  | 18, _ => ⟨_, rfl, wq_eqv_rf rfl⟩
  | 19, _ => ⟨_, rfl, wq_eqv_rf rfl⟩
  | 20, _ => ⟨_, rfl, wq_eqv_rf rfl⟩
  | 21, _ => ⟨_, rfl, wq_eqv_rf rfl⟩
  | 22, _ => ⟨_, rfl, wq_eqv_rf rfl⟩
  | 23, _ => ⟨_, rfl, wq_eqv_ra (wq_lt3 rfl rfl rfl)⟩
  | 24, _ => ⟨_, rfl, wq_eqv_ra (fun j hj => (if_pos hj).trans (congrArg some (by show b + 5 + 97 + 2 + 1 + j = b + (104 + 1 + j); omega)))⟩
  | 25, _ => ⟨_, rfl, wq_eqv_rf rfl⟩
  | 26, _ => ⟨_, rfl, wq_eqv_rf rfl⟩
  | 27, _ => ⟨_, rfl, wq_eqv_rf rfl⟩
  | 28, _ => ⟨_, rfl, wq_eqv_rf rfl⟩
  | 29, _ => ⟨_, rfl, wq_eqv_rf rfl⟩
  | 30, _ => ⟨_, rfl, wq_eqv_rf rfl⟩
  | 31, _ => ⟨_, rfl, wq_eqv_rf rfl⟩
  | 32, _ => ⟨_, rfl, wq_eqv_rf rfl⟩
  | 33, _ => ⟨_, rfl, wq_eqv_rf rfl⟩
  | 34, _ => ⟨_, rfl, wq_eqv_rf rfl⟩
  | 35, _ => ⟨_, rfl, wq_eqv_rf rfl⟩
  | 36, _ => ⟨_, rfl, wq_eqv_rf rfl⟩
  | 37, _ => ⟨_, rfl, wq_eqv_rf rfl⟩
  | 38, _ => ⟨_, rfl, wq_eqv_rf rfl⟩
  | 39, _ => ⟨_, rfl, wq_eqv_rf rfl⟩
  | k + 40, h => absurd h (by omega)
set_option maxHeartbeats 40000000 in
set_option maxRecDepth 100000 in
theorem wq_c8_120 (Ar : Nat → ClassId) (b : Nat) : ∀ k, k < 40 → ∃ e, (wq_c_X8_init Ar b)[120 + k]? = some e ∧ wq_eqv e (wq_EC Ar b (wq_S0 (120 + k)) (120 + k))
  | 0, _ => ⟨_, rfl, wq_eqv_rf rfl⟩
  | 1, _ => ⟨_, rfl, wq_eqv_rf rfl⟩
  | 2, _ => ⟨_, rfl, wq_eqv_rf rfl⟩
  | 3, _ => ⟨_, rfl, wq_eqv_rf rfl⟩
  | 4, _ => ⟨_, rfl, wq_eqv_rf rfl⟩
  | 5, _ => ⟨_, rfl, wq_eqv_rf rfl⟩
  | 6, _ => ⟨_, rfl, wq_eqv_rf rfl⟩
  | 7, _ => ⟨_, rfl, wq_eqv_rf rfl⟩
  | 8, _ => ⟨_, rfl, wq_eqv_rf rfl⟩
  | 9, _ => ⟨_, rfl, wq_eqv_rf rfl⟩
  | 10, _ => ⟨_, rfl, wq_eqv_rf rfl⟩
  | 11, _ => ⟨_, rfl, wq_eqv_rf rfl⟩
  | 12, _ => ⟨_, rfl, wq_eqv_rf rfl⟩
  | 13, _ => ⟨_, rfl, wq_eqv_rf rfl⟩
  | 14, _ => ⟨_, rfl, wq_eqv_rf rfl⟩
  | 15, _ => ⟨_, rfl, wq_eqv_rf rfl⟩
  | 16, _ => ⟨_, rfl, wq_eqv_rf rfl⟩
  | 17, _ => ⟨_, rfl, wq_eqv_rf rfl⟩
  | 18, _ => ⟨_, rfl, wq_eqv_rf rfl⟩
  | 19, _ => ⟨_, rfl, wq_eqv_rf rfl⟩
  | 20, _ => ⟨_, rfl, wq_eqv_rf rfl⟩
  | 21, _ => ⟨_, rfl, wq_eqv_rf rfl⟩
  | 22, _ => ⟨_, rfl, wq_eqv_rf rfl⟩
  | 23, _ => ⟨_, rfl, wq_eqv_rf rfl⟩
  | 24, _ => ⟨_, rfl, wq_eqv_rf rfl⟩
  | 25, _ => ⟨_, rfl, wq_eqv_rf rfl⟩
  | 26, _ => ⟨_, rfl, wq_eqv_rf rfl⟩
  | 27, _ => ⟨_, rfl, wq_eqv_rf rfl⟩
  | 28, _ => ⟨_, rfl, wq_eqv_rf rfl⟩
  | 29, _ => ⟨_, rfl, wq_eqv_rf rfl⟩
  | 30, _ => ⟨_, rfl, wq_eqv_rf rfl⟩
  | 31, _ => ⟨_, rfl, wq_eqv_ra (wq_lt3 rfl rfl rfl)⟩
  | 32, _ => ⟨_, rfl, wq_eqv_ra (fun j hj => (if_pos hj).trans (congrArg some (by show b + 5 + 145 + 2 + 1 + j = b + (152 + 1 + j); omega)))⟩
  | 33, _ => ⟨_, rfl, wq_eqv_rf rfl⟩
  | 34, _ => ⟨_, rfl, wq_eqv_rf rfl⟩
  | 35, _ => ⟨_, rfl, wq_eqv_rf rfl⟩
  | 36, _ => ⟨_, rfl, wq_eqv_rf rfl⟩
  | 37, _ => ⟨_, rfl, wq_eqv_rf rfl⟩
  | 38, _ => ⟨_, rfl, wq_eqv_rf rfl⟩
  | 39, _ => ⟨_, rfl, wq_eqv_rf rfl⟩
  | k + 40, h => absurd h (by omega)
set_option maxHeartbeats 40000000 in
set_option maxRecDepth 100000 in
theorem wq_c8_160 (Ar : Nat → ClassId) (b : Nat) : ∀ k, k < 40 → ∃ e, (wq_c_X8_init Ar b)[160 + k]? = some e ∧ wq_eqv e (wq_EC Ar b (wq_S0 (160 + k)) (160 + k))
  | 0, _ => ⟨_, rfl, wq_eqv_rf rfl⟩
  | 1, _ => ⟨_, rfl, wq_eqv_rf rfl⟩
  | 2, _ => ⟨_, rfl, wq_eqv_rf rfl⟩
  | 3, _ => ⟨_, rfl, wq_eqv_rf rfl⟩
  | 4, _ => ⟨_, rfl, wq_eqv_rf rfl⟩
  | 5, _ => ⟨_, rfl, wq_eqv_rf rfl⟩
  | 6, _ => ⟨_, rfl, wq_eqv_rf rfl⟩
  | 7, _ => ⟨_, rfl, wq_eqv_rf rfl⟩
  | 8, _ => ⟨_, rfl, wq_eqv_rf rfl⟩
  | 9, _ => ⟨_, rfl, wq_eqv_rf rfl⟩
  | 10, _ => ⟨_, rfl, wq_eqv_rf rfl⟩
  | 11, _ => ⟨_, rfl, wq_eqv_rf rfl⟩
  | 12, _ => ⟨_, rfl, wq_eqv_rf rfl⟩
  | 13, _ => ⟨_, rfl, wq_eqv_rf rfl⟩
  | 14, _ => ⟨_, rfl, wq_eqv_rf rfl⟩
  | 15, _ => ⟨_, rfl, wq_eqv_rf rfl⟩
  | 16, _ => ⟨_, rfl, wq_eqv_rf rfl⟩
  | 17, _ => ⟨_, rfl, wq_eqv_rf rfl⟩
  | 18, _ => ⟨_, rfl, wq_eqv_rf rfl⟩
  | 19, _ => ⟨_, rfl, wq_eqv_rf rfl⟩
  | 20, _ => ⟨_, rfl, wq_eqv_rf rfl⟩
  | 21, _ => ⟨_, rfl, wq_eqv_rf rfl⟩
  | 22, _ => ⟨_, rfl, wq_eqv_rf rfl⟩
  | 23, _ => ⟨_, rfl, wq_eqv_rf rfl⟩
  | 24, _ => ⟨_, rfl, wq_eqv_rf rfl⟩
  | 25, _ => ⟨_, rfl, wq_eqv_rf rfl⟩
  | 26, _ => ⟨_, rfl, wq_eqv_rf rfl⟩
  | 27, _ => ⟨_, rfl, wq_eqv_rf rfl⟩
  | 28, _ => ⟨_, rfl, wq_eqv_rf rfl⟩
  | 29, _ => ⟨_, rfl, wq_eqv_rf rfl⟩
  | 30, _ => ⟨_, rfl, wq_eqv_rf rfl⟩
  | 31, _ => ⟨_, rfl, wq_eqv_rf rfl⟩
  | 32, _ => ⟨_, rfl, wq_eqv_rf rfl⟩
  | 33, _ => ⟨_, rfl, wq_eqv_rf rfl⟩
  | 34, _ => ⟨_, rfl, wq_eqv_rf rfl⟩
  | 35, _ => ⟨_, rfl, wq_eqv_rf rfl⟩
  | 36, _ => ⟨_, rfl, wq_eqv_rf rfl⟩
  | 37, _ => ⟨_, rfl, wq_eqv_rf rfl⟩
  | 38, _ => ⟨_, rfl, wq_eqv_ra (wq_lt8 rfl rfl rfl rfl rfl rfl rfl rfl)⟩
  | 39, _ => ⟨_, rfl, wq_eqv_rf rfl⟩
  | k + 40, h => absurd h (by omega)
set_option maxHeartbeats 40000000 in
set_option maxRecDepth 100000 in
theorem wq_c8_200 (Ar : Nat → ClassId) (b : Nat) : ∀ k, k < 40 → ∃ e, (wq_c_X8_init Ar b)[200 + k]? = some e ∧ wq_eqv e (wq_EC Ar b (wq_S0 (200 + k)) (200 + k))
  | 0, _ => ⟨_, rfl, wq_eqv_rf rfl⟩
  | 1, _ => ⟨_, rfl, wq_eqv_ra (wq_lt6 rfl rfl rfl rfl rfl rfl)⟩
  | 2, _ => ⟨_, rfl, wq_eqv_rf rfl⟩
  | 3, _ => ⟨_, rfl, wq_eqv_rf rfl⟩
  | 4, _ => ⟨_, rfl, wq_eqv_rf rfl⟩
  | 5, _ => ⟨_, rfl, wq_eqv_rf rfl⟩
  | 6, _ => ⟨_, rfl, wq_eqv_rf rfl⟩
  | 7, _ => ⟨_, rfl, wq_eqv_rf rfl⟩
  | 8, _ => ⟨_, rfl, wq_eqv_rf rfl⟩
  | 9, _ => ⟨_, rfl, wq_eqv_rf rfl⟩
  | 10, _ => ⟨_, rfl, wq_eqv_ra (wq_lt6 rfl rfl rfl rfl rfl rfl)⟩
  | 11, _ => ⟨_, rfl, wq_eqv_rf rfl⟩
  | 12, _ => ⟨_, rfl, wq_eqv_rf rfl⟩
  | 13, _ => ⟨_, rfl, wq_eqv_rf rfl⟩
  | 14, _ => ⟨_, rfl, wq_eqv_rf rfl⟩
  | 15, _ => ⟨_, rfl, wq_eqv_rf rfl⟩
  | 16, _ => ⟨_, rfl, wq_eqv_rf rfl⟩
  | 17, _ => ⟨_, rfl, wq_eqv_rf rfl⟩
  | 18, _ => ⟨_, rfl, wq_eqv_rf rfl⟩
  | 19, _ => ⟨_, rfl, wq_eqv_ra (wq_lt6 rfl rfl rfl rfl rfl rfl)⟩
  | 20, _ => ⟨_, rfl, wq_eqv_rf rfl⟩
  | 21, _ => ⟨_, rfl, wq_eqv_rf rfl⟩
  | 22, _ => ⟨_, rfl, wq_eqv_rf rfl⟩
  | 23, _ => ⟨_, rfl, wq_eqv_rf rfl⟩
  | 24, _ => ⟨_, rfl, wq_eqv_rf rfl⟩
  | 25, _ => ⟨_, rfl, wq_eqv_rf rfl⟩
  | 26, _ => ⟨_, rfl, wq_eqv_rf rfl⟩
  | 27, _ => ⟨_, rfl, wq_eqv_rf rfl⟩
  | 28, _ => ⟨_, rfl, wq_eqv_ra (wq_lt6 rfl rfl rfl rfl rfl rfl)⟩
  | 29, _ => ⟨_, rfl, wq_eqv_rf rfl⟩
  | 30, _ => ⟨_, rfl, wq_eqv_rf rfl⟩
  | 31, _ => ⟨_, rfl, wq_eqv_rf rfl⟩
  | 32, _ => ⟨_, rfl, wq_eqv_rf rfl⟩
  | 33, _ => ⟨_, rfl, wq_eqv_rf rfl⟩
  | 34, _ => ⟨_, rfl, wq_eqv_rf rfl⟩
  | 35, _ => ⟨_, rfl, wq_eqv_rf rfl⟩
  | 36, _ => ⟨_, rfl, wq_eqv_rf rfl⟩
  | 37, _ => ⟨_, rfl, wq_eqv_ra (wq_lt6 rfl rfl rfl rfl rfl rfl)⟩
  | 38, _ => ⟨_, rfl, wq_eqv_rf rfl⟩
  | 39, _ => ⟨_, rfl, wq_eqv_rf rfl⟩
  | k + 40, h => absurd h (by omega)
set_option maxHeartbeats 40000000 in
set_option maxRecDepth 100000 in
theorem wq_c8_240 (Ar : Nat → ClassId) (b : Nat) : ∀ k, k < 40 → ∃ e, (wq_c_X8_init Ar b)[240 + k]? = some e ∧ wq_eqv e (wq_EC Ar b (wq_S0 (240 + k)) (240 + k))
  | 0, _ => ⟨_, rfl, wq_eqv_rf rfl⟩
  | 1, _ => ⟨_, rfl, wq_eqv_rf rfl⟩
  | 2, _ => ⟨_, rfl, wq_eqv_rf rfl⟩
  | 3, _ => ⟨_, rfl, wq_eqv_rf rfl⟩
  | 4, _ => ⟨_, rfl, wq_eqv_rf rfl⟩
  | 5, _ => ⟨_, rfl, wq_eqv_rf rfl⟩
  | 6, _ => ⟨_, rfl, wq_eqv_ra (wq_lt6 rfl rfl rfl rfl rfl rfl)⟩
  | 7, _ => ⟨_, rfl, wq_eqv_rf rfl⟩
  | 8, _ => ⟨_, rfl, wq_eqv_rf rfl⟩
  | 9, _ => ⟨_, rfl, wq_eqv_rf rfl⟩
  | 10, _ => ⟨_, rfl, wq_eqv_rf rfl⟩
  | 11, _ => ⟨_, rfl, wq_eqv_rf rfl⟩
  | 12, _ => ⟨_, rfl, wq_eqv_rf rfl⟩
  | 13, _ => ⟨_, rfl, wq_eqv_rf rfl⟩
  | 14, _ => ⟨_, rfl, wq_eqv_rf rfl⟩
  | 15, _ => ⟨_, rfl, wq_eqv_ra (wq_lt6 rfl rfl rfl rfl rfl rfl)⟩
  | 16, _ => ⟨_, rfl, wq_eqv_rf rfl⟩
  | 17, _ => ⟨_, rfl, wq_eqv_rf rfl⟩
  | 18, _ => ⟨_, rfl, wq_eqv_rf rfl⟩
  | 19, _ => ⟨_, rfl, wq_eqv_rf rfl⟩
  | 20, _ => ⟨_, rfl, wq_eqv_rf rfl⟩
  | 21, _ => ⟨_, rfl, wq_eqv_rf rfl⟩
  | 22, _ => ⟨_, rfl, wq_eqv_rf rfl⟩
  | 23, _ => ⟨_, rfl, wq_eqv_rf rfl⟩
  | 24, _ => ⟨_, rfl, wq_eqv_ra (wq_lt6 rfl rfl rfl rfl rfl rfl)⟩
  | 25, _ => ⟨_, rfl, wq_eqv_rf rfl⟩
  | 26, _ => ⟨_, rfl, wq_eqv_rf rfl⟩
  | 27, _ => ⟨_, rfl, wq_eqv_rf rfl⟩
  | 28, _ => ⟨_, rfl, wq_eqv_rf rfl⟩
  | 29, _ => ⟨_, rfl, wq_eqv_rf rfl⟩
  | 30, _ => ⟨_, rfl, wq_eqv_rf rfl⟩
  | 31, _ => ⟨_, rfl, wq_eqv_rf rfl⟩
  | 32, _ => ⟨_, rfl, wq_eqv_rf rfl⟩
  | 33, _ => ⟨_, rfl, wq_eqv_rf rfl⟩
  | 34, _ => ⟨_, rfl, wq_eqv_rf rfl⟩
  | 35, _ => ⟨_, rfl, wq_eqv_rf rfl⟩
  | 36, _ => ⟨_, rfl, wq_eqv_rf rfl⟩
  | 37, _ => ⟨_, rfl, wq_eqv_rf rfl⟩
  | 38, _ => ⟨_, rfl, wq_eqv_rf rfl⟩
  | 39, _ => ⟨_, rfl, wq_eqv_rf rfl⟩
  | k + 40, h => absurd h (by omega)
set_option maxHeartbeats 40000000 in
set_option maxRecDepth 100000 in
theorem wq_c8_280 (Ar : Nat → ClassId) (b : Nat) : ∀ k, k < 4 → ∃ e, (wq_c_X8_init Ar b)[280 + k]? = some e ∧ wq_eqv e (wq_EC Ar b (wq_S0 (280 + k)) (280 + k))
  | 0, _ => ⟨_, rfl, wq_eqv_rf rfl⟩
  | 1, _ => ⟨_, rfl, wq_eqv_rf rfl⟩
  | 2, _ => ⟨_, rfl, wq_eqv_rf rfl⟩
  | 3, _ => ⟨_, rfl, wq_eqv_rf rfl⟩
  | k + 4, h => absurd h (by omega)
theorem wq_c8 (Ar : Nat → ClassId) (b : Nat) : ∀ k, k < 284 → ∃ e, (wq_c_X8_init Ar b)[k]? = some e ∧ wq_eqv e (wq_EC Ar b (wq_S0 k) k) := by
  intro k hk
  by_cases h0 : k < 40
  · obtain ⟨j, rfl⟩ : ∃ j, k = 0 + j := ⟨k - 0, by omega⟩
    exact wq_c8_0 Ar b j (by omega)
  by_cases h40 : k < 80
  · obtain ⟨j, rfl⟩ : ∃ j, k = 40 + j := ⟨k - 40, by omega⟩
    exact wq_c8_40 Ar b j (by omega)
  by_cases h80 : k < 120
  · obtain ⟨j, rfl⟩ : ∃ j, k = 80 + j := ⟨k - 80, by omega⟩
    exact wq_c8_80 Ar b j (by omega)
  by_cases h120 : k < 160
  · obtain ⟨j, rfl⟩ : ∃ j, k = 120 + j := ⟨k - 120, by omega⟩
    exact wq_c8_120 Ar b j (by omega)
  by_cases h160 : k < 200
  · obtain ⟨j, rfl⟩ : ∃ j, k = 160 + j := ⟨k - 160, by omega⟩
    exact wq_c8_160 Ar b j (by omega)
  by_cases h200 : k < 240
  · obtain ⟨j, rfl⟩ : ∃ j, k = 200 + j := ⟨k - 200, by omega⟩
    exact wq_c8_200 Ar b j (by omega)
  by_cases h240 : k < 280
  · obtain ⟨j, rfl⟩ : ∃ j, k = 240 + j := ⟨k - 240, by omega⟩
    exact wq_c8_240 Ar b j (by omega)
  by_cases h280 : k < 284
  · obtain ⟨j, rfl⟩ : ∃ j, k = 280 + j := ⟨k - 280, by omega⟩
    exact wq_c8_280 Ar b j (by omega)
  omega
def wq_SL0 : wq_St := fun k => if k < 284 then wq_S0 k else if k < 568 then wq_S0 (k - 284) else fun _ => 0
set_option maxHeartbeats 40000000 in
set_option maxRecDepth 100000 in
theorem wq_first {D : va_G} {Ar : Nat → ClassId} {b : Nat} {H : Heap} (h : wq_Xw D b (wq_c_X8_init Ar b ++ (wq_c_X8_init Ar (b + 284) ++ [.inl (Ar 0, 3, .inl fun _ => wq_I 0), .inl (Ar 0, 2, .inl fun _ => wq_I 0)])) H) : wq_Wd D (wq_EL Ar b) b 570 wq_SL0 H := by
  have l8 : ∀ b9 : Nat, (wq_c_X8_init Ar b9).length = 284 := fun _ => rfl
  intro k hk
  unfold wq_EL wq_SL0
  by_cases h1 : k < 284
  · rw [if_pos h1, if_pos h1]
    obtain ⟨e, h2, h3⟩ := wq_c8 Ar b k h1
    exact h3 _ _ _ (h.2 k e (by rw [List.getElem?_append_left (by rw [l8]; exact h1)]; exact h2))
  · rw [if_neg h1, if_neg h1]
    by_cases h4 : k < 568
    · rw [if_pos h4, if_pos h4]
      obtain ⟨e, h2, h3⟩ := wq_c8 Ar (b + 284) (k - 284) (by omega)
      exact h3 _ _ _ (h.2 k e (by rw [List.getElem?_append_right (by rw [l8]; omega), l8, List.getElem?_append_left (by rw [l8]; omega)]; exact h2))
    · rw [if_neg h4, if_neg h4]
      by_cases h5 : k = 568
      · subst h5
        exact h.2 568 _ (by rw [List.getElem?_append_right (by rw [l8]; omega), l8, List.getElem?_append_right (by rw [l8]; omega), l8]; rfl)
      · rw [if_neg h5]
        have e9 : k = 569 := by omega
        subst e9
        exact h.2 569 _ (by rw [List.getElem?_append_right (by rw [l8]; omega), l8, List.getElem?_append_right (by rw [l8]; omega), l8]; rfl)
