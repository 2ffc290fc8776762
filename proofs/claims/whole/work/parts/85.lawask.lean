/-! THE LAW: what its wrappers give, what it asks -/
def wy_LI (P S : wq_St) : Prop := wy_iv P ∧ wy_iW P ∧ wy_R wy_al (wq_cls S) P ∧ wy_M wy_al (wq_mdl S) P
def wy_kab (f i : Nat) : Bool := !(wy_inb f i) || decide (wy_ka f i < 284)
theorem wy_ka_all : wy_allb (fun f => wy_allb (fun i => wy_kab f i) 480) 29 = true := by decide +kernel
theorem wy_ka_lt {f i : Nat} (h : wy_in f i) : wy_ka f i < 284 := by
  have hi := Nat.lt_of_lt_of_le h.1 (wy_nb_le f)
  have hf : f < 29 := Nat.lt_of_not_le fun hh => by
    have h1 := h.1
    rw [wy_nb_hi hh] at h1
    omega
  have h1 := wy_allb_t (wy_allb_t wy_ka_all f hf) i hi
  unfold wy_kab at h1
  rw [wy_inb_t h] at h1
  simpa using h1
section
variable {P S A B : wq_St}
theorem wy_cls_m : wq_cls (wq_emb 284 32 A B) = wq_cls A := by
  funext k
  unfold wq_cls wq_emb
  by_cases h : k < 284
  · rw [if_pos h, if_pos h, if_neg (by omega)]
  · rw [if_neg h, if_neg h]
theorem wy_mdl_m : ∀ k, k < 32 → wq_mdl (wq_emb 284 32 A B) k = B k := fun k h => by
  unfold wq_mdl wq_emb
  rw [if_pos h, if_pos (by omega), Nat.add_sub_cancel_left]
theorem wy_mdl_c : wq_mdl (wq_emb 0 284 A B) = wq_mdl A := by
  funext k
  unfold wq_mdl wq_emb
  by_cases h : k < 32
  · rw [if_pos h, if_pos h, if_neg (by omega)]
  · rw [if_neg h, if_neg h]
theorem wy_cls_c : ∀ k, k < 284 → wq_cls (wq_emb 0 284 A B) k = B k := fun k h => by
  unfold wq_cls wq_emb
  rw [if_pos h, if_pos (by omega), Nat.sub_zero]
theorem wy_cls_s {j : Nat} {v : Int} : wq_cls (wq_set A 316 j v) = wq_cls A := by
  funext k
  unfold wq_cls
  by_cases h : k < 284
  · rw [if_pos h, if_pos h]
    funext i
    exact wy_set_ne (by omega)
  · rw [if_neg h, if_neg h]
theorem wy_mdl_s {j : Nat} {v : Int} : wq_mdl (wq_set A 316 j v) = wq_mdl A := by
  funext k
  unfold wq_mdl
  by_cases h : k < 32
  · rw [if_pos h, if_pos h]
    funext i
    exact wy_set_ne (by omega)
  · rw [if_neg h, if_neg h]
theorem wy_LR (h : wy_R wy_al B P) : wy_R wy_al (wq_cls (wq_emb 0 284 A B)) P := fun f i hc hi => by
  rw [wy_cls_c _ (wy_ka_lt hi)]
  exact h f i hc hi
theorem wy_LM (h : wy_M wy_al B P) : wy_M wy_al (wq_mdl (wq_emb 284 32 A B)) P := fun f i h1 h2 h3 h4 => by
  rw [wy_mdl_m _ (by omega)]
  exact h f i h1 h2 h3 h4
/-- what a wrapper makes of the class's outcome -/
def wy_wI (k : Nat → Int) (q : Int → wq_St → wq_St) (x8 : Option (Nat × Int × wq_St)) (S : wq_St) (fL : Option (Int × wq_St)) : Prop :=
  (∀ r S2, x8 = some (0, r, S2) → fL = some (0, q r (wq_emb 0 284 S S2))) ∧ ∀ n z S2, x8 = some (n + 1, z, S2) → k (n + 1) ≠ 0 → fL = some (k (n + 1), wq_emb 0 284 S S2)
def wy_qi (r : Int) (S : wq_St) : wq_St := wq_set S 316 0 (wq_w r)
def wy_qb (r : Int) (S : wq_St) : wq_St := wq_set S 316 0 (if wq_w r = 0 then 0 else 1)
def wy_qv (_ : Int) (S : wq_St) : wq_St := S
def wy_t1 (S : wq_St) (n : Nat) (S2 : wq_St) : Option (Int × wq_St) := if n = 1 then wq_lt (wq_emb 0 284 S S2) fun S5 => some (1, S5) else none
def wy_t2 (S : wq_St) (n : Nat) (S2 : wq_St) : Option (Int × wq_St) := if n = 2 then wq_lt (wq_emb 0 284 S S2) fun S5 => some (1, S5) else none
def wy_t12 (S : wq_St) (n : Nat) (S2 : wq_St) : Option (Int × wq_St) := if n = 1 then wq_lt (wq_emb 0 284 S S2) fun S5 => some (1, S5) else if n = 2 then wq_lt (wq_emb 0 284 S S2) fun S5 => some (2, S5) else none
def wy_t13 (S : wq_St) (n : Nat) (S2 : wq_St) : Option (Int × wq_St) := if n = 1 then wq_lt (wq_emb 0 284 S S2) fun S5 => some (1, S5) else if n = 3 then wq_lt (wq_emb 0 284 S S2) fun S5 => some (2, S5) else none
def wy_t23 (S : wq_St) (n : Nat) (S2 : wq_St) : Option (Int × wq_St) := if n = 2 then wq_lt (wq_emb 0 284 S S2) fun S5 => some (1, S5) else if n = 3 then wq_lt (wq_emb 0 284 S S2) fun S5 => some (2, S5) else none
def wy_t123 (S : wq_St) (n : Nat) (S2 : wq_St) : Option (Int × wq_St) := if n = 1 then wq_lt (wq_emb 0 284 S S2) fun S5 => some (1, S5) else if n = 2 then wq_lt (wq_emb 0 284 S S2) fun S5 => some (2, S5) else if n = 3 then wq_lt (wq_emb 0 284 S S2) fun S5 => some (3, S5) else none
def wy_ri (S : wq_St) (r1 : Int) (S2 : wq_St) : Option (Int × wq_St) := wq_lt (wq_emb 0 284 S S2) fun S3 => wq_ix 0 1 fun t4 => some (0, wq_set S3 316 t4 (wq_w r1))
def wy_rb (S : wq_St) (r1 : Int) (S2 : wq_St) : Option (Int × wq_St) := wq_lt (wq_emb 0 284 S S2) fun S3 => if wq_w r1 = 0 then wq_ix 0 1 fun t4 => some (0, wq_set S3 316 t4 0) else wq_ix 0 1 fun t5 => some (0, wq_set S3 316 t5 1)
def wy_rv (S : wq_St) (_ : Int) (S2 : wq_St) : Option (Int × wq_St) := wq_lt (wq_emb 0 284 S S2) fun S3 => some (0, S3)
theorem wy_x01 {α : Type} {k : Nat → Option α} : wq_ix 0 1 k = k 0 := wq_ix_t 0 rfl (by omega) (by omega)
theorem wy_ri_e (r : Int) (S2 : wq_St) : wy_ri S r S2 = some (0, wy_qi r (wq_emb 0 284 S S2)) := by
  unfold wy_ri
  rw [wy_lt, wy_x01]
  rfl
theorem wy_rb_e (r : Int) (S2 : wq_St) : wy_rb S r S2 = some (0, wy_qb r (wq_emb 0 284 S S2)) := by
  unfold wy_rb wy_qb
  rw [wy_lt]
  by_cases h : wq_w r = 0
  · rw [if_pos h, if_pos h, wy_x01]
  · rw [if_neg h, if_neg h, wy_x01]
theorem wy_rv_e (r : Int) (S2 : wq_St) : wy_rv S r S2 = some (0, wy_qv r (wq_emb 0 284 S S2)) := rfl
theorem wy_t1_e (n : Nat) (S2 : wq_St) (h : wy_k1 n ≠ 0) : wy_t1 S n S2 = some (wy_k1 n, wq_emb 0 284 S S2) := by
  unfold wy_k1 at h ⊢
  unfold wy_t1
  by_cases c1 : n = 1
  · rw [if_pos c1, if_pos c1, wy_lt]
  · rw [if_neg c1] at h
    exact absurd rfl h
theorem wy_t2_e (n : Nat) (S2 : wq_St) (h : wy_k2 n ≠ 0) : wy_t2 S n S2 = some (wy_k2 n, wq_emb 0 284 S S2) := by
  unfold wy_k2 at h ⊢
  unfold wy_t2
  by_cases c1 : n = 2
  · rw [if_pos c1, if_pos c1, wy_lt]
  · rw [if_neg c1] at h
    exact absurd rfl h
theorem wy_t12_e (n : Nat) (S2 : wq_St) (h : wy_k12 n ≠ 0) : wy_t12 S n S2 = some (wy_k12 n, wq_emb 0 284 S S2) := by
  unfold wy_k12 at h ⊢
  unfold wy_t12
  by_cases c1 : n = 1
  · rw [if_pos c1, if_pos c1, wy_lt]
  · rw [if_neg c1] at h
    rw [if_neg c1, if_neg c1]
    by_cases c2 : n = 2
    · rw [if_pos c2, if_pos c2, wy_lt]
    · rw [if_neg c2] at h
      exact absurd rfl h
theorem wy_t13_e (n : Nat) (S2 : wq_St) (h : wy_k13 n ≠ 0) : wy_t13 S n S2 = some (wy_k13 n, wq_emb 0 284 S S2) := by
  unfold wy_k13 at h ⊢
  unfold wy_t13
  by_cases c1 : n = 1
  · rw [if_pos c1, if_pos c1, wy_lt]
  · rw [if_neg c1] at h
    rw [if_neg c1, if_neg c1]
    by_cases c2 : n = 3
    · rw [if_pos c2, if_pos c2, wy_lt]
    · rw [if_neg c2] at h
      exact absurd rfl h
theorem wy_t23_e (n : Nat) (S2 : wq_St) (h : wy_k23 n ≠ 0) : wy_t23 S n S2 = some (wy_k23 n, wq_emb 0 284 S S2) := by
  unfold wy_k23 at h ⊢
  unfold wy_t23
  by_cases c1 : n = 2
  · rw [if_pos c1, if_pos c1, wy_lt]
  · rw [if_neg c1] at h
    rw [if_neg c1, if_neg c1]
    by_cases c2 : n = 3
    · rw [if_pos c2, if_pos c2, wy_lt]
    · rw [if_neg c2] at h
      exact absurd rfl h
theorem wy_t123_e (n : Nat) (S2 : wq_St) (h : wy_k123 n ≠ 0) : wy_t123 S n S2 = some (wy_k123 n, wq_emb 0 284 S S2) := by
  unfold wy_k123 at h ⊢
  unfold wy_t123
  by_cases c1 : n = 1
  · rw [if_pos c1, if_pos c1, wy_lt]
  · rw [if_neg c1] at h
    rw [if_neg c1, if_neg c1]
    by_cases c2 : n = 2
    · rw [if_pos c2, if_pos c2, wy_lt]
    · rw [if_neg c2] at h
      rw [if_neg c2, if_neg c2]
      by_cases c3 : n = 3
      · rw [if_pos c3, if_pos c3, wy_lt]
      · rw [if_neg c3] at h
        exact absurd rfl h
theorem wy_wI_of {k : Nat → Int} {q : Int → wq_St → wq_St} {rr : wq_St → Int → wq_St → Option (Int × wq_St)} {tt : wq_St → Nat → wq_St → Option (Int × wq_St)} (hr : ∀ S r S2, rr S r S2 = some (0, q r (wq_emb 0 284 S S2))) (ht : ∀ S n S2, k n ≠ 0 → tt S n S2 = some (k n, wq_emb 0 284 S S2)) (x8 : Option (Nat × Int × wq_St)) (S : wq_St) : wy_wI k q x8 S (wq_bh x8 (rr S) (tt S)) := by
  refine ⟨fun r S2 h => ?_, fun n z S2 h hk => ?_⟩
  · rw [h]
    exact hr S r S2
  · rw [h]
    exact ht S (n + 1) S2 hk
/-- behind the call: the law asks whether both threw alike -/
def wy_asks (F9 : wq_St → Option (Int × wq_St)) (cmp : Int → wq_St → Option (Int × wq_St)) (rec : wq_St → Option (Int × wq_St)) (r3 : Int) (S4 : wq_St) : Option (Int × wq_St) :=
  wq_bd (F9 (wq_mdl S4)) fun r7 S8 =>
  wq_lt (wq_emb 284 32 S4 S8) fun S9 =>
  wq_bd (f_X9_thrown (wq_mdl S9)) fun r10 S11 =>
  wq_lt (wq_emb 284 32 S9 S11) fun S12 =>
  if wq_w r10 = wq_w r3 then
    if wq_w r3 = 0 then
      cmp r7 S12
    else
      rec S12
  else
    some (0, S12)
theorem wy_lawQ {k : Nat → Int} {q : Int → wq_St → wq_St} {x8 : Option (Nat × Int × wq_St)} {fL : Option (Int × wq_St)} {F9 : wq_St → Option (Int × wq_St)} {cmp : Int → wq_St → Option (Int × wq_St)} {rec : wq_St → Option (Int × wq_St)} {G : Int → wq_St → Option (Int × wq_St)}
    (hk4 : ∀ n, 0 ≤ k n ∧ k n ≤ 3) (hL : wy_LI P S) (hc : wy_cll k P (wq_cls S) (wq_mdl S) x8 (F9 (wq_mdl S))) (hw : wy_wI k q x8 S fL) (hq1 : ∀ r A, wq_cls (q r A) = wq_cls A) (hq2 : ∀ r A, wq_mdl (q r A) = wq_mdl A) (hq3 : ∀ r A B, cmp r (wq_emb 284 32 (wq_emb 284 32 (q r A) B) (wq_mdl (wq_emb 284 32 (q r A) B))) = rec (wq_emb 284 32 (wq_emb 284 32 (q r A) B) (wq_mdl (wq_emb 284 32 (q r A) B))))
    (hG : ∀ r3 S4, G r3 S4 = wy_asks F9 cmp rec r3 S4) : ∃ P' S', wy_LI P' S' ∧ wq_bd fL G = rec S' := by
  obtain ⟨hI, hW, hR, hM⟩ := hL
  rcases hc with ⟨P', r, S2, M2, h8, h9, h42, hI', hR', hM', hW'⟩ | ⟨n, b, h8, h9, hk⟩
  · have e1 := hw.1 r S2 h8
    have e2 : wq_mdl (q r (wq_emb 0 284 S S2)) = wq_mdl S := by rw [hq2, wy_mdl_c]
    rw [wy_bd e1, hG]
    unfold wy_asks f_X9_thrown
    rw [e2, wy_bd h9, wy_lt, wy_bd rfl, wy_lt, wy_mdl_m 0 (by omega), h42, if_pos rfl, if_pos wq_w_0, hq3]
    refine ⟨P', _, ⟨hI', hW' hW, ?_, ?_⟩, rfl⟩
    · rw [wy_cls_m, wy_cls_m, hq1]
      exact wy_LR hR'
    · exact wy_LM (wy_LM hM')
  · have e1 := hw.2 n 0 _ h8 hk
    have hk3 := hk4 (n + 1)
    rw [wy_bd e1, hG]
    unfold wy_asks f_X9_thrown
    rw [wy_mdl_c, wy_bd h9, wy_lt, wy_bd rfl, wy_lt, wy_mdl_m 0 (by omega), wy_42, if_pos rfl, wq_w_id (x := k (n + 1)) (by omega) (by omega), if_neg hk]
    have fin : wy_LI P (wq_emb 284 32 (wq_emb 284 32 (wq_emb 0 284 S (wq_cls S)) (wq_set (wq_mdl S) 0 42 (k (n + 1)))) (wq_mdl (wq_emb 284 32 (wq_emb 0 284 S (wq_cls S)) (wq_set (wq_mdl S) 0 42 (k (n + 1)))))) := by
      refine ⟨hI, hW, ?_, ?_⟩
      · rw [wy_cls_m, wy_cls_m]
        exact wy_LR hR
      · exact wy_LM (wy_LM (wy_M_42 hM))
    exact ⟨P, _, fin, rfl⟩
theorem wy_k1_b (n : Nat) : 0 ≤ wy_k1 n ∧ wy_k1 n ≤ 3 := by
  unfold wy_k1
  split <;> omega
theorem wy_k2_b (n : Nat) : 0 ≤ wy_k2 n ∧ wy_k2 n ≤ 3 := by
  unfold wy_k2
  split <;> omega
theorem wy_k12_b (n : Nat) : 0 ≤ wy_k12 n ∧ wy_k12 n ≤ 3 := by
  unfold wy_k12
  repeat' split
  all_goals omega
theorem wy_k13_b (n : Nat) : 0 ≤ wy_k13 n ∧ wy_k13 n ≤ 3 := by
  unfold wy_k13
  repeat' split
  all_goals omega
theorem wy_k23_b (n : Nat) : 0 ≤ wy_k23 n ∧ wy_k23 n ≤ 3 := by
  unfold wy_k23
  repeat' split
  all_goals omega
theorem wy_k123_b (n : Nat) : 0 ≤ wy_k123 n ∧ wy_k123 n ≤ 3 := by
  unfold wy_k123
  repeat' split
  all_goals omega
/-! answers that are numbers, answers that are true or false, calls without an answer -/
def wy_cio (rec : wq_St → Option (Int × wq_St)) (r7 : Int) (S12 : wq_St) : Option (Int × wq_St) := wq_ix 0 1 fun t13 => if wq_w (wq_cmp (S12 316 t13) (wq_w r7)) = 0 then rec S12 else some (0, S12)
def wy_cbo (rec : wq_St → Option (Int × wq_St)) (r7 : Int) (S12 : wq_St) : Option (Int × wq_St) := wq_ix 0 1 fun t61 => if wq_w r7 = 0 then (if wq_w (wq_cmp (S12 316 t61) 0) = 0 then rec S12 else some (0, S12)) else (if wq_w (wq_cmp (S12 316 t61) 1) = 0 then rec S12 else some (0, S12))
theorem wy_cmp_r (a : Int) : wq_w (wq_cmp a a) = 0 := by
  unfold wq_cmp
  rw [if_neg (by omega), if_pos rfl]
  rfl
theorem wy_emb_316 {j : Nat} : wq_emb 284 32 A B 316 j = A 316 j := by
  unfold wq_emb
  rw [if_neg (by omega)]
variable {k : Nat → Int} {x8 : Option (Nat × Int × wq_St)} {fL : Option (Int × wq_St)} {F9 : wq_St → Option (Int × wq_St)} {rec : wq_St → Option (Int × wq_St)} {G : Int → wq_St → Option (Int × wq_St)}
theorem wy_lawI (hL : wy_LI P S) (hk4 : ∀ n, 0 ≤ k n ∧ k n ≤ 3) (hc : wy_cll k P (wq_cls S) (wq_mdl S) x8 (F9 (wq_mdl S))) (hw : wy_wI k wy_qi x8 S fL) (hG : ∀ r3 S4, G r3 S4 = wy_asks F9 (wy_cio rec) rec r3 S4) : ∃ P' S', wy_LI P' S' ∧ wq_bd fL G = rec S' := by
  refine wy_lawQ hk4 hL hc hw (fun r A => wy_cls_s) (fun r A => wy_mdl_s) (fun r A B => ?_) hG
  unfold wy_cio
  have e : wy_qi r A 316 0 = wq_w r := wy_set_at rfl rfl
  rw [wy_x01, wy_emb_316, wy_emb_316, e, if_pos (wy_cmp_r _)]
theorem wy_lawB (hL : wy_LI P S) (hk4 : ∀ n, 0 ≤ k n ∧ k n ≤ 3) (hc : wy_cll k P (wq_cls S) (wq_mdl S) x8 (F9 (wq_mdl S))) (hw : wy_wI k wy_qb x8 S fL) (hG : ∀ r3 S4, G r3 S4 = wy_asks F9 (wy_cbo rec) rec r3 S4) : ∃ P' S', wy_LI P' S' ∧ wq_bd fL G = rec S' := by
  refine wy_lawQ hk4 hL hc hw (fun r A => wy_cls_s) (fun r A => wy_mdl_s) (fun r A B => ?_) hG
  unfold wy_cbo
  have e : wy_qb r A 316 0 = if wq_w r = 0 then 0 else 1 := wy_set_at rfl rfl
  rw [wy_x01, wy_emb_316, wy_emb_316, e]
  by_cases c : wq_w r = 0
  · rw [if_pos c, if_pos c, if_pos (wy_cmp_r _)]
  · rw [if_neg c, if_neg c, if_pos (wy_cmp_r _)]
theorem wy_lawV (hL : wy_LI P S) (hk4 : ∀ n, 0 ≤ k n ∧ k n ≤ 3) (hc : wy_cll k P (wq_cls S) (wq_mdl S) x8 (F9 (wq_mdl S))) (hw : wy_wI k wy_qv x8 S fL) (hG : ∀ r3 S4, G r3 S4 = wy_asks F9 (fun _ => rec) rec r3 S4) : ∃ P' S', wy_LI P' S' ∧ wq_bd fL G = rec S' :=
  wy_lawQ hk4 hL hc hw (fun r A => rfl) (fun r A => rfl) (fun r A B => rfl) hG
theorem wy_LI_6 (hL : wy_LI P S) : wy_iv P ∧ wy_R wy_al (wq_cls S) P ∧ wy_M wy_al (wq_mdl S) P := ⟨hL.1, hL.2.2.1, hL.2.2.2⟩
/-- numbers that are only asked for -/
theorem wy_law0 {f8 f9 : wq_St → Option (Int × wq_St)} {c j : Nat} (hj : j = 29 ∨ j = 30 ∨ j = 31 ∨ j = 32) (hL : wy_LI P S) (h8 : ∀ A, f8 A = some (A 282 c, A)) (hR : wq_cls S 282 c = P 0 j) (h9 : ∀ A, f9 A = some (A 0 j, wq_set A 0 42 0)) : ∃ P' S', wy_LI P' S' ∧ (wq_bd (f8 (wq_cls S)) fun r466 S467 => wq_lt (wq_emb 0 284 S S467) fun S468 => wq_bd (f9 (wq_mdl S468)) fun r469 S470 => wq_lt (wq_emb 284 32 S468 S470) fun S471 => if wq_w r466 = wq_w r469 then rec S471 else some (0, S471)) = rec S' := by
  obtain ⟨hI, hW, hR', hM⟩ := hL
  rw [wy_bd (h8 _), wy_lt, wy_mdl_c, wy_bd (h9 _), wy_lt, hR, wy_ma0 hM (i := j) (by omega), if_pos rfl]
  refine ⟨P, _, ⟨hI, hW, ?_, ?_⟩, rfl⟩
  · rw [wy_cls_m]
    exact wy_LR hR'
  · exact wy_LM (wy_M_42 hM)
end
