/-! THE LAW: its look at both stores -/
def wy_kab (f i : Nat) : Bool := !(wy_inb f i) || decide (wy_ka f i < 284)
theorem wy_ka_all : wy_allb (fun f => wy_allb (fun i => wy_kab f i) 480) 29 = true := by decide +kernel
theorem wy_ka_lt {f i : Nat} (h : wy_in f i) : wy_ka f i < 284 := by
  have hi := Nat.lt_of_lt_of_le h.1 (wy_nb_le f)
  have hf : f < 29 := Nat.lt_of_not_le fun hh => by
    have h1 := h.1
    rw [wy_nb_hi hh] at h1
    omega
  have h1 := wy_allb_t (wy_allb_t wy_ka_all f hf) i hi
  unfold wy_kab at h1
  rw [wy_inb_t h] at h1
  simpa using h1
theorem wz_div {a b : Int} (h0 : 0 ≤ a) (h1 : a < 2147483648) (h2 : 0 < b) (h3 : b < 2147483648) : wq_div a b = a / b := by
  unfold wq_div
  rw [wq_w_id (by omega) h1, wq_w_id (by omega) h3]
  exact Int.tdiv_eq_ediv_of_nonneg h0
theorem wz_rem {a b : Int} (h0 : 0 ≤ a) (h1 : a < 2147483648) (h2 : 0 < b) (h3 : b < 2147483648) : wq_rem a b = a % b := by
  unfold wq_rem
  rw [wz_div h0 h1 h2 h3, Int.emod_def, Int.mul_comm]
def wz_Z (P Q : wq_St) (L8 L9 : Nat → Int) (S : wq_St) : Prop := wy_R wy_al (wq_cls S) P ∧ wy_R wy_al (wq_clt S) Q ∧ S 568 = L8 ∧ S 569 = L9
def wz_Y (v : Int) (P Q : wq_St) (L8 L9 : Nat → Int) (y : Option (Int × wq_St)) : Prop := ∃ S', y = some (v, S') ∧ wz_Z P Q L8 L9 S'
section
variable {P Q S : wq_St} {L8 L9 : Nat → Int} {d z : Int} {t c : Nat}
theorem wz_Za {A P' : wq_St} (hZ : wz_Z P Q L8 L9 S) (hA : wy_R wy_al A P') : wz_Z P' Q L8 L9 (wq_emb 0 284 S A) := by
  obtain ⟨h1, h2, h3, h4⟩ := hZ
  refine ⟨fun f i hc hi => ?_, fun f i hc hi => ?_, ?_, ?_⟩
  · have hk := wy_ka_lt hi
    unfold wq_cls wq_emb
    rw [if_pos hk, if_pos (by omega), Nat.sub_zero]
    exact hA f i hc hi
  · have hk := wy_ka_lt hi
    have h := h2 f i hc hi
    unfold wq_clt at h ⊢
    unfold wq_emb
    rw [if_pos hk] at h ⊢
    rw [if_neg (by omega)]
    exact h
  · unfold wq_emb
    rw [if_neg (by omega)]
    exact h3
  · unfold wq_emb
    rw [if_neg (by omega)]
    exact h4
theorem wz_Zb {B Q' : wq_St} (hZ : wz_Z P Q L8 L9 S) (hB : wy_R wy_al B Q') : wz_Z P Q' L8 L9 (wq_emb 284 284 S B) := by
  obtain ⟨h1, h2, h3, h4⟩ := hZ
  refine ⟨fun f i hc hi => ?_, fun f i hc hi => ?_, ?_, ?_⟩
  · have hk := wy_ka_lt hi
    have h := h1 f i hc hi
    unfold wq_cls at h ⊢
    unfold wq_emb
    rw [if_pos hk] at h ⊢
    rw [if_neg (by omega)]
    exact h
  · have hk := wy_ka_lt hi
    unfold wq_clt wq_emb
    rw [if_pos hk, if_pos (by omega), Nat.add_sub_cancel_left]
    exact hB f i hc hi
  · unfold wq_emb
    rw [if_neg (by omega)]
    exact h3
  · unfold wq_emb
    rw [if_neg (by omega)]
    exact h4
theorem wz_ga {P' : wq_St} {T : Option (Int × wq_St) → Prop} (hZ : wz_Z P Q L8 L9 S) {x : Option (Int × wq_St)} {v : Int} (h : ∃ A, x = some (v, A) ∧ wy_R wy_al A P') {k : Int → wq_St → Option (Int × wq_St)} (kk : ∀ S2, wz_Z P' Q L8 L9 S2 → T (k v S2)) : T (wq_bd x fun r S1 => wq_lt (wq_emb 0 284 S S1) fun S2 => k r S2) := by
  obtain ⟨A, e, hA⟩ := h
  rw [wy_bd e, wy_lt]
  exact kk _ (wz_Za hZ hA)
theorem wz_gb {Q' : wq_St} {T : Option (Int × wq_St) → Prop} (hZ : wz_Z P Q L8 L9 S) {x : Option (Int × wq_St)} {v : Int} (h : ∃ A, x = some (v, A) ∧ wy_R wy_al A Q') {k : Int → wq_St → Option (Int × wq_St)} (kk : ∀ S2, wz_Z P Q' L8 L9 S2 → T (k v S2)) : T (wq_bd x fun r S1 => wq_lt (wq_emb 284 284 S S1) fun S2 => k r S2) := by
  obtain ⟨A, e, hA⟩ := h
  rw [wy_bd e, wy_lt]
  exact kk _ (wz_Zb hZ hA)
theorem wz_eqw {a b : Int} (h : a = b) : wq_w a = wq_w b := by rw [h]
theorem wz_rgn {n : Nat} (h : n < 1000) : wy_rg (n : Int) := by omega
/-- the end: the plans -/
theorem wz_s445 (hJ : wz_J d P Q) (hZ : wz_Z P Q L8 L9 S) {z4 rp : Int} (hrp : 0 ≤ rp ∧ rp < 8) (hm : 0 ≤ wq_rem z4 3 ∧ wq_rem z4 3 < 3) : wz_Y 1 P Q L8 L9 (j_L_same_445 z4 rp 1 S) := by
  have hI := hJ.1.1
  have hI' := hJ.1.2
  unfold j_L_same_445
  rw [if_neg (by decide), wq_gd_t (by decide)]
  refine wz_ga hZ (wz_x_at hI hZ.1 (by omega) (by omega) 3 (by omega)) (fun S2 hZ2 => ?_)
  rw [wq_gd_t (by decide)]
  refine wz_gb hZ2 (wz_x_at hI' hZ2.2.1 (by omega) (by omega) 3 (by omega)) (fun S3 hZ3 => ?_)
  rw [if_pos (wz_eqw (wz_v_at3 hJ).symm), wq_gd_t (by decide)]
  refine wz_ga hZ3 (wz_x_at hI hZ3.1 (by omega) (by omega) 4 (by omega)) (fun S4 hZ4 => ?_)
  rw [wq_gd_t (by decide)]
  refine wz_gb hZ4 (wz_x_at hI' hZ4.2.1 (by omega) (by omega) 4 (by omega)) (fun S5 hZ5 => ?_)
  rw [if_pos (wz_eqw (wz_v_at4 hJ).symm)]
  exact ⟨S5, rfl, hZ5⟩
/-- sums -/
theorem wz_s383 (hJ : wz_J d P Q) (hZ : wz_Z P Q L8 L9 S) (h9 : L9 0 = P 0 28) {z4 rp e : Int} (hrp : 0 ≤ rp ∧ rp < 8) (hm : 0 ≤ wq_rem z4 3 ∧ wq_rem z4 3 < 3) (he : P 0 28 ≠ 0 → wz_ofv Q 7 rp = wz_ofv P 7 rp + e ∧ wz_ofv Q 9 rp = wz_ofv P 9 rp + e) : wz_Y 1 P Q L8 L9 (j_L_same_383 z4 1 rp e S) := by
  have hI := hJ.1.1
  have hI' := hJ.1.2
  have o := wy_o28 hI
  unfold j_L_same_383
  rw [if_neg (by decide), wy_ix (by omega) (by omega) (by omega), hZ.2.2.2, show ((0 : Int)).toNat = 0 from rfl, h9, wq_w_id (x := P 0 28) (by omega) (by omega)]
  by_cases c0 : P 0 28 = 0
  · rw [if_pos c0]
    exact wz_s445 hJ hZ hrp hm
  · obtain ⟨e7, e9⟩ := he c0
    rw [if_neg c0]
    refine wz_gb hZ (wz_x_of hI' hZ.2.1 (by omega) 7 (by omega)) (fun S2 hZ2 => ?_)
    refine wz_ga hZ2 (wz_x_of hI hZ2.1 (by omega) 7 (by omega)) (fun S3 hZ3 => ?_)
    rw [if_pos (wz_eqw e7)]
    refine wz_gb hZ3 (wz_x_of hI' hZ3.2.1 (by omega) 9 (by omega)) (fun S4 hZ4 => ?_)
    refine wz_ga hZ4 (wz_x_of hI hZ4.1 (by omega) 9 (by omega)) (fun S5 hZ5 => ?_)
    rw [if_pos (wz_eqw e9)]
    exact wz_s445 hJ hZ5 hrp hm
theorem wz_s356 (hJ : wz_J d P Q) (hZ : wz_Z P Q L8 L9 S) (h9 : L9 0 = P 0 28) (hb : ∀ r : Nat, r < 8 → (wq_w (wq_and (wq_shr (L9 1) (r : Int)) 1) = wq_w 1 ↔ P 22 r ≠ -1)) {z4 : Int} {r : Nat} (hr8 : r < 8) (hr : P 0 28 ≠ 0 → (r : Int) < P 0 28) (hm : 0 ≤ wq_rem z4 3 ∧ wq_rem z4 3 < 3) : wz_Y 1 P Q L8 L9 (j_L_same_356 z4 d 1 (r : Int) S) := by
  have hI := hJ.1.1
  unfold j_L_same_356
  rw [wy_ix (by omega) (by omega) (by omega), hZ.2.2.2, show ((1 : Int)).toNat = 1 from rfl]
  by_cases c : wq_w (wq_and (wq_shr (L9 1) (r : Int)) 1) = wq_w 1
  · rw [if_pos c]
    have h22 := (hb r hr8).mp c
    refine wz_ga hZ (wz_x_of hI hZ.1 (by omega) 6 (by omega)) (fun S2 hZ2 => ?_)
    refine wz_s383 hJ hZ2 h9 (by omega) hm (fun c0 => ?_)
    have h := wz_v_sum hJ (hr c0)
    rw [if_neg h22] at h
    exact h
  · rw [if_neg c]
    have h22 : P 22 r = -1 := Decidable.byContradiction fun h => c ((hb r hr8).mpr h)
    refine wz_s383 hJ hZ h9 (by omega) hm (fun c0 => ?_)
    have h := wz_v_sum hJ (hr c0)
    rw [if_pos h22, Int.zero_mul] at h
    exact h
/-- the loop over what is asked of a table and a report -/
theorem wz_s257 (hJ : wz_J d P Q) {T : Option (Int × wq_St) → Prop} {c4 c5 tx rp : Int} (ht : wy_rg tx) (hrp : wy_rg rp) (kx : Int → wq_St → Option (Int × wq_St)) (hk : ∀ S, wz_Z P Q L8 L9 S → T (kx 1 S)) : ∀ (n i : Nat) (S : wq_St), 13 < n + i → i ≤ 13 → wz_Z P Q L8 L9 S → T (l_L_same_257 c4 c5 tx rp kx n 1 (i : Int) S)
  | 0, i, S, h1, h2, _ => by omega
  | n + 1, i, S, h1, h2, hZ => by
    have hI := hJ.1.1
    have hI' := hJ.1.2
    have w13 : wq_w 13 = 13 := rfl
    have w3 : wq_w 3 = 3 := rfl
    have w7 : wq_w 7 = 7 := rfl
    have w9 : wq_w 9 = 9 := rfl
    have w11 : wq_w 11 = 11 := rfl
    have wi : wq_w (i : Int) = (i : Int) := wq_w_id (by omega) (by omega)
    rw [l_L_same_257_s]
    unfold b_L_same_257
    rw [w13, w7, w9, w11, wi]
    by_cases c13 : i = 13
    · rw [if_pos (by omega)]
      exact hk S hZ
    · have go : ∀ S', wz_Z P Q L8 L9 S' → T (j_L_same_343 kx (l_L_same_257 c4 c5 tx rp kx n) c4 c5 tx rp (i : Int) S') := fun S' hZ' => by
        unfold j_L_same_343 j_L_same_348
        rw [show (i : Int) + 1 = ((i + 1 : Nat) : Int) by omega]
        exact wz_s257 hJ ht hrp kx hk n (i + 1) S' (by omega) (by omega) hZ'
      have sums : T (j_L_same_290 kx (l_L_same_257 c4 c5 tx rp kx n) c4 c5 tx rp (i : Int) S) := by
        unfold j_L_same_290 j_L_same_295
        rw [if_neg (by decide)]
        exact go S hZ
      rw [if_neg (by omega), if_neg (by decide)]
      by_cases c7 : (i : Int) = 7
      · rw [if_pos c7]
        exact sums
      · rw [if_neg c7]
        by_cases c9 : (i : Int) = 9
        · rw [if_pos c9]
          exact sums
        · rw [if_neg c9]
          by_cases c11 : (i : Int) = 11
          · rw [if_pos c11]
            exact sums
          · rw [if_neg c11]
            have one : ∀ x : Int, wy_rg x → (if wq_w 3 ≤ wq_w (i : Int) then rp else tx) = x → T (j_L_same_318 kx (l_L_same_257 c4 c5 tx rp kx n) c4 c5 tx rp (i : Int) x (i : Int) S) := fun x hx ex => by
              unfold j_L_same_318
              refine wz_ga hZ (wz_x_of hI hZ.1 hx i (by omega)) (fun S2 hZ2 => ?_)
              have two : T (j_L_same_337 kx (l_L_same_257 c4 c5 tx rp kx n) c4 c5 tx rp (i : Int) x (i : Int) (wz_ofv P i x) S2) := by
                unfold j_L_same_337
                refine wz_gb hZ2 (wz_x_of hI' hZ2.2.1 hx i (by omega)) (fun S3 hZ3 => ?_)
                rw [if_pos (wz_eqw (wz_v_of hJ i (by omega) (by omega) (by omega) (by omega)).symm)]
                exact go S3 hZ3
              by_cases c3 : wq_w 3 ≤ wq_w (i : Int)
              · rw [if_pos c3] at ex ⊢
                subst ex
                exact two
              · rw [if_neg c3] at ex ⊢
                subst ex
                exact two
            unfold j_L_same_295
            rw [if_pos (by decide)]
            by_cases c3 : wq_w 3 ≤ wq_w (i : Int)
            · rw [if_pos c3]
              exact one rp hrp (if_pos c3)
            · rw [if_neg c3]
              exact one tx ht (if_neg c3)
theorem wz_s232 (hJ : wz_J d P Q) (hZ : wz_Z P Q L8 L9 S) (h9 : L9 0 = P 0 28) (hb : ∀ r : Nat, r < 8 → (wq_w (wq_and (wq_shr (L9 1) (r : Int)) 1) = wq_w 1 ↔ P 22 r ≠ -1)) {z4 tx : Int} (hz : 0 ≤ z4 ∧ z4 < 2147483648) (ht : wy_rg tx) : wz_Y 1 P Q L8 L9 (j_L_same_232 z4 d tx 1 S) := by
  have hI := hJ.1.1
  have o := wy_o28 hI
  have hm : 0 ≤ wq_rem z4 3 ∧ wq_rem z4 3 < 3 := by
    rw [wz_rem hz.1 hz.2 (by omega) (by omega)]
    omega
  unfold j_L_same_232
  rw [wy_ix (by omega) (by omega) (by omega), hZ.2.2.2, show ((0 : Int)).toNat = 0 from rfl, h9, wq_w_id (x := P 0 28) (by omega) (by omega)]
  by_cases c0 : P 0 28 = 0
  · rw [if_pos c0]
    unfold j_L_same_252
    exact wz_s257 hJ ht (by omega) _ (fun S2 hZ2 => wz_s356 hJ hZ2 h9 hb (r := 0) (by omega) (fun h => absurd c0 h) hm) 14 0 S (by omega) (by omega) hZ
  · rw [if_neg c0, wq_gd_t (by decide), wy_ix (by omega) (by omega) (by omega), show ((0 : Int)).toNat = 0 from rfl, h9, wq_gd_t (by rw [wq_w_id (by omega) (by omega)]; exact c0), wz_div hz.1 hz.2 (by omega) (by omega), wz_rem (by omega) (by omega) (by omega) (by omega)]
    have m1 := Int.emod_nonneg (z4 / 5) c0
    have m2 := Int.emod_lt_of_pos (z4 / 5) (show 0 < P 0 28 by omega)
    obtain ⟨r, hr⟩ : ∃ r : Nat, z4 / 5 % P 0 28 = (r : Int) := ⟨(z4 / 5 % P 0 28).toNat, by omega⟩
    rw [hr] at m2 ⊢
    unfold j_L_same_252
    exact wz_s257 hJ ht (by omega) _ (fun S2 hZ2 => wz_s356 hJ hZ2 h9 hb (r := r) (by omega) (fun _ => m2) hm) 14 0 S (by omega) (by omega) hZ
/-- counts told -/
theorem wz_s158 (hJ : wz_J d P Q) (hZ : wz_Z P Q L8 L9 S) (h9 : L9 0 = P 0 28) (hb : ∀ r : Nat, r < 8 → (wq_w (wq_and (wq_shr (L9 1) (r : Int)) 1) = wq_w 1 ↔ P 22 r ≠ -1)) {z4 tx cx fl a b : Int} (hz : 0 ≤ z4 ∧ z4 < 2147483648) (hC : wy_isC P tx cx) (hfl : (wz_ofv P 1 tx = 0 ∧ fl = 1) ∨ (wz_ofv P 1 tx ≠ 0 ∧ fl = 0)) (hab : b = a) : wz_Y 1 P Q L8 L9 (j_L_same_158 z4 d tx cx fl a b S) := by
  have hI := hJ.1.1
  have hI' := hJ.1.2
  have o := wy_o5 hI
  have b1 := wy_b1 hI tx.toNat
  have ht : wy_rg tx := by
    have h5 : wy_isC P tx cx := hC
    omega
  have hc : wy_rg cx := by
    have h5 : wy_isC P tx cx := hC
    omega
  obtain ⟨v1, v2⟩ := wz_v_told hJ hC
  unfold j_L_same_158
  rw [if_pos (wz_eqw hab)]
  refine wz_gb hZ (wz_x_at hI' hZ.2.1 ht hc 1 (by omega)) (fun S2 hZ2 => ?_)
  rcases hfl with ⟨f1, f2⟩ | ⟨f1, f2⟩
  · rw [if_pos f1] at v1 v2
    rw [f2, if_neg (by decide)]
    unfold j_L_same_191
    rw [if_pos (wz_eqw v1)]
    refine wz_gb hZ2 (wz_x_at hI' hZ2.2.1 ht hc 2 (by omega)) (fun S3 hZ3 => ?_)
    rw [if_neg (by decide)]
    unfold j_L_same_224
    rw [if_pos (wz_eqw v2)]
    exact wz_s232 hJ hZ3 h9 hb hz ht
  · rw [if_neg f1] at v1 v2
    rw [f2, if_pos (by decide)]
    refine wz_ga hZ2 (wz_x_at hI hZ2.1 ht hc 1 (by omega)) (fun S3 hZ3 => ?_)
    unfold j_L_same_191
    rw [if_pos (wz_eqw v1)]
    refine wz_gb hZ3 (wz_x_at hI' hZ3.2.1 ht hc 2 (by omega)) (fun S4 hZ4 => ?_)
    rw [if_pos (by decide)]
    refine wz_ga hZ4 (wz_x_at hI hZ4.1 ht hc 2 (by omega)) (fun S5 hZ5 => ?_)
    unfold j_L_same_224
    rw [if_pos (wz_eqw v2)]
    exact wz_s232 hJ hZ5 h9 hb hz ht
theorem wz_s97 (hJ : wz_J d P Q) (hZ : wz_Z P Q L8 L9 S) (h9 : L9 0 = P 0 28) (hb : ∀ r : Nat, r < 8 → (wq_w (wq_and (wq_shr (L9 1) (r : Int)) 1) = wq_w 1 ↔ P 22 r ≠ -1)) {z4 tx cx ro : Int} (hz : 0 ≤ z4 ∧ z4 < 2147483648) (hC : wy_isC P tx cx) (hro : 0 ≤ ro ∧ ro < 40) : wz_Y 1 P Q L8 L9 (j_L_same_97 z4 d tx cx ro 1 S) := by
  have hI := hJ.1.1
  have hI' := hJ.1.2
  have o := wy_o5 hI
  have b1 := wy_b1 hI tx.toNat
  have ht : wy_rg tx := by
    have h5 : wy_isC P tx cx := hC
    omega
  have hc : wy_rg cx := by
    have h5 : wy_isC P tx cx := hC
    omega
  have hT : wy_isT P tx := hC.1
  unfold j_L_same_97
  refine wz_ga hZ (wz_x_value hI hZ.1 ht (y := ro) (by omega) hc) (fun S2 hZ2 => ?_)
  refine wz_ga hZ2 (wz_x_of hI hZ2.1 ht 1 (by omega)) (fun S3 hZ3 => ?_)
  have hv : -2147483648 ≤ wz_vav P tx ro cx ∧ wz_vav P tx ro cx < 2147483648 := by
    have b4 := wy_b4 hI (3 * (40 * tx.toNat + ro.toNat) + cx.toNat)
    unfold wz_vav
    split <;> omega
  have e := wz_v_value (x := tx) (y := ro) (z := cx) hJ
  have b6 := wy_b6 hI tx.toNat
  have e6 : wz_ofv P 1 tx = P 6 tx.toNat := if_pos hT
  have next : ∀ fl : Int, (wz_ofv P 1 tx = 0 ∧ fl = 1) ∨ (wz_ofv P 1 tx ≠ 0 ∧ fl = 0) → wz_Y 1 P Q L8 L9 (j_L_same_126 z4 d tx cx ro 1 (wz_vav P tx ro cx) fl S3) := fun fl hfl => by
    unfold j_L_same_126
    rw [if_neg (by decide)]
    refine wz_gb hZ3 (wz_x_value hI' hZ3.2.1 ht (y := ro) (by omega) hc) (fun S4 hZ4 => ?_)
    rw [wq_w_id (x := wz_vav P tx ro cx) hv.1 hv.2]
    by_cases c0 : wz_vav P tx ro cx < 0
    · rw [if_pos c0] at e
      rw [if_neg (by omega)]
      exact wz_s158 hJ hZ4 h9 hb hz hC hfl e
    · rw [if_neg c0] at e
      rw [if_pos (by omega)]
      exact wz_s158 hJ hZ4 h9 hb hz hC hfl e
  have ew : wq_w (wz_ofv P 1 tx) = wz_ofv P 1 tx := by
    rw [e6]
    exact wq_w_id (by omega) (by omega)
  rw [ew]
  by_cases c : wz_ofv P 1 tx = 0
  · rw [if_pos c]
    exact next 1 (Or.inl ⟨c, rfl⟩)
  · rw [if_neg c]
    exact next 0 (Or.inr ⟨c, rfl⟩)
/-- the look is good -/
theorem wz_same (hJ : wz_J d P Q) (hZ : wz_Z P Q L8 L9 S) (h3 : 3 ≤ P 0 5) (h8 : ∀ t : Nat, t < 3 → L8 t = P 1 t) (h9 : L9 0 = P 0 28) (hb : ∀ r : Nat, r < 8 → (wq_w (wq_and (wq_shr (L9 1) (r : Int)) 1) = wq_w 1 ↔ P 22 r ≠ -1)) (hz : 0 ≤ z ∧ z < 2147483648) : wz_Y 1 P Q L8 L9 (f_L_same z d S) := by
  have hI := hJ.1.1
  have hI' := hJ.1.2
  have hE := hJ.2.2.2.1
  have o := wy_o5 hI
  have hm : wq_rem z 3 = z % 3 := wz_rem hz.1 hz.2 (by omega) (by omega)
  obtain ⟨t, ht⟩ : ∃ t : Nat, z % 3 = (t : Int) := ⟨(z % 3).toNat, by omega⟩
  have t3 : t < 3 := by omega
  have b1 := wy_b1 hI t
  have w1 := hJ.2.1 t (by omega)
  unfold f_L_same j_L_same_0
  rw [hm, ht, wq_gd_t (by decide), wq_gd_t (by decide), wy_ix (by omega) (by omega) (by omega), Int.toNat_natCast, hZ.2.2.1, h8 t t3, wq_gd_t (by rw [wq_w_id (by omega) (by omega)]; omega), wy_lt, wz_div (b := 3) hz.1 hz.2 (by omega) (by omega), wz_rem (b := P 1 t) (by omega) (by omega) (by omega) (by omega), wq_gd_t (by decide), wq_gd_t (by decide), wz_div (b := 9) hz.1 hz.2 (by omega) (by omega), wz_rem (b := 40) (by omega) (by omega) (by omega) (by omega)]
  have m1 := Int.emod_nonneg (z / 3) (show P 1 t ≠ 0 by omega)
  have m2 := Int.emod_lt_of_pos (z / 3) (show 0 < P 1 t by omega)
  have hC : wy_isC P (t : Int) (z / 3 % P 1 t) := ⟨⟨by omega, by omega⟩, m1, by rw [Int.toNat_natCast]; exact m2⟩
  generalize z / 3 % P 1 t = cx at m1 m2 hC ⊢
  have hro : 0 ≤ z / 9 % 40 ∧ z / 9 % 40 < 40 := by omega
  generalize z / 9 % 40 = ro at hro ⊢
  refine wz_ga hZ (wz_x_nights hZ.1) (fun S2 hZ2 => ?_)
  refine wz_gb hZ2 (wz_x_nights hZ2.2.1) (fun S3 hZ3 => ?_)
  rw [if_pos (wz_eqw (wz_e hE 0 29 (by decide)).symm)]
  refine wz_ga hZ3 (wz_x_paid hZ3.1) (fun S4 hZ4 => ?_)
  refine wz_gb hZ4 (wz_x_paid hZ4.2.1) (fun S5 hZ5 => ?_)
  rw [if_pos (wz_eqw (wz_e hE 0 30 (by decide)).symm)]
  refine wz_ga hZ5 (wz_x_left hZ5.1) (fun S6 hZ6 => ?_)
  refine wz_gb hZ6 (wz_x_left hZ6.2.1) (fun S7 hZ7 => ?_)
  rw [if_pos (wz_eqw (wz_e hE 0 31 (by decide)).symm)]
  refine wz_ga hZ7 (wz_x_owed hZ7.1) (fun S8 hZ8 => ?_)
  refine wz_gb hZ8 (wz_x_owed hZ8.2.1) (fun S9 hZ9 => ?_)
  rw [if_pos (wz_eqw (wz_e hE 0 32 (by decide)).symm)]
  refine wz_ga hZ9 (wz_x_at hI hZ9.1 (by omega) (by omega) 0 (by omega)) (fun S10 hZ10 => ?_)
  refine wz_gb hZ10 (wz_x_at hI' hZ10.2.1 (by omega) (by omega) 0 (by omega)) (fun S11 hZ11 => ?_)
  rw [if_pos (wz_eqw (wz_v_at0 hJ).symm)]
  exact wz_s97 hJ hZ11 h9 hb hz hC hro
end
