/-! THE LAW: one round -/
def wz_W (d : Int) (P Q : wq_St) (L8 L9 : Nat → Int) : Prop := wz_J d P Q ∧ P 0 5 = 3 ∧ (∀ t : Nat, t < 3 → L8 t = P 1 t) ∧ L9 0 = P 0 28 ∧ (0 ≤ L9 1 ∧ L9 1 < 256) ∧ ∀ r : Nat, r < 8 → (wq_w (wq_and (wq_shr (L9 1) (r : Int)) 1) = wq_w 1 ↔ P 22 r ≠ -1)
def wz_bit (c r : Int) : Bool := decide (wq_w (wq_and (wq_shr c r) 1) = wq_w 1)
def wz_btb (c r : Nat) : Bool := decide (0 ≤ wq_or (c : Int) (wq_shl 1 (r : Int)) ∧ wq_or (c : Int) (wq_shl 1 (r : Int)) < 256) && wy_allb (fun r' => wz_bit (wq_or (c : Int) (wq_shl 1 (r : Int))) (r' : Int) == (if r' = r then true else wz_bit (c : Int) (r' : Int))) 8
theorem wz_btb_all : wy_allb (fun c => wy_allb (fun r => wz_btb c r) 8) 256 = true := by decide +kernel
theorem wz_or0_all : wy_allb (fun c => decide (wq_or (c : Int) 0 = (c : Int))) 256 = true := by decide +kernel
theorem wz_bits {c r : Nat} (hc : c < 256) (hr : r < 8) : (0 ≤ wq_or (c : Int) (wq_shl 1 (r : Int)) ∧ wq_or (c : Int) (wq_shl 1 (r : Int)) < 256) ∧ ∀ r' : Nat, r' < 8 → (wq_w (wq_and (wq_shr (wq_or (c : Int) (wq_shl 1 (r : Int))) (r' : Int)) 1) = wq_w 1 ↔ (r' = r ∨ wq_w (wq_and (wq_shr (c : Int) (r' : Int)) 1) = wq_w 1)) := by
  have h := wy_allb_t (wy_allb_t wz_btb_all c hc) r hr
  unfold wz_btb at h
  rw [Bool.and_eq_true] at h
  refine ⟨of_decide_eq_true h.1, fun r' hr' => ?_⟩
  have h2 := eq_of_beq (wy_allb_t h.2 r' hr')
  unfold wz_bit at h2
  by_cases e : r' = r
  · rw [if_pos e] at h2
    exact ⟨fun _ => Or.inl e, fun _ => of_decide_eq_true h2⟩
  · rw [if_neg e] at h2
    exact ⟨fun h3 => Or.inr ((decide_eq_decide.mp h2).mp h3), fun h3 => (decide_eq_decide.mp h2).mpr (h3.resolve_left e)⟩
theorem wz_or0 {c : Int} (h : 0 ≤ c ∧ c < 256) : wq_or c 0 = c := by
  obtain ⟨n, rfl⟩ : ∃ n : Nat, c = (n : Int) := ⟨c.toNat, by omega⟩
  exact of_decide_eq_true (wy_allb_t wz_or0_all n (by omega))
theorem wz_and_b (a : Int) : 0 ≤ wq_and a 1073741823 ∧ wq_and a 1073741823 < 1073741824 := by
  have h : (wq_I a &&& wq_I 1073741823).toBitVec.toNat ≤ 1073741823 := by
    rw [show (wq_I a &&& wq_I 1073741823).toBitVec = (wq_I a).toBitVec &&& (wq_I 1073741823).toBitVec from rfl, BitVec.toNat_and, show (wq_I 1073741823).toBitVec.toNat = 1073741823 from by decide +kernel]
    exact Nat.and_le_right
  have e : wq_and a 1073741823 = (wq_I a &&& wq_I 1073741823).toBitVec.toInt := rfl
  rw [e, BitVec.toInt_eq_toNat_of_lt (by omega)]
  omega
theorem wz_x_drawn (X : Nat → Int) {LL : Nat} (hLL : LL ≤ 260) {k : Nat} (hk : k < 1000) (S : wq_St) : ∃ v, f_L_drawn X LL (k : Int) S = some (v, S) ∧ 0 ≤ v ∧ v < 1073741824 := by
  unfold f_L_drawn
  rw [wq_w_id (x := (LL : Int)) (by omega) (by omega), wq_w_id (x := (k : Int)) (by omega) (by omega)]
  by_cases c : (LL : Int) ≤ (k : Int)
  · rw [if_pos c]
    exact ⟨_, rfl, wz_and_b _⟩
  · rw [if_neg c, wy_ix (by omega) (by omega) (by omega)]
    exact ⟨_, rfl, wz_and_b _⟩
section
variable {P Q S : wq_St} {L8 L9 : Nat → Int} {d : Int}
theorem wz_clt_a {A : wq_St} : wq_clt (wq_emb 0 284 S A) = wq_clt S := by
  funext k
  unfold wq_clt wq_emb
  by_cases h : k < 284
  · rw [if_pos h, if_pos h, if_neg (by omega)]
  · rw [if_neg h, if_neg h]
theorem wz_cls_b {B : wq_St} : wq_cls (wq_emb 284 284 S B) = wq_cls S := by
  funext k
  unfold wq_cls wq_emb
  by_cases h : k < 284
  · rw [if_pos h, if_pos h, if_neg (by omega)]
  · rw [if_neg h, if_neg h]
theorem wz_clt_s {f j : Nat} {v : Int} (hf : 568 ≤ f) : wq_clt (wq_set S f j v) = wq_clt S := by
  funext k
  unfold wq_clt
  by_cases h : k < 284
  · rw [if_pos h, if_pos h]
    funext i
    exact wy_set_ne (by omega)
  · rw [if_neg h, if_neg h]
theorem wz_cls_s {f j : Nat} {v : Int} (hf : 568 ≤ f) : wq_cls (wq_set S f j v) = wq_cls S := by
  funext k
  unfold wq_cls
  by_cases h : k < 284
  · rw [if_pos h, if_pos h]
    funext i
    exact wy_set_ne (by omega)
  · rw [if_neg h, if_neg h]
theorem wz_Z9 (hZ : wz_Z P Q L8 L9 S) (i : Nat) (v : Int) : wz_Z P Q L8 (fun j => if j = i then v else L9 j) (wq_set S 569 i v) := by
  obtain ⟨h1, h2, h3, h4⟩ := hZ
  refine ⟨by rw [wz_cls_s (by omega)]; exact h1, by rw [wz_clt_s (by omega)]; exact h2, ?_, ?_⟩
  · rw [← h3]
    funext j
    exact wy_set_ne (by omega)
  · rw [← h4]
    funext j
    by_cases e : j = i
    · rw [if_pos e]
      exact wy_set_at rfl e
    · rw [if_neg e]
      exact wy_set_ne (by omega)
theorem wz_Z8 (hZ : wz_Z P Q L8 L9 S) (i : Nat) (v : Int) : wz_Z P Q (fun j => if j = i then v else L8 j) L9 (wq_set S 568 i v) := by
  obtain ⟨h1, h2, h3, h4⟩ := hZ
  refine ⟨by rw [wz_cls_s (by omega)]; exact h1, by rw [wz_clt_s (by omega)]; exact h2, ?_, ?_⟩
  · rw [← h3]
    funext j
    by_cases e : j = i
    · rw [if_pos e]
      exact wy_set_at rfl e
    · rw [if_neg e]
      exact wy_set_ne (by omega)
  · rw [← h4]
    funext j
    exact wy_set_ne (by omega)
theorem wz_n928 {T : Option (Int × wq_St) → Prop} {X : Nat → Int} {LL : Nat} {kx : Int → wq_St → Option (Int × wq_St)} {rec : Int → Int → wq_St → Option (Int × wq_St)} (hW : wz_W d P Q L8 L9) (hZ : wz_Z P Q L8 L9 S) {k7 z8 : Int} (hz : 0 ≤ z8 ∧ z8 < 2147483648) (hrec : ∀ S', wz_Z P Q L8 L9 S' → T (rec 1 (k7 + 1) S')) : T (j_L_law_928 X LL kx rec d 1 k7 z8 S) := by
  obtain ⟨hJ, h5, h8, h9, -, hb⟩ := hW
  unfold j_L_law_928 j_L_law_958 j_L_law_963
  rw [if_neg (by decide), wq_gd_t (by decide)]
  by_cases c : wq_w (wq_rem k7 3) < wq_w 2
  · rw [if_pos c]
    exact hrec S hZ
  · obtain ⟨S', e, hZ'⟩ := wz_same (z := z8 / 3) hJ hZ (by omega) h8 h9 hb (by omega)
    rw [if_neg c, wq_gd_t (by decide), wz_div hz.1 hz.2 (by omega) (by omega), wy_bd e, if_neg (by decide)]
    exact hrec S' hZ'
theorem wz_keep {P' Q' : wq_St} (hW : wz_W d P Q L8 L9) (hJ' : wz_J d P' Q') (hF : wz_F P P') : wz_W d P' Q' L8 L9 := by
  obtain ⟨-, h5, h8, h9, h1, hb⟩ := hW
  exact ⟨hJ', by rw [hF.1]; exact h5, fun t ht => by rw [hF.2.2.1]; exact h8 t ht, by rw [hF.2.1]; exact h9, h1, fun r hr => by rw [hF.2.2.2]; exact hb r hr⟩
set_option maxHeartbeats 4000000 in
theorem wz_n208 {T : Option (Int × wq_St) → Prop} {X : Nat → Int} {LL : Nat} {kx : Int → wq_St → Option (Int × wq_St)} {rec : Int → Int → wq_St → Option (Int × wq_St)} (hW : wz_W d P Q L8 L9) (hZ : wz_Z P Q L8 L9 S) (hd : 1 ≤ d ∧ d ≤ 400) {k7 z8 z9 zv zr : Int} {t c : Nat} (hz : 0 ≤ z8 ∧ z8 < 2147483648) (h9 : 0 ≤ z9 ∧ z9 < 40) (hv : 0 ≤ zv ∧ zv < 2147483648) (t3 : t < 3) (c3 : c < 3) (hr : wz_rp P zr) (hrec : ∀ (P' Q' : wq_St) (L9' : Nat → Int) (S' : wq_St), wz_W d P' Q' L8 L9' → wz_Z P' Q' L8 L9' S' → T (rec 1 (k7 + 1) S')) : T (j_L_law_208 X LL kx rec d k7 z8 z9 zv (t : Int) (c : Int) zr S) := by
  have hWo := hW
  obtain ⟨hJ, h5, h8, h90, h91, hb⟩ := hW
  have hI := hJ.1.1
  have b1 := wy_b1 hI t
  have w1 := hJ.2.1 t (by omega)
  have ht : (t : Int) < P 0 5 := by omega
  have fin : ∀ {P' Q' : wq_St} {L9' : Nat → Int} {S' : wq_St}, wz_W d P' Q' L8 L9' → wz_Z P' Q' L8 L9' S' → T (j_L_law_928 X LL kx rec d 1 k7 z8 S') := fun hW' hZ' => wz_n928 hW' hZ' hz (fun S2 hZ2 => hrec _ _ _ _ hW' hZ2)
  have two : ∀ {Sa' Sb' P' Q' : wq_St}, wy_R wy_al Sa' P' → wy_R wy_al Sb' Q' → wz_J d P' Q' → wz_F P P' → T (j_L_law_928 X LL kx rec d 1 k7 z8 (wq_emb 284 284 (wq_emb 0 284 S Sa') Sb')) := fun ra rb hJ' hF => fin (wz_keep hWo hJ' hF) (wz_Zb (wz_Za hZ ra) rb)
  have dm : ∀ a b : Int, 0 < a → a < 2147483648 → 0 < b → b < 2147483648 → 0 ≤ wq_rem (wq_div zv a) b ∧ wq_rem (wq_div zv a) b < b := fun a b a0 a1 b0 b1 => by
    have q0 : 0 ≤ zv / a := Int.ediv_nonneg hv.1 (by omega)
    have q1 : zv / a ≤ zv := Int.ediv_le_self _ hv.1
    rw [wz_div hv.1 hv.2 a0 a1, wz_rem q0 (by omega) b0 b1]
    exact ⟨Int.emod_nonneg _ (by omega), Int.emod_lt_of_pos _ b0⟩
  have m5 : 0 ≤ wq_rem zv 5 ∧ wq_rem zv 5 < 5 := by rw [wz_rem hv.1 hv.2 (by omega) (by omega)]; omega
  have m4 : 0 ≤ wq_rem zv 4 ∧ wq_rem zv 4 < 4 := by rw [wz_rem hv.1 hv.2 (by omega) (by omega)]; omega
  have m40 : 0 ≤ wq_rem zv 40 ∧ wq_rem zv 40 < 40 := by rw [wz_rem hv.1 hv.2 (by omega) (by omega)]; omega
  have wk : wq_w z9 = z9 := wq_w_id (by omega) (by omega)
  unfold j_L_law_208
  rw [show wq_w 10 = 10 from rfl, show wq_w 13 = 13 from rfl, show wq_w 16 = 16 from rfl, show wq_w 21 = 21 from rfl, show wq_w 23 = 23 from rfl, show wq_w 27 = 27 from rfl, show wq_w 34 = 34 from rfl, show wq_w 37 = 37 from rfl, wk]
  by_cases k10 : 10 ≤ z9
  · rw [if_pos k10]
    by_cases k10' : z9 = 10
    · have r := dm 3 12 (by omega) (by omega) (by omega) (by omega)
      obtain ⟨v, Sa', Sb', P', Q', ea, eb, ra, rb, hJ', hF⟩ := wz_w_does0 hJ hZ.1 hZ.2.1 ht (y := wq_rem (wq_div zv 3) 12) (by omega)
      rw [if_pos k10', wq_gd_t (by decide), wq_gd_t (by decide), wy_bd ea, wy_lt, wq_gd_t (by decide), wq_gd_t (by decide), wz_clt_a, wy_bd eb, wy_lt, if_pos rfl]
      unfold j_L_law_385
      exact two ra rb hJ' hF
    · rw [if_neg k10']
      by_cases k13 : 13 ≤ z9
      · rw [if_pos k13]
        by_cases k16 : 16 ≤ z9
        · rw [if_pos k16]
          by_cases k16' : z9 = 16
          · obtain ⟨v, Sa', Sb', P', Q', ea, eb, ra, rb, hJ', hF⟩ := wz_w_add2 hJ hZ.1 hZ.2.1 (y := 1 + wq_rem zv 4) (by omega)
            rw [if_pos k16', wq_gd_t (by decide), wy_bd ea, wy_lt, wq_gd_t (by decide), wz_clt_a, wy_bd eb, wy_lt, if_pos rfl]
            unfold j_L_law_531
            exact two ra rb hJ' hF
          · rw [if_neg k16']
            by_cases k21 : 21 ≤ z9
            · rw [if_pos k21]
              by_cases k23 : 23 ≤ z9
              · rw [if_pos k23]
                by_cases k27 : 27 ≤ z9
                · rw [if_pos k27]
                  by_cases k34 : 34 ≤ z9
                  · rw [if_pos k34]
                    by_cases k34' : z9 = 34
                    · obtain ⟨v, Sa', Sb', P', Q', ea, eb, ra, rb, hJ', hF⟩ := wz_w_add4 hJ hZ.1 hZ.2.1 hr
                      rw [if_pos k34', wy_bd ea, wy_lt, wz_clt_a, wy_bd eb, wy_lt, if_pos rfl]
                      unfold j_L_law_817
                      exact two ra rb hJ' hF
                    · rw [if_neg k34']
                      by_cases k37 : 37 ≤ z9
                      · rw [if_pos k37, wq_gd_t (by decide), wq_gd_t (by decide)]
                        have r := dm 81 2 (by omega) (by omega) (by omega) (by omega)
                        generalize wq_rem (wq_div zv 81) 2 = w2 at r ⊢
                        rcases (show w2 = 0 ∨ w2 = 1 by omega) with rfl | rfl
                        · obtain ⟨v, Sa', Sb', P', Q', ea, eb, ra, rb, hJ', hF⟩ := wz_w_does3 (y := 0) hJ hZ.1 hZ.2.1 hr
                          rw [show (3 : Int) + 0 = 3 from rfl, wy_bd ea, wy_lt, wq_gd_t (by decide), wq_gd_t (by decide), wz_clt_a, wy_bd eb, wy_lt, if_pos rfl]
                          unfold j_L_law_926
                          exact two ra rb hJ' hF
                        · obtain ⟨v, Sa', Sb', P', Q', ea, eb, ra, rb, hJ', hF⟩ := wz_w_does4 (y := 0) hJ hZ.1 hZ.2.1 hr
                          rw [show (3 : Int) + 1 = 4 from rfl, wy_bd ea, wy_lt, wq_gd_t (by decide), wq_gd_t (by decide), wz_clt_a, wy_bd eb, wy_lt, if_pos rfl]
                          unfold j_L_law_926
                          exact two ra rb hJ' hF
                      · rw [if_neg k37]
                        have sum := wz_w_sums hJ hZ.1 hZ.2.1 hr (y := (t : Int)) (z := (c : Int)) (by omega) (by omega)
                        rcases sum with ⟨r, Sa', Sb', P', Q', e, r8, ea, eb, ra, rb, hJ', f5, f28, f1, f22, f22'⟩ | ⟨ea, eb⟩
                        · subst e
                          obtain ⟨n, hn⟩ : ∃ n : Nat, L9 1 = (n : Int) := ⟨(L9 1).toNat, by omega⟩
                          have hbt := wz_bits (c := n) (r := r) (by omega) r8
                          have hZa := wz_Za hZ ra
                          rw [wy_bd ea, wy_lt, wy_ix (by omega) (by omega) (by omega), show ((1 : Int)).toNat = 1 from rfl, if_neg (by decide), hZa.2.2.2, hn]
                          unfold j_L_law_859
                          rw [wy_ix (by omega) (by omega) (by omega), show ((1 : Int)).toNat = 1 from rfl, wy_lt, wz_clt_s (by omega), wz_clt_a, wy_bd eb, wy_lt, if_pos rfl]
                          unfold j_L_law_881
                          refine fin (P' := P') (Q' := Q') ⟨hJ', by rw [f5]; exact h5, fun t ht => by rw [f1]; exact h8 t ht, ?_, ?_, fun r' hr' => ?_⟩ (wz_Zb (wz_Z9 hZa 1 _) rb)
                          · rw [f28]
                            exact (if_neg (by decide)).trans h90
                          · rw [if_pos rfl]
                            exact hbt.1
                          · rw [if_pos rfl, hbt.2 r' hr']
                            have hb' := hb r' hr'
                            rw [hn] at hb'
                            by_cases e : r' = r
                            · rw [e]
                              exact ⟨fun _ => f22, fun _ => Or.inl rfl⟩
                            · rw [f22' r' e, ← hb']
                              exact ⟨fun h => h.resolve_left e, Or.inr⟩
                        · have hZa := wz_Za hZ hZ.1
                          rw [wy_bd ea, wy_lt, wy_ix (by omega) (by omega) (by omega), show ((1 : Int)).toNat = 1 from rfl, if_pos (by decide), hZa.2.2.2]
                          unfold j_L_law_859
                          rw [wy_ix (by omega) (by omega) (by omega), show ((1 : Int)).toNat = 1 from rfl, wy_lt, wz_clt_s (by omega), wz_clt_a, wy_bd eb, wy_lt, if_pos rfl, wz_or0 h91]
                          unfold j_L_law_881
                          refine fin (P' := P) (Q' := Q) ⟨hJ, h5, h8, (if_neg (by decide)).trans h90, ?_, fun r' hr' => ?_⟩ (wz_Zb (wz_Z9 hZa 1 _) hZ.2.1)
                          · rw [if_pos rfl]
                            exact h91
                          · rw [if_pos rfl]
                            exact hb r' hr'
                  · rw [if_neg k34, wq_gd_t (by decide), wq_gd_t (by decide)]
                    have r4 := dm 81 4 (by omega) (by omega) (by omega) (by omega)
                    have r3 := dm 324 3 (by omega) (by omega) (by omega) (by omega)
                    have r500 := dm 324 500 (by omega) (by omega) (by omega) (by omega)
                    have r972 := dm 972 3 (by omega) (by omega) (by omega) (by omega)
                    generalize wq_rem (wq_div zv 81) 4 = w4 at r4 ⊢
                    have ew : wq_w w4 = w4 := wq_w_id (by omega) (by omega)
                    by_cases k3 : w4 = 3
                    · subst k3
                      obtain ⟨v, Sa', Sb', P', Q', ea, eb, ra, rb, hJ', hF⟩ := wz_w_join (y := (t : Int)) (z := (c : Int)) (u := wq_rem (wq_div zv 324) 3) (v := wq_rem (wq_div zv 972) 3) hJ hZ.1 hZ.2.1 hr (by omega) (by omega) (by omega) (by omega)
                      rw [if_pos rfl, wq_gd_t (by decide), wq_gd_t (by decide)]
                      unfold j_L_law_716
                      rw [wq_gd_t (by decide), wq_gd_t (by decide), wy_bd ea, wy_lt, if_pos rfl]
                      unfold j_L_law_764
                      rw [wq_gd_t (by decide), wq_gd_t (by decide), wz_clt_a, wy_bd eb, wy_lt, if_pos rfl]
                      unfold j_L_law_783
                      exact two ra rb hJ' hF
                    · have k3' : ¬wq_w w4 = wq_w 3 := by
                        rw [ew, show wq_w 3 = 3 from rfl]
                        exact k3
                      obtain ⟨v, Sa', Sb', P', Q', ea, eb, ra, rb, hJ', hF⟩ := wz_w_cond (y := (t : Int)) (z := (c : Int)) (u := w4) (v := wq_rem (wq_div zv 324) 500) (v' := wq_rem (wq_div zv 324) 500 + d) (w' := wq_rem (wq_div zv 972) 3) hJ hZ.1 hZ.2.1 hr (by omega) (by omega) (by omega) (by omega) (by omega) rfl
                      rw [if_neg k3', wq_gd_t (by decide), wq_gd_t (by decide)]
                      unfold j_L_law_716
                      rw [wq_gd_t (by decide), wq_gd_t (by decide), wy_bd ea, wy_lt, if_neg k3']
                      unfold j_L_law_764
                      rw [wq_gd_t (by decide), wq_gd_t (by decide), wz_clt_a, wy_bd eb, wy_lt, if_pos rfl]
                      unfold j_L_law_783
                      exact two ra rb hJ' hF
                · obtain ⟨v, Sa', Sb', P', Q', ea, eb, ra, rb, hJ', hF⟩ := wz_w_does2 (y := (t : Int)) hJ hZ.1 hZ.2.1 hr (by omega)
                  rw [if_neg k27, wy_bd ea, wy_lt, wz_clt_a, wy_bd eb, wy_lt, if_pos rfl]
                  unfold j_L_law_668
                  exact two ra rb hJ' hF
              · rw [if_neg k23, wq_gd_t (by decide)]
                have o := wy_o28 hI
                rcases wz_w_add1 hJ hZ.1 hZ.2.1 (y := wq_rem zv 5) (by omega) with ⟨c8, Sa', Sb', P', Q', ea, eb, ra, rb, hJ', f5, f28, f1, f22⟩ | ⟨ea, eb⟩
                · have hZa := wz_Za hZ ra
                  have ew : wq_w (P 0 28) = P 0 28 := wq_w_id (by omega) (by omega)
                  rw [wy_bd ea, wy_lt, wy_ix (by omega) (by omega) (by omega), show ((0 : Int)).toNat = 0 from rfl, if_neg (by rw [ew]; omega), hZa.2.2.2]
                  unfold j_L_law_609
                  rw [wy_ix (by omega) (by omega) (by omega), show ((0 : Int)).toNat = 0 from rfl, wy_lt, wq_gd_t (by decide), wz_clt_s (by omega), wz_clt_a, wy_bd eb, wy_lt, if_pos rfl]
                  unfold j_L_law_630
                  refine fin (P' := P') (Q' := Q') ⟨hJ', by rw [f5]; exact h5, fun t ht => by rw [f1]; exact h8 t ht, ?_, ?_, fun r' hr' => ?_⟩ (wz_Zb (wz_Z9 hZa 0 _) rb)
                  · rw [if_pos rfl, f28, h90]
                  · rw [if_neg (by decide)]
                    exact h91
                  · rw [if_neg (by decide), f22]
                    exact hb r' hr'
                · have hZa := wz_Za hZ hZ.1
                  rw [wy_bd ea, wy_lt, wy_ix (by omega) (by omega) (by omega), show ((0 : Int)).toNat = 0 from rfl, if_pos (by decide), hZa.2.2.2]
                  unfold j_L_law_609
                  rw [wy_ix (by omega) (by omega) (by omega), show ((0 : Int)).toNat = 0 from rfl, wy_lt, wq_gd_t (by decide), wz_clt_s (by omega), wz_clt_a, wy_bd eb, wy_lt, if_pos rfl]
                  unfold j_L_law_630
                  refine fin (P' := P) (Q' := Q) ⟨hJ, h5, h8, ?_, ?_, fun r' hr' => ?_⟩ (wz_Zb (wz_Z9 hZa 0 _) hZ.2.1)
                  · rw [if_pos rfl, h90]
                    omega
                  · rw [if_neg (by decide)]
                    exact h91
                  · rw [if_neg (by decide)]
                    exact hb r' hr'
            · obtain ⟨v, Sa', Sb', P', Q', ea, eb, ra, rb, hJ', hF⟩ := wz_w_add3 hJ hZ.1 hZ.2.1 (y := wq_rem zv 40) (by omega)
              rw [if_neg k21, wq_gd_t (by decide), wy_bd ea, wy_lt, wq_gd_t (by decide), wz_clt_a, wy_bd eb, wy_lt, if_pos rfl]
              unfold j_L_law_571
              exact two ra rb hJ' hF
        · have r := dm 3 4 (by omega) (by omega) (by omega) (by omega)
          obtain ⟨v, Sa', Sb', P', Q', ea, eb, ra, rb, hJ', hF⟩ := wz_w_does1 hJ hZ.1 hZ.2.1 ht (y := 1 + wq_rem (wq_div zv 3) 4) (by omega)
          rw [if_neg k16, wq_gd_t (by decide), wq_gd_t (by decide), wy_bd ea, wy_lt, wq_gd_t (by decide), wq_gd_t (by decide), wz_clt_a, wy_bd eb, wy_lt, if_pos rfl]
          unfold j_L_law_489
          exact two ra rb hJ' hF
      · rw [if_neg k13, wq_gd_t (by decide), wq_gd_t (by decide)]
        have r := dm 9 2 (by omega) (by omega) (by omega) (by omega)
        generalize wq_rem (wq_div zv 9) 2 = w2 at r ⊢
        rcases (show w2 = 0 ∨ w2 = 1 by omega) with rfl | rfl
        · obtain ⟨v, Sa', Sb', P', Q', ea, eb, ra, rb, hJ', hF⟩ := wz_w_does5 hJ hZ.1 hZ.2.1 ht (y := (c : Int)) (by omega)
          rw [show (5 : Int) + 0 = 5 from rfl, wy_bd ea, wy_lt, wq_gd_t (by decide), wq_gd_t (by decide), wz_clt_a, wy_bd eb, wy_lt, if_pos rfl]
          unfold j_L_law_439
          exact two ra rb hJ' hF
        · obtain ⟨v, Sa', Sb', P', Q', ea, eb, ra, rb, hJ', hF⟩ := wz_w_does6 hJ hZ.1 hZ.2.1 ht (y := (c : Int)) (by omega)
          rw [show (5 : Int) + 1 = 6 from rfl, wy_bd ea, wy_lt, wq_gd_t (by decide), wq_gd_t (by decide), wz_clt_a, wy_bd eb, wy_lt, if_pos rfl]
          unfold j_L_law_439
          exact two ra rb hJ' hF
  · have r500 := dm 3 500 (by omega) (by omega) (by omega) (by omega)
    have r7 := dm 7 6 (by omega) (by omega) (by omega) (by omega)
    have r11 := dm 11 6 (by omega) (by omega) (by omega) (by omega)
    rw [if_neg k10, wq_gd_t (by decide), wq_gd_t (by decide), wy_lt]
    generalize wq_rem (wq_div zv 3) 500 = y at r500 ⊢
    have e568 : S 568 = L8 := hZ.2.2.1
    have e1 : wq_w (P 1 t) = P 1 t := wq_w_id (by omega) (by omega)
    have ins : ∀ (z u z' u' : Int), (0 ≤ z ∧ z ≤ (if P 1 t ≤ ((1 : Nat) : Int) then 0 else 999)) → (0 ≤ u ∧ u ≤ (if P 1 t ≤ ((2 : Nat) : Int) then 0 else 999)) → (0 ≤ z' ∧ z' ≤ (if P 1 t ≤ ((1 : Nat) : Int) then 0 else 999)) → (0 ≤ u' ∧ u' ≤ (if P 1 t ≤ ((2 : Nat) : Int) then 0 else 999)) → (1 < P 1 t → z' = z + d) → (2 < P 1 t → u' = u + d) → T (j_L_law_314 X LL kx rec d k7 z8 (t : Int) y z u u' z' (y + d) (t : Int) S) := fun z u z' u' q1 q2 q3 q4 q5 q6 => by
      obtain ⟨v, Sa', Sb', P', Q', ea, eb, ra, rb, hJ', hF⟩ := wz_w_insert hJ hZ.1 hZ.2.1 ht (y := y) (y' := y + d) (by omega) q1 q2 (by omega) q3 q4 rfl q5 q6
      unfold j_L_law_314
      rw [wy_bd eb, wy_lt, wz_cls_b, wy_bd ea, wy_lt, if_pos rfl]
      unfold j_L_law_337
      exact fin (wz_keep hWo hJ' hF) (wz_Za (wz_Zb hZ rb) ra)
    have ix : ∀ k : Nat → Option (Int × wq_St), wq_ix (t : Int) 3 k = k t := fun k => by rw [wy_ix (by omega) (by omega) (by omega), Int.toNat_natCast]
    rw [ix, e568, h8 t t3, e1, show wq_w 1 = 1 from rfl]
    by_cases c1 : P 1 t ≤ 1
    · rw [if_pos c1]
      unfold j_L_law_248
      rw [ix, e568, h8 t t3, e1, show wq_w 2 = 2 from rfl, if_pos (by omega)]
      unfold j_L_law_271
      rw [ix, e568, h8 t t3, e1, show wq_w 1 = 1 from rfl, if_pos c1]
      unfold j_L_law_297
      rw [ix, e568, h8 t t3, e1, show wq_w 2 = 2 from rfl, if_pos (by omega)]
      have i1 : (if P 1 t ≤ ((1 : Nat) : Int) then (0 : Int) else 999) = 0 := if_pos (by omega)
      have i2 : (if P 1 t ≤ ((2 : Nat) : Int) then (0 : Int) else 999) = 0 := if_pos (by omega)
      rw [i1, i2] at ins
      exact ins 0 0 0 0 (by omega) (by omega) (by omega) (by omega) (fun h => by omega) (fun h => by omega)
    · have i1 : (if P 1 t ≤ ((1 : Nat) : Int) then (0 : Int) else 999) = 999 := if_neg (by omega)
      rw [i1] at ins
      rw [if_neg c1, wq_gd_t (by decide), wq_gd_t (by decide)]
      generalize wq_rem (wq_div zv 7) 6 = z at r7 ⊢
      unfold j_L_law_248
      rw [ix, e568, h8 t t3, e1, show wq_w 2 = 2 from rfl]
      by_cases c2 : P 1 t ≤ 2
      · have i2 : (if P 1 t ≤ ((2 : Nat) : Int) then (0 : Int) else 999) = 0 := if_pos (by omega)
        rw [i2] at ins
        rw [if_pos c2]
        unfold j_L_law_271
        rw [ix, e568, h8 t t3, e1, show wq_w 1 = 1 from rfl, if_neg c1]
        unfold j_L_law_297
        rw [ix, e568, h8 t t3, e1, show wq_w 2 = 2 from rfl, if_pos c2]
        exact ins z 0 (z + d) 0 (by omega) (by omega) (by omega) (by omega) (fun _ => rfl) (fun h => by omega)
      · have i2 : (if P 1 t ≤ ((2 : Nat) : Int) then (0 : Int) else 999) = 999 := if_neg (by omega)
        rw [i2] at ins
        rw [if_neg c2, wq_gd_t (by decide), wq_gd_t (by decide)]
        generalize wq_rem (wq_div zv 11) 6 = u at r11 ⊢
        unfold j_L_law_271
        rw [ix, e568, h8 t t3, e1, show wq_w 1 = 1 from rfl, if_neg c1]
        unfold j_L_law_297
        rw [ix, e568, h8 t t3, e1, show wq_w 2 = 2 from rfl, if_neg c2]
        exact ins z u (z + d) (u + d) (by omega) (by omega) (by omega) (by omega) (fun _ => rfl) (fun _ => rfl)
end
