/-! TWO STORES: the law's wrappers of the calls that change them -/
def wz_k3 : Nat → wq_St → Option (Int × wq_St) := fun n S => if n = 1 then some ((-8), S) else if n = 2 then some ((-8), S) else if n = 3 then some ((-8), S) else none
def wz_kr : Int → wq_St → Option (Int × wq_St) := fun r S => some (r, S)
def wz_kz : Int → wq_St → Option (Int × wq_St) := fun r S => if wq_w r = 0 then some (0, S) else some (1, S)
def wz_wp (F : wq_St → Prop) (d : Int) (xa xb : Option (Int × wq_St)) : Prop := ∃ v Sa' Sb' P' Q', xa = some (v, Sa') ∧ xb = some (v, Sb') ∧ wy_R wy_al Sa' P' ∧ wy_R wy_al Sb' Q' ∧ wz_J d P' Q' ∧ F P'
section
variable {P Q Sa Sb S : wq_St} {d x y z u v w : Int} {t r : Nat}
theorem wz_krs (v : Int) : ∃ w, ∀ S, wz_kr v S = some (w, S) := ⟨v, fun _ => rfl⟩
theorem wz_kzs (v : Int) : ∃ w, ∀ S, wz_kz v S = some (w, S) := by
  by_cases c : wq_w v = 0
  · exact ⟨0, fun _ => if_pos c⟩
  · exact ⟨1, fun _ => if_neg c⟩
theorem wz_w3 {F : wq_St → Prop} {xa xb : Option (Nat × Int × wq_St)} {k : Int → wq_St → Option (Int × wq_St)} (hk : ∀ v, ∃ w, ∀ S, k v S = some (w, S)) (hJ : wz_J d P Q) (hRa : wy_R wy_al Sa P) (hRb : wy_R wy_al Sb Q) (hF : F P) (h : wz_pr F d Sa Sb xa xb) : wz_wp F d (wq_bh xa k wz_k3) (wq_bh xb k wz_k3) := by
  rcases h with ⟨v, Sa', Sb', P', Q', ea, eb, ra, rb, hJ', hF'⟩ | ⟨n, n3, ea, eb⟩
  · obtain ⟨w, hw⟩ := hk v
    exact ⟨w, Sa', Sb', P', Q', (wz_bh0 ea).trans (hw _), (wz_bh0 eb).trans (hw _), ra, rb, hJ', hF'⟩
  · have e : ∀ S, wz_k3 (n + 1) S = some ((-8), S) := fun S => by
      unfold wz_k3
      by_cases c1 : n + 1 = 1
      · rw [if_pos c1]
      · by_cases c2 : n + 1 = 2
        · rw [if_neg c1, if_pos c2]
        · rw [if_neg c1, if_neg c2, if_pos (by omega)]
    exact ⟨-8, Sa, Sb, P, Q, (wz_bh1 ea).trans (e _), (wz_bh1 eb).trans (e _), hRa, hRb, hJ, hF⟩
theorem wz_F0 : wz_F P P := ⟨rfl, rfl, fun _ => rfl, fun _ => rfl⟩
/-- a report that is not there -/
def wz_rp (P : wq_St) (x : Int) : Prop := (¬wy_isR P x ∧ wy_rg x) ∨ ∃ r : Nat, x = (r : Int) ∧ (r : Int) < P 0 28
theorem wz_e_insert : f_L_insert x y z u S = wq_bh (f_X8_insert x y z u S) wz_kr wz_k3 := by
  unfold f_L_insert
  rfl
theorem wz_e_add0 : f_L_add 0 y S = wq_bh (f_X8_addTable y S) wz_kr wz_k3 := by
  unfold f_L_add
  rw [if_pos (by decide)]
  rfl
theorem wz_e_add1 : f_L_add 1 y S = wq_bh (f_X8_addReport y S) wz_kr wz_k3 := by
  unfold f_L_add
  rw [if_neg (by decide), if_pos (by decide)]
  rfl
theorem wz_e_add2 : f_L_add 2 y S = wq_bh (f_X8_setStep y S) wz_kr wz_k3 := by
  unfold f_L_add
  rw [if_neg (by decide), if_neg (by decide), if_pos (by decide)]
  rfl
theorem wz_e_add3 : f_L_add 3 y S = wq_bh (f_X8_night y S) wz_kr wz_k3 := by
  unfold f_L_add
  rw [if_neg (by decide), if_neg (by decide), if_neg (by decide), if_pos (by decide)]
  rfl
theorem wz_e_add4 : f_L_add 4 y S = wq_bh (f_X8_dropCondition y S) wz_kr wz_k3 := by
  unfold f_L_add
  rw [if_neg (by decide), if_neg (by decide), if_neg (by decide), if_neg (by decide)]
  rfl
theorem wz_e_does0 : f_L_does 0 y z S = wq_bh (f_X8_delete y z S) wz_kr wz_k3 := by
  unfold f_L_does
  rw [if_pos (by decide)]
  rfl
theorem wz_e_does1 : f_L_does 1 y z S = wq_bh (f_X8_renew y z S) wz_kr wz_k3 := by
  unfold f_L_does
  rw [if_neg (by decide), if_pos (by decide)]
  rfl
theorem wz_e_does2 : f_L_does 2 y z S = wq_bh (f_X8_addSource y z S) wz_kr wz_k3 := by
  unfold f_L_does
  rw [if_neg (by decide), if_neg (by decide), if_pos (by decide)]
  rfl
theorem wz_e_does3 : f_L_does 3 y z S = wq_bh (f_X8_setDue y 1 S) wz_kz wz_k3 := by
  unfold f_L_does
  rw [if_neg (by decide), if_neg (by decide), if_neg (by decide), if_neg (by decide), if_pos (by decide)]
  rfl
theorem wz_e_does4 : f_L_does 4 y z S = wq_bh (f_X8_setDue y 0 S) wz_kz wz_k3 := by
  unfold f_L_does
  rw [if_neg (by decide), if_neg (by decide), if_neg (by decide), if_neg (by decide), if_neg (by decide)]
  rfl
theorem wz_e_does5 : f_L_does 5 y z S = wq_bh (f_X8_setIndex y z 1 S) wz_kz wz_k3 := by
  unfold f_L_does
  rw [if_neg (by decide), if_neg (by decide), if_neg (by decide), if_pos (by decide), if_pos (by decide)]
  rfl
theorem wz_e_does6 : f_L_does 6 y z S = wq_bh (f_X8_setIndex y z 0 S) wz_kz wz_k3 := by
  unfold f_L_does
  rw [if_neg (by decide), if_neg (by decide), if_neg (by decide), if_pos (by decide), if_neg (by decide)]
  rfl
theorem wz_e_join : f_L_ask x y z 3 u v S = wq_bh (f_X8_addJoin x y z u v S) wz_kr wz_k3 := by
  unfold f_L_ask
  rw [if_pos rfl]
  rfl
theorem wz_e_cond (h : ¬wq_w w = wq_w 3) : f_L_ask x y z w u v S = wq_bh (f_X8_addCondition x y z w u S) wz_kr wz_k3 := by
  unfold f_L_ask
  rw [if_neg h]
  rfl
theorem wz_w_does0 (hJ : wz_J d P Q) (hRa : wy_R wy_al Sa P) (hRb : wy_R wy_al Sb Q) (ht : (t : Int) < P 0 5) (hy : wy_rg y) : wz_wp (wz_F P) d (f_L_does 0 (t : Int) y Sa) (f_L_does 0 (t : Int) y Sb) := by
  rw [wz_e_does0, wz_e_does0]
  exact wz_w3 wz_krs hJ hRa hRb wz_F0 (wz_o_delete hJ hRa hRb ht hy)
theorem wz_w_does1 (hJ : wz_J d P Q) (hRa : wy_R wy_al Sa P) (hRb : wy_R wy_al Sb Q) (ht : (t : Int) < P 0 5) (hy : 1 ≤ y ∧ y ≤ 10) : wz_wp (wz_F P) d (f_L_does 1 (t : Int) y Sa) (f_L_does 1 (t : Int) y Sb) := by
  rw [wz_e_does1, wz_e_does1]
  exact wz_w3 wz_krs hJ hRa hRb wz_F0 (wz_o_renew hJ hRa hRb ht hy)
theorem wz_w_does5 (hJ : wz_J d P Q) (hRa : wy_R wy_al Sa P) (hRb : wy_R wy_al Sb Q) (ht : (t : Int) < P 0 5) (hy : wy_rg y) : wz_wp (wz_F P) d (f_L_does 5 (t : Int) y Sa) (f_L_does 5 (t : Int) y Sb) := by
  rw [wz_e_does5, wz_e_does5]
  exact wz_w3 wz_kzs hJ hRa hRb wz_F0 (wz_o_setIndex hJ hRa hRb ht hy (Or.inr rfl))
theorem wz_w_does6 (hJ : wz_J d P Q) (hRa : wy_R wy_al Sa P) (hRb : wy_R wy_al Sb Q) (ht : (t : Int) < P 0 5) (hy : wy_rg y) : wz_wp (wz_F P) d (f_L_does 6 (t : Int) y Sa) (f_L_does 6 (t : Int) y Sb) := by
  rw [wz_e_does6, wz_e_does6]
  exact wz_w3 wz_kzs hJ hRa hRb wz_F0 (wz_o_setIndex hJ hRa hRb ht hy (Or.inl rfl))
theorem wz_w_add2 (hJ : wz_J d P Q) (hRa : wy_R wy_al Sa P) (hRb : wy_R wy_al Sb Q) (hy : 1 ≤ y ∧ y ≤ 10) : wz_wp (wz_F P) d (f_L_add 2 y Sa) (f_L_add 2 y Sb) := by
  rw [wz_e_add2, wz_e_add2]
  exact wz_w3 wz_krs hJ hRa hRb wz_F0 (wz_o_setStep hJ hRa hRb hy)
theorem wz_w_add3 (hJ : wz_J d P Q) (hRa : wy_R wy_al Sa P) (hRb : wy_R wy_al Sb Q) (hy : 0 ≤ y ∧ y ≤ 1000) : wz_wp (wz_F P) d (f_L_add 3 y Sa) (f_L_add 3 y Sb) := by
  rw [wz_e_add3, wz_e_add3]
  exact wz_w3 wz_krs hJ hRa hRb wz_F0 (wz_o_night hJ hRa hRb hy)
theorem wz_n_addSource (hI : wy_iv P) (hR : wy_R wy_al S P) (hx : wy_rg x) (h : ¬wy_isR P x) : f_X8_addSource x y S = some (0 + 1, 0, S) := by
  unfold f_X8_addSource
  rw [wy_x_fR hI hR hx, if_neg h, wy_bx1 rfl]
theorem wz_n_dropCondition (hI : wy_iv P) (hR : wy_R wy_al S P) (hx : wy_rg x) (h : ¬wy_isR P x) : f_X8_dropCondition x S = some (0 + 1, 0, S) := by
  unfold f_X8_dropCondition
  rw [wy_x_fR hI hR hx, if_neg h, wy_bx1 rfl]
theorem wz_n_addCondition (hI : wy_iv P) (hR : wy_R wy_al S P) (hx : wy_rg x) (h : ¬wy_isR P x) : f_X8_addCondition x y z u v S = some (0 + 1, 0, S) := by
  unfold f_X8_addCondition
  rw [wy_x_fR hI hR hx, if_neg h, wy_bx1 rfl]
theorem wz_n_addJoin (hI : wy_iv P) (hR : wy_R wy_al S P) (hx : wy_rg x) (h : ¬wy_isR P x) : f_X8_addJoin x y z u v S = some (0 + 1, 0, S) := by
  unfold f_X8_addJoin
  rw [wy_x_fR hI hR hx, if_neg h, wy_bx1 rfl]
theorem wz_n_setSum (hI : wy_iv P) (hR : wy_R wy_al S P) (hx : wy_rg x) (h : ¬wy_isR P x) : f_X8_setSum x y z S = some (0 + 1, 0, S) := by
  unfold f_X8_setSum
  rw [wy_x_fR hI hR hx, if_neg h, wy_bx1 rfl]
theorem wz_n_setDue (hI : wy_iv P) (hR : wy_R wy_al S P) (hx : wy_rg x) (h : ¬wy_isR P x) : f_X8_setDue x y S = some (0 + 1, 0, S) := by
  unfold f_X8_setDue
  rw [wy_x_fR hI hR hx, if_neg h, wy_bx1 rfl]
theorem wz_r_source (hJ : wz_J d P Q) (hRa : wy_R wy_al Sa P) (hRb : wy_R wy_al Sb Q) (hr : wz_rp P x) (hy : 0 ≤ y ∧ y < P 0 5) : wz_pr (wz_F P) d Sa Sb (f_X8_addSource x y Sa) (f_X8_addSource x y Sb) := by
  rcases hr with ⟨h, hx⟩ | ⟨r, rfl, hr⟩
  · exact Or.inr ⟨0, by omega, wz_n_addSource hJ.1.1 hRa hx h, wz_n_addSource hJ.1.2 hRb hx (fun h' => h ((wz_iR hJ.2.2.2.1).mp h'))⟩
  · exact wz_o_addSource hJ hRa hRb hr hy
theorem wz_r_drop (hJ : wz_J d P Q) (hRa : wy_R wy_al Sa P) (hRb : wy_R wy_al Sb Q) (hr : wz_rp P x) : wz_pr (wz_F P) d Sa Sb (f_X8_dropCondition x Sa) (f_X8_dropCondition x Sb) := by
  rcases hr with ⟨h, hx⟩ | ⟨r, rfl, hr⟩
  · exact Or.inr ⟨0, by omega, wz_n_dropCondition hJ.1.1 hRa hx h, wz_n_dropCondition hJ.1.2 hRb hx (fun h' => h ((wz_iR hJ.2.2.2.1).mp h'))⟩
  · exact wz_o_drop hJ hRa hRb hr
theorem wz_r_due (hJ : wz_J d P Q) (hRa : wy_R wy_al Sa P) (hRb : wy_R wy_al Sb Q) (hr : wz_rp P x) (hy : y = 0 ∨ y = 1) : wz_pr (wz_F P) d Sa Sb (f_X8_setDue x y Sa) (f_X8_setDue x y Sb) := by
  rcases hr with ⟨h, hx⟩ | ⟨r, rfl, hr⟩
  · exact Or.inr ⟨0, by omega, wz_n_setDue hJ.1.1 hRa hx h, wz_n_setDue hJ.1.2 hRb hx (fun h' => h ((wz_iR hJ.2.2.2.1).mp h'))⟩
  · exact wz_o_setDue hJ hRa hRb hr hy
theorem wz_r_join (hJ : wz_J d P Q) (hRa : wy_R wy_al Sa P) (hRb : wy_R wy_al Sb Q) (hr : wz_rp P x) (hy : 0 ≤ y ∧ y ≤ 2) (hz : 0 ≤ z ∧ z ≤ 2) (hu : 0 ≤ u ∧ u ≤ 2) (hv : 0 ≤ v ∧ v ≤ 2) : wz_pr (wz_F P) d Sa Sb (f_X8_addJoin x y z u v Sa) (f_X8_addJoin x y z u v Sb) := by
  rcases hr with ⟨h, hx⟩ | ⟨r, rfl, hr⟩
  · exact Or.inr ⟨0, by omega, wz_n_addJoin hJ.1.1 hRa hx h, wz_n_addJoin hJ.1.2 hRb hx (fun h' => h ((wz_iR hJ.2.2.2.1).mp h'))⟩
  · exact wz_o_addJoin hJ hRa hRb hr hy hz hu hv
theorem wz_r_cond (hJ : wz_J d P Q) (hRa : wy_R wy_al Sa P) (hRb : wy_R wy_al Sb Q) (hr : wz_rp P x) {v' : Int} (hy : 0 ≤ y ∧ y ≤ 2) (hz : 0 ≤ z ∧ z ≤ 2) (hu : 0 ≤ u ∧ u ≤ 2) (hv : 0 ≤ v ∧ v ≤ 999) (hv' : 0 ≤ v' ∧ v' ≤ 999) (ev : v' = v + d) : wz_pr (wz_F P) d Sa Sb (f_X8_addCondition x y z u v Sa) (f_X8_addCondition x y z u v' Sb) := by
  rcases hr with ⟨h, hx⟩ | ⟨r, rfl, hr⟩
  · exact Or.inr ⟨0, by omega, wz_n_addCondition hJ.1.1 hRa hx h, wz_n_addCondition hJ.1.2 hRb hx (fun h' => h ((wz_iR hJ.2.2.2.1).mp h'))⟩
  · exact wz_o_addCondition hJ hRa hRb hr hy hz hu hv hv' ev
theorem wz_w_does2 (hJ : wz_J d P Q) (hRa : wy_R wy_al Sa P) (hRb : wy_R wy_al Sb Q) (hr : wz_rp P x) (hy : 0 ≤ y ∧ y < P 0 5) : wz_wp (wz_F P) d (f_L_does 2 x y Sa) (f_L_does 2 x y Sb) := by
  rw [wz_e_does2, wz_e_does2]
  exact wz_w3 wz_krs hJ hRa hRb wz_F0 (wz_r_source hJ hRa hRb hr hy)
theorem wz_w_add4 (hJ : wz_J d P Q) (hRa : wy_R wy_al Sa P) (hRb : wy_R wy_al Sb Q) (hr : wz_rp P x) : wz_wp (wz_F P) d (f_L_add 4 x Sa) (f_L_add 4 x Sb) := by
  rw [wz_e_add4, wz_e_add4]
  exact wz_w3 wz_krs hJ hRa hRb wz_F0 (wz_r_drop hJ hRa hRb hr)
theorem wz_w_does3 (hJ : wz_J d P Q) (hRa : wy_R wy_al Sa P) (hRb : wy_R wy_al Sb Q) (hr : wz_rp P x) : wz_wp (wz_F P) d (f_L_does 3 x y Sa) (f_L_does 3 x y Sb) := by
  rw [wz_e_does3, wz_e_does3]
  exact wz_w3 wz_kzs hJ hRa hRb wz_F0 (wz_r_due hJ hRa hRb hr (Or.inr rfl))
theorem wz_w_does4 (hJ : wz_J d P Q) (hRa : wy_R wy_al Sa P) (hRb : wy_R wy_al Sb Q) (hr : wz_rp P x) : wz_wp (wz_F P) d (f_L_does 4 x y Sa) (f_L_does 4 x y Sb) := by
  rw [wz_e_does4, wz_e_does4]
  exact wz_w3 wz_kzs hJ hRa hRb wz_F0 (wz_r_due hJ hRa hRb hr (Or.inl rfl))
theorem wz_w_join (hJ : wz_J d P Q) (hRa : wy_R wy_al Sa P) (hRb : wy_R wy_al Sb Q) (hr : wz_rp P x) (hy : 0 ≤ y ∧ y ≤ 2) (hz : 0 ≤ z ∧ z ≤ 2) (hu : 0 ≤ u ∧ u ≤ 2) (hv : 0 ≤ v ∧ v ≤ 2) : wz_wp (wz_F P) d (f_L_ask x y z 3 u v Sa) (f_L_ask x y z 3 u v Sb) := by
  rw [wz_e_join, wz_e_join]
  exact wz_w3 wz_krs hJ hRa hRb wz_F0 (wz_r_join hJ hRa hRb hr hy hz hu hv)
theorem wz_w_cond (hJ : wz_J d P Q) (hRa : wy_R wy_al Sa P) (hRb : wy_R wy_al Sb Q) {v' w' : Int} (hr : wz_rp P x) (hy : 0 ≤ y ∧ y ≤ 2) (hz : 0 ≤ z ∧ z ≤ 2) (hu : 0 ≤ u ∧ u ≤ 2) (hv : 0 ≤ v ∧ v ≤ 999) (hv' : 0 ≤ v' ∧ v' ≤ 999) (ev : v' = v + d) : wz_wp (wz_F P) d (f_L_ask x y z u v w' Sa) (f_L_ask x y z u v' w' Sb) := by
  have h3 : ¬wq_w u = wq_w 3 := by
    rw [wq_w_id (x := u) (by omega) (by omega), show wq_w 3 = 3 from rfl]
    omega
  rw [wz_e_cond h3, wz_e_cond h3]
  exact wz_w3 wz_krs hJ hRa hRb wz_F0 (wz_r_cond hJ hRa hRb hr hy hz hu hv hv' ev)
theorem wz_w_insert (hJ : wz_J d P Q) (hRa : wy_R wy_al Sa P) (hRb : wy_R wy_al Sb Q) {y' z' u' : Int} (ht : (t : Int) < P 0 5) (c0 : 0 ≤ y ∧ y ≤ 999) (c1 : 0 ≤ z ∧ z ≤ (if P 1 t ≤ ((1 : Nat) : Int) then 0 else 999)) (c2 : 0 ≤ u ∧ u ≤ (if P 1 t ≤ ((2 : Nat) : Int) then 0 else 999)) (c0' : 0 ≤ y' ∧ y' ≤ 999) (c1' : 0 ≤ z' ∧ z' ≤ (if P 1 t ≤ ((1 : Nat) : Int) then 0 else 999)) (c2' : 0 ≤ u' ∧ u' ≤ (if P 1 t ≤ ((2 : Nat) : Int) then 0 else 999)) (ey : y' = y + d) (ez : 1 < P 1 t → z' = z + d) (eu : 2 < P 1 t → u' = u + d) : wz_wp (wz_F P) d (f_L_insert (t : Int) y z u Sa) (f_L_insert (t : Int) y' z' u' Sb) := by
  rw [wz_e_insert, wz_e_insert]
  exact wz_w3 wz_krs hJ hRa hRb wz_F0 (wz_o_insert hJ hRa hRb ht c0 c1 c2 c0' c1' c2' ey ez eu)
/-- a report put in: what is answered is its number, or -8 -/
theorem wz_w_add1 (hJ : wz_J d P Q) (hRa : wy_R wy_al Sa P) (hRb : wy_R wy_al Sb Q) (hy : 0 ≤ y ∧ y ≤ 1000) : (P 0 28 < 8 ∧ ∃ Sa' Sb' P' Q', f_L_add 1 y Sa = some (P 0 28, Sa') ∧ f_L_add 1 y Sb = some (P 0 28, Sb') ∧ wy_R wy_al Sa' P' ∧ wy_R wy_al Sb' Q' ∧ wz_J d P' Q' ∧ P' 0 5 = P 0 5 ∧ P' 0 28 = P 0 28 + 1 ∧ (∀ t : Nat, P' 1 t = P 1 t) ∧ ∀ r : Nat, P' 22 r = P 22 r) ∨ (f_L_add 1 y Sa = some ((-8), Sa) ∧ f_L_add 1 y Sb = some ((-8), Sb)) := by
  rw [wz_e_add1, wz_e_add1]
  rcases wz_o_addReport hJ hRa hRb hy with ⟨c, Sa', Sb', P', Q', ea, eb, h⟩ | ⟨c, ea, eb⟩
  · exact Or.inl ⟨c, Sa', Sb', P', Q', wz_bh0 ea, wz_bh0 eb, h⟩
  · exact Or.inr ⟨wz_bh1 ea, wz_bh1 eb⟩
/-- a sum set: 1, or 0 -/
theorem wz_w_sums (hJ : wz_J d P Q) (hRa : wy_R wy_al Sa P) (hRb : wy_R wy_al Sb Q) (hr : wz_rp P x) (hy : 0 ≤ y ∧ y ≤ 2) (hz : wy_rg z) :
    (∃ (r : Nat) (Sa' Sb' P' Q' : wq_St), x = (r : Int) ∧ r < 8 ∧ f_L_sums x y z Sa = some (1, Sa') ∧ f_L_sums x y z Sb = some (1, Sb') ∧ wy_R wy_al Sa' P' ∧ wy_R wy_al Sb' Q' ∧ wz_J d P' Q' ∧ P' 0 5 = P 0 5 ∧ P' 0 28 = P 0 28 ∧ (∀ t : Nat, P' 1 t = P 1 t) ∧ P' 22 r ≠ -1 ∧ ∀ r' : Nat, r' ≠ r → P' 22 r' = P 22 r') ∨ (f_L_sums x y z Sa = some (0, Sa) ∧ f_L_sums x y z Sb = some (0, Sb)) := by
  have o := wy_o28 hJ.1.1
  unfold f_L_sums
  rcases hr with ⟨h, hx⟩ | ⟨r, rfl, hr⟩
  · refine Or.inr ⟨?_, ?_⟩
    · rw [wz_bh1 (wz_n_setSum hJ.1.1 hRa hx h), if_pos rfl]
    · rw [wz_bh1 (wz_n_setSum hJ.1.2 hRb hx (fun h' => h ((wz_iR hJ.2.2.2.1).mp h'))), if_pos rfl]
  · rcases wz_o_setSum hJ hRa hRb hr hy hz with ⟨Sa', Sb', P', Q', ea, eb, h⟩ | ⟨ea, eb⟩
    · exact Or.inl ⟨r, Sa', Sb', P', Q', rfl, by omega, wz_bh0 ea, wz_bh0 eb, h⟩
    · refine Or.inr ⟨?_, ?_⟩
      · rw [wz_bh1 ea, if_pos rfl]
      · rw [wz_bh1 eb, if_pos rfl]
end
