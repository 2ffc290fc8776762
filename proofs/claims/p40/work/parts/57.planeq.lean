/-! both find the same plan: ways apart, step by step -/
section
variable {P : wq_St} {r : Nat} {o : Nat → Int}
theorem wy_mn_map {α β : Type} {g : Int → Int} {F : α → β} (hg : ∀ x y : Int, g x < g y ↔ x < y) (x y : Option (Int × α)) : wy_mn (x.map fun A => (g A.1, F A.2)) (y.map fun A => (g A.1, F A.2)) = (wy_mn x y).map fun A => (g A.1, F A.2) := by
  cases x with
  | none => rw [wy_mn_1]; simp only [Option.map_none]; rw [wy_mn_1]
  | some a =>
    cases y with
    | none => rw [wy_mn_0]; simp only [Option.map_none]; rw [wy_mn_0]
    | some b =>
      simp only [Option.map_some]
      rw [wy_mn_s, wy_mn_s]
      dsimp only
      by_cases h : b.1 < a.1
      · rw [if_pos h, if_pos ((hg _ _).mpr h)]; rfl
      · rw [if_neg h, if_neg (fun hh => h ((hg _ _).mp hh))]; rfl
theorem wy_mf_map {α β : Type} {g : Int → Int} {F : α → β} (hg : ∀ x y : Int, g x < g y ↔ x < y) (f : Nat → Option (Int × α)) : ∀ n, wy_mf (fun i => (f i).map fun A => (g A.1, F A.2)) n = (wy_mf f n).map fun A => (g A.1, F A.2)
  | 0 => rfl
  | n + 1 => by
    simp only [wy_mf]
    rw [wy_mf_map hg f n, wy_mn_map hg]
theorem wy_mf_non {α : Type} : ∀ n, wy_mf (fun _ => (none : Option (Int × α))) n = none
  | 0 => rfl
  | n + 1 => by
    simp only [wy_mf]
    rw [wy_mf_non n]
    rfl
theorem wy_wy_2 {s i : Nat} {ch : Int} {A : Int × Int} (h : wy_wy P r o s ch i = some A) : A.2 = (i : Int) - 1 := by
  cases i with
  | zero => cases h; rfl
  | succ i =>
    simp only [wy_wy] at h
    unfold wy_wi at h
    split at h
    · cases h
      dsimp only
      omega
    · cases h
theorem wy_idx (i : Nat) : ((i : Int) - 1 + 1).toNat = i := by omega
theorem wy_g3_3 (hI : wy_iv P) (hm : P 13 r = 3) : wy_g3 P r o = some ((wy_bw P r o 0 1000).1 + (wy_bw P r o 1 (wy_nt P r o 0 1000)).1 + (wy_bw P r o 2 (wy_nt P r o 1 (wy_nt P r o 0 1000))).1, (o, wy_w3 (wy_bw P r o 0 1000).2 (wy_bw P r o 1 (wy_nt P r o 0 1000)).2 (wy_bw P r o 2 (wy_nt P r o 1 (wy_nt P r o 0 1000))).2)) := by
  have h1 := (@wy_nt_b P r o 0 1000 hI (by decide)).1
  have h2 := (@wy_nt_b P r o 1 _ hI h1).1
  have e0 := (@wy_bw_b P r o 0 1000 hI (by decide)).1
  have e1 := (@wy_bw_b P r o 1 _ hI h1).1
  have e2 := (@wy_bw_b P r o 2 _ hI h2).1
  have hm3 : (P 13 r).toNat = 3 := by omega
  have n2 : wy_nc P r 2 = 4 := by unfold wy_nc; rw [if_neg (by omega)]
  have n1 : wy_nc P r 1 = 4 := by unfold wy_nc; rw [if_neg (by omega)]
  generalize hb0 : wy_bw P r o 0 1000 = b0 at *
  generalize hc1 : wy_nt P r o 0 1000 = c1 at *
  generalize hb1 : wy_bw P r o 1 c1 = b1 at *
  generalize hc2 : wy_nt P r o 1 c1 = c2 at *
  generalize hb2 : wy_bw P r o 2 c2 = b2 at *
  have hcd : ∀ i j k : Nat, wy_cd P r o ((i : Int) - 1) ((j : Int) - 1) ((k : Int) - 1) = (wy_wy P r o 0 1000 i).bind fun A => (wy_wy P r o 1 c1 j).bind fun B => (wy_wy P r o 2 c2 k).map fun C => (A.1 + B.1 + C.1, (o, wy_w3 A.2 B.2 C.2)) := by
    intro i j k
    unfold wy_cd
    rw [hm3]
    simp only [wy_ck, Nat.zero_add, Nat.reduceAdd, wy_w3_0, wy_w3_1, wy_w3_2, wy_idx, hc1, hc2]
    cases hA : wy_wy P r o 0 1000 i with
    | none => rfl
    | some A =>
      simp only [Option.bind_some]
      cases hB : wy_wy P r o 1 c1 j with
      | none => rfl
      | some B =>
        simp only [Option.bind_some]
        cases hC : wy_wy P r o 2 c2 k with
        | none => rfl
        | some C =>
          simp only [Option.map_some]
          rw [wy_wy_2 hA, wy_wy_2 hB, wy_wy_2 hC, Int.zero_add]
  have hg1 : ∀ i j : Nat, wy_g1 P r o ((i : Int) - 1) ((j : Int) - 1) = (wy_wy P r o 0 1000 i).bind fun A => (wy_wy P r o 1 c1 j).map fun B => (A.1 + B.1 + b2.1, (o, wy_w3 A.2 B.2 b2.2)) := by
    intro i j
    unfold wy_g1
    rw [n2, wy_mf_congr fun k _ => hcd i j k]
    cases hA : wy_wy P r o 0 1000 i with
    | none => exact wy_mf_non 4
    | some A =>
      simp only [Option.bind_some]
      cases hB : wy_wy P r o 1 c1 j with
      | none => exact wy_mf_non 4
      | some B =>
        simp only [Option.bind_some, Option.map_some]
        have h := wy_mf_map (g := fun x => A.1 + B.1 + x) (F := fun c => (o, wy_w3 A.2 B.2 c)) (fun x y => by omega) (wy_wy P r o 2 c2) 4
        rw [e2] at h
        exact h
  have hg2 : ∀ i : Nat, wy_g2 P r o ((i : Int) - 1) = (wy_wy P r o 0 1000 i).map fun A => (A.1 + b1.1 + b2.1, (o, wy_w3 A.2 b1.2 b2.2)) := by
    intro i
    unfold wy_g2
    rw [n1, wy_mf_congr fun j _ => hg1 i j]
    cases hA : wy_wy P r o 0 1000 i with
    | none => exact wy_mf_non 4
    | some A =>
      simp only [Option.bind_some, Option.map_some]
      have h := wy_mf_map (g := fun x => A.1 + x + b2.1) (F := fun c => (o, wy_w3 A.2 c b2.2)) (fun x y => by omega) (wy_wy P r o 1 c1) 4
      rw [e1] at h
      exact h
  unfold wy_g3
  rw [wy_mf_congr fun i _ => hg2 i]
  have h := wy_mf_map (g := fun x => x + b1.1 + b2.1) (F := fun c => (o, wy_w3 c b1.2 b2.2)) (fun x y => by omega) (wy_wy P r o 0 1000) 4
  rw [e0] at h
  exact h
theorem wy_g3_2 (hI : wy_iv P) (hm : P 13 r = 2) : wy_g3 P r o = some ((wy_bw P r o 0 1000).1 + (wy_bw P r o 1 (wy_nt P r o 0 1000)).1, (o, wy_w3 (wy_bw P r o 0 1000).2 (wy_bw P r o 1 (wy_nt P r o 0 1000)).2 (-1))) := by
  have h1 := (@wy_nt_b P r o 0 1000 hI (by decide)).1
  have e0 := (@wy_bw_b P r o 0 1000 hI (by decide)).1
  have e1 := (@wy_bw_b P r o 1 _ hI h1).1
  have hm3 : (P 13 r).toNat = 2 := by omega
  have n2 : wy_nc P r 2 = 1 := by unfold wy_nc; rw [if_pos (by omega)]
  have n1 : wy_nc P r 1 = 4 := by unfold wy_nc; rw [if_neg (by omega)]
  generalize hb0 : wy_bw P r o 0 1000 = b0 at *
  generalize hc1 : wy_nt P r o 0 1000 = c1 at *
  generalize hb1 : wy_bw P r o 1 c1 = b1 at *
  have hg1 : ∀ i j : Nat, wy_g1 P r o ((i : Int) - 1) ((j : Int) - 1) = (wy_wy P r o 0 1000 i).bind fun A => (wy_wy P r o 1 c1 j).map fun B => (A.1 + B.1, (o, wy_w3 A.2 B.2 (-1))) := by
    intro i j
    unfold wy_g1
    rw [n2]
    simp only [wy_mf]
    rw [wy_mn_1]
    unfold wy_cd
    rw [hm3]
    simp only [wy_ck, Nat.zero_add, Nat.reduceAdd, wy_w3_0, wy_w3_1, wy_idx, hc1]
    cases hA : wy_wy P r o 0 1000 i with
    | none => rfl
    | some A =>
      simp only [Option.bind_some]
      cases hB : wy_wy P r o 1 c1 j with
      | none => rfl
      | some B =>
        simp only [Option.map_some]
        rw [wy_wy_2 hA, wy_wy_2 hB, Int.zero_add]
        rfl
  have hg2 : ∀ i : Nat, wy_g2 P r o ((i : Int) - 1) = (wy_wy P r o 0 1000 i).map fun A => (A.1 + b1.1, (o, wy_w3 A.2 b1.2 (-1))) := by
    intro i
    unfold wy_g2
    rw [n1, wy_mf_congr fun j _ => hg1 i j]
    cases hA : wy_wy P r o 0 1000 i with
    | none => exact wy_mf_non 4
    | some A =>
      simp only [Option.bind_some, Option.map_some]
      have h := wy_mf_map (g := fun x => A.1 + x) (F := fun c => (o, wy_w3 A.2 c (-1))) (fun x y => by omega) (wy_wy P r o 1 c1) 4
      rw [e1] at h
      exact h
  unfold wy_g3
  rw [wy_mf_congr fun i _ => hg2 i]
  have h := wy_mf_map (g := fun x => x + b1.1) (F := fun c => (o, wy_w3 c b1.2 (-1))) (fun x y => by omega) (wy_wy P r o 0 1000) 4
  rw [e0] at h
  exact h
theorem wy_g3_1 (hI : wy_iv P) (hm : P 13 r = 1) : wy_g3 P r o = some ((wy_bw P r o 0 1000).1, (o, wy_w3 (wy_bw P r o 0 1000).2 (-1) (-1))) := by
  have e0 := (@wy_bw_b P r o 0 1000 hI (by decide)).1
  have hm3 : (P 13 r).toNat = 1 := by omega
  have n2 : wy_nc P r 2 = 1 := by unfold wy_nc; rw [if_pos (by omega)]
  have n1 : wy_nc P r 1 = 1 := by unfold wy_nc; rw [if_pos (by omega)]
  generalize hb0 : wy_bw P r o 0 1000 = b0 at *
  have hg2 : ∀ i : Nat, wy_g2 P r o ((i : Int) - 1) = (wy_wy P r o 0 1000 i).map fun A => (A.1, (o, wy_w3 A.2 (-1) (-1))) := by
    intro i
    unfold wy_g2
    rw [n1]
    simp only [wy_mf]
    rw [wy_mn_1]
    unfold wy_g1
    rw [n2]
    simp only [wy_mf]
    rw [wy_mn_1]
    unfold wy_cd
    rw [hm3]
    simp only [wy_ck, Nat.zero_add, Nat.reduceAdd, wy_w3_0, wy_idx]
    cases hA : wy_wy P r o 0 1000 i with
    | none => rfl
    | some A =>
      simp only [Option.map_some]
      rw [wy_wy_2 hA, Int.zero_add]
      rfl
  unfold wy_g3
  rw [wy_mf_congr fun i _ => hg2 i]
  have h := wy_mf_map (g := fun x => x) (F := fun c => (o, wy_w3 c (-1) (-1))) (fun x y => Iff.rfl) (wy_wy P r o 0 1000) 4
  rw [e0] at h
  exact h
end
