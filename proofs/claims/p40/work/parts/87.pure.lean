theorem wz_pure (X : Nat → Int) (hX : ∀ j, wy_rg (X j)) (LL : Nat) (hLL : LL ≤ 260) : ∃ (v : Int) (S1 S0 : wq_St), f_L_drawn X LL 0 wq_SL0 = some (v, S1) ∧ f_L_law X LL (fun (u : Int) (S : wq_St) => if u = 1 then some ((1 : Int), S) else none) (1 + wq_rem v 400) 1 0 wq_SL0 = some (1, S0) := by
  sorry
