/-! what kind of cell the answers that are cells are -/
theorem pd_X4_choose {k1 r : Nat} {S S1 : wq_St} (_ : wq_rep k1) (h : f_X4_choose k1 S = some (r, S1)) : wq_pln r := by
  unfold f_X4_choose at h
  obtain ⟨r1, S2, -, h⟩ := wq_bd_some h
  try obtain ⟨S3, -, h⟩ := wq_lt_some h
  obtain ⟨r3, S4, -, h⟩ := wq_bd_some h
  cases h
  exact wq_pln_b
theorem pd_X8_findTable {x : Int} {r : Nat} {S S1 : wq_St} (h : f_X8_findTable x S = some (0, r, S1)) : wq_tab r := by
  unfold f_X8_findTable at h
  split at h
  · cases h
  · split at h
    · obtain ⟨t, ht, -, h⟩ := wq_ix_some h
      cases h
      exact wq_tab_i ht
    · cases h
theorem pd_X8_findReport {x : Int} {r : Nat} {S S1 : wq_St} (h : f_X8_findReport x S = some (0, r, S1)) : wq_rep r := by
  unfold f_X8_findReport at h
  split at h
  · cases h
  · split at h
    · obtain ⟨t, ht, -, h⟩ := wq_ix_some h
      cases h
      exact wq_rep_i ht
    · cases h
theorem pd_X8_findColumn {x y : Int} {r : Nat} {S S1 : wq_St} (h : f_X8_findColumn x y S = some (0, r, S1)) : wq_col r := by
  unfold f_X8_findColumn at h
  rcases wq_bx_some h with ⟨r1, S2, h1, h⟩ | ⟨n, r1, S2, h1, ho⟩
  · rcases wq_bx_some h with ⟨r3, S4, h3, h⟩ | ⟨n, r3, S4, h3, ho⟩
    · obtain ⟨t, ht, -, h⟩ := wq_ix_some h
      cases h
      exact wq_col_i (pd_X8_findTable h1) ht
    · cases ho
  · cases ho
