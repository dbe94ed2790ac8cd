/-! Rows that were found wanting. -/
theorem q_find_m1 {L : List cC} {x : Int32} (h : L.length < 2 ^ 31) : q_idx (q_find L x) = -1 ↔ q_find L x = none := q_idx_m1 (fun k hk => by
  have := q_up_some hk
  omega)
theorem q_frst_m1 {L : List cC} {x : Int32} (h : L.length < 2 ^ 31) : q_idx (q_frst L x) = -1 ↔ q_frst L x = none := q_idx_m1 (fun k hk => by
  have := q_up_some hk
  omega)
theorem q_find_lt {L : List cC} {x : Int32} {k : Nat} (h : q_find L x = some k) : k < L.length := by
  have := q_up_some h
  omega
theorem some_of_ne {α : Type} {o : Option α} (h : ¬ o = none) : ∃ a, o = some a := by
  cases o with
  | none => exact absurd rfl h
  | some a => exact ⟨a, rfl⟩
