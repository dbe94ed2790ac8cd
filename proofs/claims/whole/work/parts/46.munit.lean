/-! Rows for unit, block and step of the reference. -/
theorem vMT_push (S : MS) (x y : Int32) : (cl_of (yh S + 1) (upd (yes S) (yh S) x) (upd (yel S) (yh S) y)).map (fun c => (c.1, m_bit c.2)) = vMT S ++ [(x, m_bit y)] := by
  rw [mk_cl, List.map_append]
  rfl
theorem q_app_z {n : Nat} {f g : Nat → Int32} (p : cC → Bool) : cl_of n f g = (cl_of n f g).take n ++ ((cl_of n f g).drop n).filter p := by
  rw [List.take_of_length_le (by rw [cl_of_len]; exact Nat.le_refl _), List.drop_of_length_le (by rw [cl_of_len]; exact Nat.le_refl _)]
  simp
theorem nI_leI_ge {n j : Nat} (hn : n ≤ 90) (h : nI n ≤ nI j) : n ≤ j := by
  rcases Nat.lt_or_ge j n with z | z
  · exact absurd h (nI_ge z (by omega))
  · exact z
theorem nI_lt_of {n j : Nat} (hn : n ≤ 90) (h : ¬ nI n ≤ nI j) (hj : j < 2 ^ 31 := by omega) : j < n := by
  rcases Nat.lt_or_ge j n with z | z
  · exact z
  · exact absurd (nI_le z hj) h
