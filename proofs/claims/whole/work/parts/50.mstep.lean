/-! Rows for step and close of the reference. -/
def y_samH (S u : MS) : Prop := u = yk (yd S) (yn u) (ym S) (yh u) (yg S) (yt S) (yth u) (yse u) (ynu u) (yes u) (yel u) (ygi S)
theorem y_samT.H {S u : MS} (h : y_samT S u) (th : Int32) : y_samH S (yk (yd u) (yn u) (ym u) (yh u) (yg u) (yt u) th (yse u) (ynu u) (yes u) (yel u) (ygi u)) := by
  unfold y_samT at h
  rw [h]
  rfl
theorem y_samT.th {S u : MS} (h : y_samT S u) : yth u = yth S := by
  have h2 : u = yk (yd S) (yn u) (ym S) (yh u) (yg S) (yt S) (yth S) (yse u) (ynu u) (yes u) (yel u) (ygi S) := h
  have h3 := congrArg (fun w => yth w) h2
  exact h3
theorem le0 {x : Int32} (h : x = 1) : ¬ x ≤ 0 := by rw [h]; decide
theorem h01 {x : Int32} (h : x = 1 ∨ x = 0 ∨ x = -1) (h1 : ¬ x ≤ 0) : x = 1 := by
  rcases h with z | z | z
  · exact z
  · rw [z] at h1; exact absurd (by decide) h1
  · rw [z] at h1; exact absurd (by decide) h1
theorem h00 {x : Int32} (h : x = 1 ∨ x = 0 ∨ x = -1) (h1 : x ≤ 0) (h2 : 0 ≤ x) : x = 0 := by
  rcases h with z | z | z
  · rw [z] at h1; exact absurd h1 (by decide)
  · exact z
  · rw [z] at h2; exact absurd h2 (by decide)
theorem h0m {x : Int32} (h : x = 1 ∨ x = 0 ∨ x = -1) (h1 : x ≤ 0) (h2 : ¬ 0 ≤ x) : x = -1 := by
  rcases h with z | z | z
  · rw [z] at h1; exact absurd h1 (by decide)
  · rw [z] at h2; exact absurd (by decide) h2
  · exact z
theorem h_or {x : Int32} (h : x = 0 ∨ x = 1 ∨ x = -1) : x = 1 ∨ x = 0 ∨ x = -1 := by
  rcases h with z | z | z
  · exact Or.inr (Or.inl z)
  · exact Or.inl z
  · exact Or.inr (Or.inr z)
