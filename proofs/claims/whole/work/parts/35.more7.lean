/-! Rows for eliminate. -/
theorem pal_len (S : XS) (b : Int32) : (q_pal b (vXL S)).length = q_cw (vXL S) b := by
  unfold q_pal
  rw [List.length_map, cw_len]
theorem drop_at {R : List Int32} {f : Nat → Int32} {i : Nat} (hR : cl_lst R.length f = R) (h : i < R.length) : R.drop i = f i :: R.drop (i + 1) := by
  have h1 := cl_get (f := f) h
  rw [hR] at h1
  rw [List.drop_eq_getElem_cons h]
  congr 1
  rw [List.getElem?_eq_getElem h] at h1
  exact Option.some.inj h1
