/-! Words of a callee among a caller's: every method has its own code's word and all of BW. -/
theorem gd_mem {x w : Cond} (h : w ∈ BW) : w ∈ (x :: BW) ∧ ((w.onTables && w.keeps) = true ∨ ∃ ty, w = .arrayClass ty) := ⟨List.mem_cons_of_mem _ h, good_of_word (List.all_eq_true.mp bw_good w h)⟩
theorem gd_V {x : Cond} {own C : String} {idx n : Nat} {y : MethodName} {cc : ByteArray} {r : Option FieldType} (h1 : Cond.methodLink own idx y ∈ BW) (h2 : Cond.instanceMethod y ∈ BW) (h3 : Cond.selects C y y ∈ BW) (h4 : Cond.initialized C ∈ BW) (h5 : Cond.code y cc n r ∈ BW) : GoodIn (x :: BW) (wsV own idx C y (Cond.code y cc n r :: BW)) := by
  intro w hw
  unfold wsV at hw
  rcases List.mem_append.mp hw with h | h
  · simp only [List.mem_cons, List.not_mem_nil, or_false] at h
    rcases h with rfl | rfl | rfl | rfl
    · exact gd_mem h1
    · exact gd_mem h2
    · exact gd_mem h3
    · exact gd_mem h4
  · rcases List.mem_cons.mp h with rfl | h
    · exact gd_mem h5
    · exact gd_mem h
theorem gd_S {x : Cond} {own : String} {idx n : Nat} {y : MethodName} {cc : ByteArray} {r : Option FieldType} (h1 : Cond.methodLink own idx y ∈ BW) (h2 : Cond.static y ∈ BW) (h3 : Cond.initialized y.cls ∈ BW) (h4 : Cond.code y cc n r ∈ BW) : GoodIn (x :: BW) (va_wsS own idx y (Cond.code y cc n r :: BW)) := by
  intro w hw
  unfold va_wsS at hw
  rcases List.mem_append.mp hw with h | h
  · simp only [List.mem_cons, List.not_mem_nil, or_false] at h
    rcases h with rfl | rfl | rfl
    · exact gd_mem h1
    · exact gd_mem h2
    · exact gd_mem h3
  · rcases List.mem_cons.mp h with rfl | h
    · exact gd_mem h4
    · exact gd_mem h
