/-! The tie behind close. -/
theorem mk_lst (n : Nat) (f : Nat → Int32) (x : Int32) : cl_lst (n + 1) (upd f n x) = cl_lst n f ++ [x] := by
  unfold cl_lst
  rw [List.range_succ, List.map_append]
  congr 1
  · apply List.map_congr_left
    intro i hi
    have := List.mem_range.mp hi
    exact pk_un (by omega)
  · simp [pk_us]
section TL
variable {S : XS} {T : MS}
/-- what both remember of a clause given -/
theorem giv_x (c : Prop) [Decidable c] (g : Nat) (f : Nat → Int32) (x : Int32) : cl_lst (if c then g + 1 else g) (if c then upd f g x else f) = if c then cl_lst g f ++ [x] else cl_lst g f := by
  by_cases h : c
  · rw [if_pos h, if_pos h, if_pos h, mk_lst]
  · rw [if_neg h, if_neg h, if_neg h]
theorem LI.clo_full (h : LI S T) (th : Int32) : LI (xk 0 (xt S) (xn S) (xm S) (xh S) (xg S) (xse S) (xnu S) (xes S) (xel S) (xgi S) (xre S)) (yk 0 (yn T) (ym T) (yh T) (yg T) (yt T) th (yse T) (ynu T) (yes T) (yel T) (ygi T)) := by
  obtain ⟨⟨e1, e2, e3, e4, e5, e6⟩, o1, o2, g1, d1, t1, s1, v1⟩ := h
  exact ⟨⟨rfl, e2, e3, e4, e5, e6⟩, o1, o2, g1, k_ok_0, t1, s1, v1⟩
theorem LI.clo_not (h : LI S T) (th : Int32) : LI (xk 0 (xt S) (xn S) (xm S) (xh S) (if k_taut (xd S) = false ∧ xg S < 100 then xg S + 1 else xg S) (xse S) (xnu S) (xes S) (xel S) (if k_taut (xd S) = false ∧ xg S < 100 then upd (xgi S) (xg S) (xd S) else xgi S) (xre S))
    (yk 0 (yn T) (ym T) (yh T) (if m_taut (yd T) = false ∧ yg T < 100 then yg T + 1 else yg T) (yt T) th (yse T) (ynu T) (yes T) (yel T) (if m_taut (yd T) = false ∧ yg T < 100 then upd (ygi T) (yg T) (yd T) else ygi T)) := by
  have eg := h.g
  obtain ⟨⟨e1, e2, e3, e4, e5, e6⟩, o1, o2, g1, d1, t1, s1, v1⟩ := h
  have hc : (k_taut (xd S) = false ∧ xg S < 100) ↔ (m_taut (yd T) = false ∧ yg T < 100) := by rw [← e1, m_taut_eq d1, eg]
  have a : cl_lst (if k_taut (xd S) = false ∧ xg S < 100 then xg S + 1 else xg S) (if k_taut (xd S) = false ∧ xg S < 100 then upd (xgi S) (xg S) (xd S) else xgi S) = if k_taut (xd S) = false ∧ xg S < 100 then vXG S ++ [xd S] else vXG S := giv_x _ _ _ _
  have b : cl_lst (if m_taut (yd T) = false ∧ yg T < 100 then yg T + 1 else yg T) (if m_taut (yd T) = false ∧ yg T < 100 then upd (ygi T) (yg T) (yd T) else ygi T) = if m_taut (yd T) = false ∧ yg T < 100 then vMG T ++ [yd T] else vMG T := giv_x _ _ _ _
  refine ⟨⟨rfl, e2, e3, e4, e5, ?_⟩, ⟨o1.1, o1.2.1, ?_⟩, ⟨o2.1, o2.2.1, ?_⟩, g1, k_ok_0, t1, s1, ?_⟩
  · refine a.trans (Eq.trans ?_ b.symm)
    by_cases z : k_taut (xd S) = false ∧ xg S < 100
    · rw [if_pos z, if_pos (hc.mp z), e6, e1]
    · rw [if_neg z, if_neg (fun y => z (hc.mpr y)), e6]
  · show (if k_taut (xd S) = false ∧ xg S < 100 then xg S + 1 else xg S) ≤ 100
    have := o1.2.2
    split <;> omega
  · show (if m_taut (yd T) = false ∧ yg T < 100 then yg T + 1 else yg T) ≤ 100
    have := o2.2.2
    split <;> omega
  · intro x hx
    have hx2 : x ∈ (if k_taut (xd S) = false ∧ xg S < 100 then vXG S ++ [xd S] else vXG S) := by rw [← a]; exact hx
    split at hx2
    · rcases List.mem_append.mp hx2 with z | z
      · exact v1 x z
      · rw [List.mem_singleton.mp z]; exact d1
    · exact v1 x hx2
theorem LI.clo_made (h : LI S T) (th : Int32) (hmt : m_taut (yd T) = false) (hn : yn T < 40) : LI (xk 0 (xt S) (xn S + 1) (xm S + 1) (xh S) (if xg S < 100 then xg S + 1 else xg S) (upd (xse S) (xn S) (xd S)) (upd (xnu S) (xn S) (xm S)) (xes S) (xel S) (if xg S < 100 then upd (xgi S) (xg S) (xd S) else xgi S) (xre S))
    (yk 0 (yn T + 1) (ym T + 1) (yh T) (if yg T < 100 then yg T + 1 else yg T) (yt T) th (upd (yse T) (yn T) (yd T)) (upd (ynu T) (yn T) (ym T)) (yes T) (yel T) (if yg T < 100 then upd (ygi T) (yg T) (yd T) else ygi T)) := by
  have eg := h.g
  have en := h.n
  obtain ⟨⟨e1, e2, e3, e4, e5, e6⟩, o1, o2, g1, d1, t1, s1, v1⟩ := h
  have a : cl_lst (if xg S < 100 then xg S + 1 else xg S) (if xg S < 100 then upd (xgi S) (xg S) (xd S) else xgi S) = if xg S < 100 then vXG S ++ [xd S] else vXG S := giv_x _ _ _ _
  have b : cl_lst (if yg T < 100 then yg T + 1 else yg T) (if yg T < 100 then upd (ygi T) (yg T) (yd T) else ygi T) = if yg T < 100 then vMG T ++ [yd T] else vMG T := giv_x _ _ _ _
  have c1 : cl_of (xn S + 1) (upd (xse S) (xn S) (xd S)) (upd (xnu S) (xn S) (xm S)) = vXL S ++ [(xd S, xm S)] := mk_cl _ _ _ _ _
  have c2 : cl_of (yn T + 1) (upd (yse T) (yn T) (yd T)) (upd (ynu T) (yn T) (ym T)) = vML T ++ [(yd T, ym T)] := mk_cl _ _ _ _ _
  have hnt : k_nt (xd S) := k_taut_nt.mp (by rw [← m_taut_eq d1, e1]; exact hmt)
  refine ⟨⟨rfl, e2, ?_, ?_, e5, ?_⟩, ⟨?_, o1.2.1, ?_⟩, ⟨?_, o2.2.1, ?_⟩, ?_, k_ok_0, t1, s1, ?_⟩
  · show xm S + 1 = ym T + 1
    rw [e3]
  · refine c1.trans (Eq.trans ?_ c2.symm)
    rw [e4, e1, e3]
  · refine a.trans (Eq.trans ?_ b.symm)
    rw [eg, e6, e1]
  · show xn S + 1 ≤ 40
    omega
  · show (if xg S < 100 then xg S + 1 else xg S) ≤ 100
    have := o1.2.2
    split <;> omega
  · show yn T + 1 ≤ 90
    omega
  · show (if yg T < 100 then yg T + 1 else yg T) ≤ 100
    have := o2.2.2
    split <;> omega
  · show g_cl (cl_of (xn S + 1) (upd (xse S) (xn S) (xd S)) (upd (xnu S) (xn S) (xm S)))
    rw [c1]
    intro c hc
    rcases List.mem_append.mp hc with z | z
    · exact g1 c z
    · rw [List.mem_singleton.mp z]; exact ⟨d1, hnt⟩
  · intro x hx
    have hx2 : x ∈ (if xg S < 100 then vXG S ++ [xd S] else vXG S) := by rw [← a]; exact hx
    split at hx2
    · rcases List.mem_append.mp hx2 with z | z
      · exact v1 x z
      · rw [List.mem_singleton.mp z]; exact d1
    · exact v1 x hx2
end TL
