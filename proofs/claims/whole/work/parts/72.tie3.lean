/-! The tie behind eliminate. -/
theorem mg1_good {L : List cC} {x v : Int32} (hL : g_cl L) (hx : k_ok x) : ∀ (f d : Nat) (R : List Int32), d + f ≤ L.length → (∀ y ∈ R, k_ok y ∧ k_nt y) → ∀ y ∈ m_g1 L x v f d R, k_ok y ∧ k_nt y
  | 0, _, _, _, h => h
  | f + 1, d, R, hd, h => by
    show ∀ y ∈ (if ¬ x &&& k_pos v = 0 ∧ ¬ q_set L d &&& k_neg v = 0 ∧ L.length + R.length < 90 ∧ q_can L (k_res x (q_set L d) (k_both v)) = true ∧ k_res x (q_set L d) (k_both v) ∉ R
      then m_g1 L x v f (d + 1) (R ++ [k_res x (q_set L d) (k_both v)]) else m_g1 L x v f (d + 1) R), k_ok y ∧ k_nt y
    split
    · rename_i hc
      refine mg1_good hL hx f (d + 1) _ (by omega) (fun y hy => ?_)
      rcases List.mem_append.mp hy with z | z
      · exact h y z
      · rw [List.mem_singleton.mp z]
        have c := hc.2.2.2.1
        unfold q_can at c
        rw [Bool.and_eq_true_iff, Bool.not_eq_true'] at c
        exact ⟨k_ok_res hx (g_cl_at hL (by omega)).1, k_taut_nt.mp c.1⟩
    · exact mg1_good hL hx f (d + 1) R (by omega) h
theorem mg2_good {L : List cC} {v : Int32} (hL : g_cl L) : ∀ (f c : Nat) (R : List Int32), c + f ≤ L.length → (∀ y ∈ R, k_ok y ∧ k_nt y) → ∀ y ∈ m_g2 L v f c R, k_ok y ∧ k_nt y
  | 0, _, _, _, h => h
  | f + 1, c, R, hc, h => mg2_good hL f (c + 1) _ (by omega) (mg1_good hL (g_cl_at hL (by omega)).1 _ _ _ (by omega) h)
theorem g_cl_app : ∀ (R : List Int32) (L : List cC) (mm : Int32), g_cl L → (∀ y ∈ R, k_ok y ∧ k_nt y) → g_cl (q_app L mm R)
  | [], _, _, h, _ => h
  | x :: R, L, mm, h, hR => by
    show g_cl (q_app (L ++ [(x, mm)]) (mm + 1) R)
    refine g_cl_app R _ _ (fun c hc => ?_) (fun y hy => hR y (List.mem_cons_of_mem _ hy))
    rcases List.mem_append.mp hc with z | z
    · exact h c z
    · rw [List.mem_singleton.mp z]
      exact hR x List.mem_cons_self
section TK
variable {S : XS} {T : MS}
/-- what the two gatherings say -/
theorem LI.gath (h : LI S T) (v : Int32) : g_rel (q_cw (vXL S) (k_both v)) (q_g2 (vXL S) v (q_cw (vXL S) (k_both v)) (xn S) 0 []) (m_g2 (vML T) v (yn T) 0 []) := by
  have l40 : (vXL S).length ≤ 40 := by rw [vXL_len]; exact h.2.1.1
  rw [← h.1.2.2.2.1, h.n]
  exact g2_rel l40 (Nat.le_trans (q_cw_le _ _) l40) _ _ _ (Nat.zero_le _)
theorem LI.elim (h : LI S T) {v : Nat} {R : List Int32} {u : XS} {z : MS} (hR : m_g2 (vML T) (nI v) (yn T) 0 [] = R) (hle : R.length ≤ q_cw (vXL S) (k_both (nI v))) (hroom : xh S + q_cw (vXL S) (k_pos (nI v)) + 1 ≤ 200)
    (x1 : vXL u = q_app ((vXL S).filter (fun c => (c.1 &&& k_both (nI v)) == 0)) (xm S) R) (x2 : xm u = q_mm (xm S) R) (x3 : vXT u = (vXT S ++ q_pal (k_pos (nI v)) (vXL S)) ++ [(k_neg (nI v), k_neg (nI v))]) (x4 : xd u = xd S) (x5 : xt u = xt S) (x6 : xg u = xg S) (x7 : xgi u = xgi S)
    (y1 : vML z = q_app ((vML T).filter (fun c => (c.1 &&& k_both (nI v)) == 0)) (ym T) R) (y2 : ym z = q_mm (ym T) R) (y3 : vMT z = (vMT T ++ q_pal (k_pos (nI v)) (vML T)) ++ [(k_neg (nI v), k_neg (nI v))]) (y4 : yd z = yd T) (y5 : yt z = yt T) (y6 : yg z = yg T) (y7 : ygi z = ygi T) (y8 : g_stp T z) : LI u z := by
  have hgR : ∀ y ∈ R, k_ok y ∧ k_nt y := by
    rw [← hR]
    exact mg2_good h.gl _ _ _ (by rw [vML_len]; omega) (fun y hy => nomatch hy)
  obtain ⟨⟨e1, e2, e3, e4, e5, e6⟩, o1, o2, g1, d1, t1, s1, v1⟩ := h
  rw [← e4, ← e3] at y1
  rw [← e3] at y2
  rw [← e4, ← e5] at y3
  have eL : vXL u = vML z := x1.trans y1.symm
  have eT : vXT u = vMT z := x3.trans y3.symm
  have l1 : (vXL u).length ≤ 40 := by
    rw [x1, app_len]
    have z1 := cw_split (vXL S) (k_both (nI v))
    have z2 : q_cw (vXL S) (k_both (nI v)) = ((vXL S).filter (fun c => (c.1 &&& k_both (nI v)) != 0)).length := cw_len _ _ _ _
    have z3 := o1.1
    rw [vXL_len] at z1
    omega
  have l2 : (vXT u).length ≤ 200 := by
    rw [x3, List.length_append, List.length_append, vXT_len, pal_len]
    exact hroom
  have l3 : yn z ≤ 40 := by rw [eL, vML_len] at l1; exact l1
  have l4 : yh z ≤ 200 := by rw [eT, vMT_len] at l2; exact l2
  have k4 : vXG u = vXG S := by show cl_lst (xg u) (xgi u) = cl_lst (xg S) (xgi S); rw [x6, x7]
  have k5 : vMG z = vMG T := by show cl_lst (yg z) (ygi z) = cl_lst (yg T) (ygi T); rw [y6, y7]
  exact ⟨⟨by rw [x4, y4]; exact e1, by rw [x5, y5]; exact e2, by rw [x2, y2], eL, eT, by rw [k4, k5]; exact e6⟩, ⟨by rw [← vXL_len]; exact l1, by rw [← vXT_len]; exact l2, by rw [x6]; exact o1.2.2⟩, ⟨by omega, l4, by rw [y6]; exact o2.2.2⟩,
    by rw [x1]; exact g_cl_app _ _ _ (g_cl_filter g1) hgR, by rw [x4]; exact d1, by rw [x5]; exact t1, y8 s1, by rw [k4]; exact v1⟩
/-- eliminate of the reference that isn't done leaves the value -/
theorem LI.els (h : LI S T) {z : MS} (y1 : vML z = vML T) (th : Int32) (y2 : z = yk (yd T) (yn T) (ym T) (yh T) (yg T) (yt T) th (yse z) (ynu z) (yes T) (yel T) (ygi T)) : LI S z := by
  obtain ⟨⟨e1, e2, e3, e4, e5, e6⟩, o1, o2, g1, d1, t1, s1, v1⟩ := h
  have k1 : yd z = yd T := by rw [y2]
  have k2 : yt z = yt T := by rw [y2]
  have k3 : ym z = ym T := by rw [y2]
  have k4 : vMG z = vMG T := by rw [y2]
  have k5 : vMT z = vMT T := by rw [y2]
  have k6 : vMR z = vMR T := by rw [y2]
  have k7 : okM z := by rw [y2]; exact o2
  exact ⟨⟨by rw [k1]; exact e1, by rw [k2]; exact e2, by rw [k3]; exact e3, by rw [y1]; exact e4, by rw [k5]; exact e5, by rw [k4]; exact e6⟩, o1, k7, g1, d1, t1, by rw [k6]; exact s1, v1⟩
end TK
