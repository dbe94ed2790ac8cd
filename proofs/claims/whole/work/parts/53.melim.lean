/-! Eliminating in the reference: pure rows. -/
def m_g1 (L : List cC) (x v : Int32) : Nat → Nat → List Int32 → List Int32
  | 0, _, R => R
  | f + 1, d, R =>
    if ¬ x &&& k_pos v = 0 ∧ ¬ q_set L d &&& k_neg v = 0 ∧ L.length + R.length < 90 ∧ q_can L (k_res x (q_set L d) (k_both v)) = true ∧ k_res x (q_set L d) (k_both v) ∉ R
    then m_g1 L x v f (d + 1) (R ++ [k_res x (q_set L d) (k_both v)]) else m_g1 L x v f (d + 1) R
def m_g2 (L : List cC) (v : Int32) : Nat → Nat → List Int32 → List Int32
  | 0, _, R => R
  | f + 1, c, R => m_g2 L v f (c + 1) (m_g1 L (q_set L c) v L.length 0 R)
section MG
variable {L : List cC} {x v : Int32} {n k : Nat} {R : List Int32}
theorem mg1_un (h : k < n) : m_g1 L x v (n - k) k R = (if ¬ x &&& k_pos v = 0 ∧ ¬ q_set L k &&& k_neg v = 0 ∧ L.length + R.length < 90 ∧ q_can L (k_res x (q_set L k) (k_both v)) = true ∧ k_res x (q_set L k) (k_both v) ∉ R
    then m_g1 L x v (n - (k + 1)) (k + 1) (R ++ [k_res x (q_set L k) (k_both v)]) else m_g1 L x v (n - (k + 1)) (k + 1) R) := by
  obtain ⟨f, hf⟩ : ∃ f, n - k = f + 1 := ⟨n - k - 1, by omega⟩
  rw [hf, show n - (k + 1) = f by omega]
  rfl
theorem mg1_end (h : n ≤ k) : m_g1 L x v (n - k) k R = R := by
  rw [show n - k = 0 by omega]
  rfl
theorem mg2_un (h : k < n) : m_g2 L v (n - k) k R = m_g2 L v (n - (k + 1)) (k + 1) (m_g1 L (q_set L k) v L.length 0 R) := by
  obtain ⟨f, hf⟩ : ∃ f, n - k = f + 1 := ⟨n - k - 1, by omega⟩
  rw [hf, show n - (k + 1) = f by omega]
  rfl
theorem mg2_end (h : n ≤ k) : m_g2 L v (n - k) k R = R := by
  rw [show n - k = 0 by omega]
  rfl
end MG
theorem app_fst : ∀ (R : List Int32) (L : List cC) (mm : Int32), (q_app L mm R).map (fun c => c.1) = L.map (fun c => c.1) ++ R
  | [], L, mm => by rw [List.append_nil]; rfl
  | x :: R, L, mm => by
    show (q_app (L ++ [(x, mm)]) (mm + 1) R).map (fun c => c.1) = _
    rw [app_fst R, List.map_append, List.append_assoc]
    rfl
theorem app_snoc : ∀ (R : List Int32) (L : List cC) (mm x : Int32), q_app L mm (R ++ [x]) = q_app L mm R ++ [(x, q_mm mm R)] ∧ q_mm mm (R ++ [x]) = q_mm mm R + 1
  | [], _, _, _ => ⟨rfl, rfl⟩
  | _ :: R, L, mm, x => app_snoc R (L ++ [_]) (mm + 1) x
theorem app_len : ∀ (R : List Int32) (L : List cC) (mm : Int32), (q_app L mm R).length = L.length + R.length
  | [], _, _ => rfl
  | x :: R, L, mm => by
    show (q_app (L ++ [(x, mm)]) (mm + 1) R).length = _
    have e : (x :: R).length = R.length + 1 := rfl
    have e2 : [(x, mm)].length = 1 := rfl
    rw [app_len R, List.length_append]
    omega
theorem app_get : ∀ (R : List Int32) (L : List cC) (mm : Int32) {k : Nat}, k < L.length → (q_app L mm R)[k]? = L[k]?
  | [], _, _, _, _ => rfl
  | x :: R, L, mm, k, h => by
    show (q_app (L ++ [(x, mm)]) (mm + 1) R)[k]? = _
    rw [app_get R _ _ (by rw [List.length_append]; omega), List.getElem?_append_left h]
theorem find_none {L : List cC} {x : Int32} : q_find L x = none ↔ x ∉ L.map (fun c => c.1) := by
  constructor
  · intro h hx
    obtain ⟨c, hc, e⟩ := List.mem_map.mp hx
    obtain ⟨i, hi⟩ := List.getElem?_of_mem hc
    have hl := (List.getElem?_eq_some_iff.mp hi).1
    have := q_up_none h i (Nat.zero_le _) (by omega)
    rw [(q_set_get hi).1, e] at this
    simp at this
  · intro h
    cases hq : q_find L x with
    | none => rfl
    | some k =>
      obtain ⟨h1, h2, h3⟩ := q_up_some hq
      refine absurd (List.mem_map.mpr ⟨_, List.mem_of_getElem? (q_get_set (L := L) (k := k) (by omega)), ?_⟩) h
      simpa using h3
theorem find_app {L : List cC} {R : List Int32} {mm x : Int32} : q_find (q_app L mm R) x = none ↔ q_find L x = none ∧ x ∉ R := by
  rw [find_none, find_none, app_fst, List.mem_append, not_or]
theorem can_app {L : List cC} {R : List Int32} {mm x : Int32} (hx : k_ok x) : ¬ (m_taut x = true ∨ ¬ q_find (q_app L mm R) x = none) ↔ q_can L x = true ∧ x ∉ R := by
  rw [not_or, Classical.not_not, find_app, m_taut_eq hx]
  unfold q_can
  rw [Bool.and_eq_true_iff, Option.isNone_iff_eq_none, Bool.not_eq_true']
  constructor
  · intro ⟨h1, h2, h3⟩
    exact ⟨⟨by simpa using h1, h2⟩, h3⟩
  · intro ⟨⟨h1, h2⟩, h3⟩
    exact ⟨by simpa using h1, h2, h3⟩
theorem app_filter {p : cC → Bool} : ∀ (R : List Int32) (L : List cC) (mm : Int32), (∀ x ∈ R, ∀ m : Int32, p (x, m) = true) → (q_app L mm R).filter p = q_app (L.filter p) mm R
  | [], _, _, _ => rfl
  | x :: R, L, mm, h => by
    show (q_app (L ++ [(x, mm)]) (mm + 1) R).filter p = q_app (L.filter p ++ [(x, mm)]) (mm + 1) R
    rw [app_filter R _ _ (fun y hy => h y (List.mem_cons_of_mem _ hy)), List.filter_append, List.filter_cons, if_pos (h x List.mem_cons_self mm)]
    rfl
theorem res_no {c d w : Int32} : k_res c d w &&& w = 0 := by
  apply bt_zero.mpr
  intro i hi
  unfold k_res
  rw [b_and, b_and, bt_not _ hi]
  cases bt w i <;> simp
theorem mg1_all {L : List cC} {x v : Int32} {p : Int32 → Prop} (hp : ∀ c d : Int32, p (k_res c d (k_both v))) : ∀ (f d : Nat) (R : List Int32), (∀ y ∈ R, p y) → ∀ y ∈ m_g1 L x v f d R, p y
  | 0, _, _, h => h
  | f + 1, d, R, h => by
    show ∀ y ∈ (if ¬ x &&& k_pos v = 0 ∧ ¬ q_set L d &&& k_neg v = 0 ∧ L.length + R.length < 90 ∧ q_can L (k_res x (q_set L d) (k_both v)) = true ∧ k_res x (q_set L d) (k_both v) ∉ R
      then m_g1 L x v f (d + 1) (R ++ [k_res x (q_set L d) (k_both v)]) else m_g1 L x v f (d + 1) R), p y
    split
    · refine mg1_all hp f (d + 1) _ (fun y hy => ?_)
      rcases List.mem_append.mp hy with z | z
      · exact h y z
      · rw [List.mem_singleton.mp z]; exact hp _ _
    · exact mg1_all hp f (d + 1) R h
theorem mg2_all {L : List cC} {v : Int32} {p : Int32 → Prop} (hp : ∀ c d : Int32, p (k_res c d (k_both v))) : ∀ (f c : Nat) (R : List Int32), (∀ y ∈ R, p y) → ∀ y ∈ m_g2 L v f c R, p y
  | 0, _, _, h => h
  | f + 1, c, R, h => mg2_all hp f (c + 1) _ (mg1_all hp _ _ _ h)
theorem mg1_len {L : List cC} {x v : Int32} : ∀ (f d : Nat) (R : List Int32), L.length + R.length ≤ 90 → L.length + (m_g1 L x v f d R).length ≤ 90
  | 0, _, _, h => h
  | f + 1, d, R, h => by
    show L.length + (if ¬ x &&& k_pos v = 0 ∧ ¬ q_set L d &&& k_neg v = 0 ∧ L.length + R.length < 90 ∧ q_can L (k_res x (q_set L d) (k_both v)) = true ∧ k_res x (q_set L d) (k_both v) ∉ R
      then m_g1 L x v f (d + 1) (R ++ [k_res x (q_set L d) (k_both v)]) else m_g1 L x v f (d + 1) R).length ≤ 90
    split
    · rename_i hc
      exact mg1_len f (d + 1) _ (by rw [List.length_append]; show L.length + (R.length + 1) ≤ 90; omega)
    · exact mg1_len f (d + 1) R h
-- the class's gathering against the reference's
def g_rel (most : Nat) (o : Option (List Int32)) (R : List Int32) : Prop := (o = some R ∧ R.length ≤ most) ∨ (o = none ∧ most < R.length)
theorem mg1_grow {L : List cC} {x v : Int32} : ∀ (f d : Nat) (R : List Int32), R.length ≤ (m_g1 L x v f d R).length
  | 0, _, _ => Nat.le_refl _
  | f + 1, d, R => by
    show R.length ≤ (if ¬ x &&& k_pos v = 0 ∧ ¬ q_set L d &&& k_neg v = 0 ∧ L.length + R.length < 90 ∧ q_can L (k_res x (q_set L d) (k_both v)) = true ∧ k_res x (q_set L d) (k_both v) ∉ R
      then m_g1 L x v f (d + 1) (R ++ [k_res x (q_set L d) (k_both v)]) else m_g1 L x v f (d + 1) R).length
    split
    · have := mg1_grow (L := L) (x := x) (v := v) f (d + 1) (R ++ [k_res x (q_set L d) (k_both v)])
      rw [List.length_append] at this
      omega
    · exact mg1_grow f (d + 1) R
theorem mg2_grow {L : List cC} {v : Int32} : ∀ (f c : Nat) (R : List Int32), R.length ≤ (m_g2 L v f c R).length
  | 0, _, _ => Nat.le_refl _
  | f + 1, c, R => Nat.le_trans (mg1_grow _ _ _) (mg2_grow f (c + 1) _)
theorem mg1_zero {L : List cC} {x v : Int32} (hx : x &&& k_pos v = 0) : ∀ (f d : Nat) (R : List Int32), m_g1 L x v f d R = R
  | 0, _, _ => rfl
  | f + 1, d, R => by
    show (if ¬ x &&& k_pos v = 0 ∧ ¬ q_set L d &&& k_neg v = 0 ∧ L.length + R.length < 90 ∧ q_can L (k_res x (q_set L d) (k_both v)) = true ∧ k_res x (q_set L d) (k_both v) ∉ R
      then m_g1 L x v f (d + 1) (R ++ [k_res x (q_set L d) (k_both v)]) else m_g1 L x v f (d + 1) R) = R
    rw [if_neg (fun z => z.1 hx)]
    exact mg1_zero hx f (d + 1) R
theorem g1_rel {L : List cC} {x v : Int32} {most : Nat} (hL : L.length ≤ 40) (hm : most ≤ 40) (hx : ¬ x &&& k_pos v = 0) : ∀ (f d : Nat) (R : List Int32), R.length ≤ most → g_rel most (q_g1 L x v most f d R) (m_g1 L x v f d R)
  | 0, _, R, h => Or.inl ⟨rfl, h⟩
  | f + 1, d, R, h => by
    show g_rel most (if q_set L d &&& k_neg v = 0 then q_g1 L x v most f (d + 1) R
      else if q_can L (k_res x (q_set L d) (k_both v)) = true ∧ k_res x (q_set L d) (k_both v) ∉ R then
        (if R.length < most then q_g1 L x v most f (d + 1) (R ++ [k_res x (q_set L d) (k_both v)]) else none)
      else q_g1 L x v most f (d + 1) R) (if ¬ x &&& k_pos v = 0 ∧ ¬ q_set L d &&& k_neg v = 0 ∧ L.length + R.length < 90 ∧ q_can L (k_res x (q_set L d) (k_both v)) = true ∧ k_res x (q_set L d) (k_both v) ∉ R
      then m_g1 L x v f (d + 1) (R ++ [k_res x (q_set L d) (k_both v)]) else m_g1 L x v f (d + 1) R)
    by_cases h1 : q_set L d &&& k_neg v = 0
    · rw [if_pos h1, if_neg (fun z => z.2.1 h1)]
      exact g1_rel hL hm hx f (d + 1) R h
    · rw [if_neg h1]
      by_cases h2 : q_can L (k_res x (q_set L d) (k_both v)) = true ∧ k_res x (q_set L d) (k_both v) ∉ R
      · rw [if_pos h2, if_pos (show ¬ x &&& k_pos v = 0 ∧ ¬ q_set L d &&& k_neg v = 0 ∧ L.length + R.length < 90 ∧ q_can L (k_res x (q_set L d) (k_both v)) = true ∧ k_res x (q_set L d) (k_both v) ∉ R from ⟨hx, h1, by omega, h2⟩)]
        by_cases h3 : R.length < most
        · rw [if_pos h3]
          exact g1_rel hL hm hx f (d + 1) _ (by rw [List.length_append]; exact h3)
        · rw [if_neg h3]
          refine Or.inr ⟨rfl, ?_⟩
          have := mg1_grow (L := L) (x := x) (v := v) f (d + 1) (R ++ [k_res x (q_set L d) (k_both v)])
          rw [List.length_append] at this
          have e : [k_res x (q_set L d) (k_both v)].length = 1 := rfl
          omega
      · rw [if_neg h2, if_neg (fun z => h2 z.2.2.2)]
        exact g1_rel hL hm hx f (d + 1) R h
theorem g2_rel {L : List cC} {v : Int32} {most : Nat} (hL : L.length ≤ 40) (hm : most ≤ 40) : ∀ (f c : Nat) (R : List Int32), R.length ≤ most → g_rel most (q_g2 L v most f c R) (m_g2 L v f c R)
  | 0, _, R, h => Or.inl ⟨rfl, h⟩
  | f + 1, c, R, h => by
    show g_rel most (if q_set L c &&& k_pos v = 0 then q_g2 L v most f (c + 1) R
      else match q_g1 L (q_set L c) v most L.length 0 R with
        | none => none
        | some R1 => q_g2 L v most f (c + 1) R1) (m_g2 L v f (c + 1) (m_g1 L (q_set L c) v L.length 0 R))
    by_cases h1 : q_set L c &&& k_pos v = 0
    · rw [if_pos h1, mg1_zero h1]
      exact g2_rel hL hm f (c + 1) R h
    · rw [if_neg h1]
      rcases g1_rel hL hm h1 L.length 0 R h with ⟨e, hl⟩ | ⟨e, hl⟩
      · rw [e]
        exact g2_rel hL hm f (c + 1) _ hl
      · rw [e]
        exact Or.inr ⟨rfl, Nat.lt_of_lt_of_le hl (mg2_grow _ _ _)⟩
theorem app_rd {L : List cC} {R : List Int32} {mm : Int32} {n k : Nat} {f g : Nat → Int32} (h : cl_of n f g = q_app L mm R) (hk : k < L.length) : k < n ∧ f k = q_set L k := by
  have hl := congrArg List.length h
  rw [cl_of_len, app_len] at hl
  have hn : k < n := by omega
  have e : (cl_of n f g)[k]? = L[k]? := by rw [h, app_get R L mm hk]
  rw [show (cl_of n f g)[k]? = some (f k, g k) from cl_get hn] at e
  exact ⟨hn, ((q_set_get e.symm).1).symm⟩
theorem cl_trunc {n m : Nat} {f g : Nat → Int32} {L : List cC} {R : List Int32} {mm : Int32} (h : cl_of n f g = q_app L mm R) (hm : L.length = m) : cl_of m f g = L := by
  apply cl_ext
  · rw [cl_of_len, hm]
  · intro k hk
    rw [cl_of_len] at hk
    have e : (cl_of n f g)[k]? = L[k]? := by rw [h, app_get R L mm (by omega)]
    have hl := congrArg List.length h
    rw [cl_of_len, app_len] at hl
    rw [show (cl_of n f g)[k]? = some (f k, g k) from cl_get (by omega)] at e
    rw [show (cl_of m f g)[k]? = some (f k, g k) from cl_get hk, e]
theorem mg2_len {L : List cC} {v : Int32} : ∀ (f c : Nat) (R : List Int32), L.length + R.length ≤ 90 → L.length + (m_g2 L v f c R).length ≤ 90
  | 0, _, _, h => h
  | f + 1, c, R, h => mg2_len f (c + 1) _ (mg1_len _ _ _ h)
