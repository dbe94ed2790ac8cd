/-! The reference's turns: pure rows. -/
theorem sl_self (x : Int32) : k_sl x x = 0 := by
  have e : x &&& k_not x = 0 := by
    apply bt_zero.mpr
    intro i hi
    rw [b_and, bt_not _ hi]
    cases bt x i <;> rfl
  unfold k_sl
  rw [e, if_neg (by decide)]
theorem agr_0 {c d : Int32} (hc : k_ok c ∧ k_nt c) (hd : k_ok d ∧ k_nt d) (h : k_sl c d = 0) : m_agr c d = 0 := by
  unfold m_agr
  cases hq : q_up (fun v => m_ag c d (nI v)) (11 - 1) 1 with
  | none => rfl
  | some v =>
    obtain ⟨h1, h2, h3⟩ := q_up_some hq
    obtain ⟨e1, e2⟩ := m_ag_sl hc.1 hc.2 hd.1 hd.2 (v := v) (by omega) (by omega) h3
    rw [h] at e1
    exact absurd e1.symm e2
theorem agr_v {c d : Int32} (hc : k_ok c ∧ k_nt c) (hd : k_ok d ∧ k_nt d) (h : ¬ k_sl c d = 0) : ∃ v, 1 ≤ v ∧ v ≤ 10 ∧ m_agr c d = nI v ∧ k_sl c d = c &&& k_both (nI v) := by
  obtain ⟨v, h1, h2, h3⟩ := sl_m_ag hc.1 hc.2 hd.1 hd.2 h
  unfold m_agr
  cases hq : q_up (fun v => m_ag c d (nI v)) (11 - 1) 1 with
  | none =>
    have := q_up_none hq v (by omega) (by omega)
    rw [h3] at this
    cases this
  | some w =>
    obtain ⟨g1, g2, g3⟩ := q_up_some hq
    exact ⟨w, by omega, by omega, rfl, (m_ag_sl hc.1 hc.2 hd.1 hd.2 (v := w) (by omega) (by omega) g3).1⟩
theorem agr_le {c d : Int32} (hc : k_ok c ∧ k_nt c) (hd : k_ok d ∧ k_nt d) : m_agr c d ≤ 0 ↔ k_sl c d = 0 := by
  constructor
  · intro h
    refine Classical.byContradiction fun hn => ?_
    obtain ⟨v, h1, h2, h3, -⟩ := agr_v hc hd hn
    rw [h3] at h
    exact absurd h (nI_nle (by omega) (by omega))
  · intro h
    rw [agr_0 hc hd h]
    decide
theorem sing_pc {x : Int32} (h : k_ok x) : k_sing x = decide (nI (k_pc x) = 1) := by
  unfold k_sing
  rw [k_bc_pc h]
/-- x is the set of the literal y alone -/
def isl (x y : Int32) : Prop := ∃ v : Nat, 1 ≤ v ∧ v ≤ 10 ∧ ((x = k_pos (nI v) ∧ y = nI v) ∨ (x = k_neg (nI v) ∧ y = -(nI v)))
theorem isl_of {x : Int32} (h : k_ok x) (hs : k_sing x = true) : ∃ y, isl x y := by
  obtain ⟨j, h1, h2⟩ := (k_sing_iff h).mp hs
  have hj := h j h1
  by_cases hl : j ≤ 10
  · refine ⟨nI j, j, by omega, hl, Or.inl ⟨?_, rfl⟩⟩
    apply b_ext
    intro i hi
    rw [bt_pos j (by omega) i hi]
    by_cases e : i = j
    · rw [e, h1]; simp
    · rw [decide_eq_false e]
      cases hb : bt x i with
      | false => rfl
      | true => exact absurd (h2 i hb) e
  · refine ⟨-(nI (j - 16)), j - 16, by omega, by omega, Or.inr ⟨?_, rfl⟩⟩
    apply b_ext
    intro i hi
    rw [bt_neg (j - 16) (by omega) i hi]
    by_cases e : i = j
    · rw [e, h1, decide_eq_true (by omega)]
    · rw [decide_eq_false (by omega)]
      cases hb : bt x i with
      | false => rfl
      | true => exact absurd (h2 i hb) e
theorem con_pos : ∀ v, v < 11 → 1 ≤ v → k_con (k_pos (nI v)) = k_neg (nI v) := by decide +kernel
theorem con_neg : ∀ v, v < 11 → 1 ≤ v → k_con (k_neg (nI v)) = k_pos (nI v) := by decide +kernel
theorem isl_bit {x y : Int32} (h : isl x y) : m_bit y = x := by
  obtain ⟨v, h1, h2, ⟨e1, e2⟩ | ⟨e1, e2⟩⟩ := h
  · rw [e1, e2, m_bit_pos v (by omega) h1]
  · rw [e1, e2, m_bit_neg v (by omega) h1]
theorem isl_con {x y : Int32} (h : isl x y) : m_bit (-y) = k_con x := by
  obtain ⟨v, h1, h2, ⟨e1, e2⟩ | ⟨e1, e2⟩⟩ := h
  · rw [e1, e2, con_pos v (by omega) h1, m_bit_neg v (by omega) h1]
  · rw [e1, e2, Int32.neg_neg, con_neg v (by omega) h1, m_bit_pos v (by omega) h1]
theorem kX1_only (l : Launch) (x y : Int32) (h : isl x y) : xs_M l yX1_only wsX1_only ({ frames := 1, cells := 0, slots := 0, locals := 20 }) [.int x] y := by
  obtain ⟨v, h1, h2, ⟨e1, e2⟩ | ⟨e1, e2⟩⟩ := h
  · subst e1; subst e2; exact kX1_only_p l v h1 h2
  · subst e1; subst e2; exact kX1_only_n l v h1 h2
/-- which literal of v a set without both has -/
theorem mine_lit {c : Int32} (nc : k_nt c) {v : Nat} (h1 : 1 ≤ v) (h2 : v ≤ 10) (h : c &&& k_both (nI v) ≠ 0) : m_bit (if c &&& m_bit (nI v) = 0 then -(nI v) else nI v) = c &&& k_both (nI v) := by
  rw [m_bit_pos v (by omega) h1]
  have hb : ∀ i, i < 32 → bt (c &&& k_both (nI v)) i = (bt c i && (decide (i = v) || decide (i = v + 16))) := fun i hi => bt_and_both (by omega) hi
  rcases mine_one nc (by omega) h with ⟨c1, c2⟩ | ⟨c1, c2⟩
  · rw [if_neg (fun z => by
      have := bt_zero.mp z v (by omega)
      rw [b_and, c1, bt_pos v (by omega) v (by omega)] at this
      simp at this), m_bit_pos v (by omega) h1]
    apply b_ext
    intro i hi
    rw [hb i hi, bt_pos v (by omega) i hi]
    by_cases e1 : i = v
    · subst e1; simp [c1]
    · by_cases e2 : i = v + 16
      · subst e2; simp [c2]
      · simp [e1, e2]
  · rw [if_pos (bt_zero.mpr fun i hi => by
      rw [b_and, bt_pos v (by omega) i hi]
      by_cases e : i = v
      · subst e; rw [c1]; rfl
      · rw [decide_eq_false e, Bool.and_false]), m_bit_neg v (by omega) h1]
    apply b_ext
    intro i hi
    rw [hb i hi, bt_neg v (by omega) i hi]
    by_cases e1 : i = v
    · subst e1; simp [c1]
    · by_cases e2 : i = v + 16
      · subst e2; simp [c2]
      · simp [e1, e2]
theorem m_res_eq {c d : Int32} {v : Nat} (h1 : 1 ≤ v) (h2 : v ≤ 10) : m_res c d (nI v) = k_res c d (k_both (nI v)) := by
  unfold m_res k_res
  rw [mb_both v (by omega) h1]
theorem k_ok_res {c d w : Int32} (hc : k_ok c) (hd : k_ok d) : k_ok (k_res c d w) := k_ok_and (k_ok_or hc hd)
theorem bl_iff {L : List cC} {x : Int32} : q_bl L x = 0 ↔ q_blv L x = none := by
  unfold q_bl
  cases hq : q_blv L x with
  | none => exact ⟨fun _ => rfl, fun _ => rfl⟩
  | some v =>
    obtain ⟨h1, h2, h3⟩ := q_up_some hq
    rw [Bool.and_eq_true_iff] at h3
    exact ⟨fun z => absurd z (by simpa using h3.1), fun z => nomatch z⟩
-- removing from the last to the first
theorem dn_keep {L : List cC} {p : cC → Bool} {i : Nat} (hi : i < L.length) (hp : p (q_set L i, q_num L i) = true) : L.take (i + 1) ++ (L.drop (i + 1)).filter p = L.take i ++ (L.drop i).filter p := by
  have e := q_get_set hi
  have e2 : L[i] = (q_set L i, q_num L i) := by
    rw [List.getElem?_eq_getElem hi] at e
    exact Option.some.inj e
  rw [List.drop_eq_getElem_cons hi, List.filter_cons, e2, if_pos hp, List.take_succ_eq_append_getElem hi, e2]
  simp
theorem dn_drop {L : List cC} {p : cC → Bool} {i : Nat} (hi : i < L.length) (hp : p (q_set L i, q_num L i) = false) : (L.take (i + 1) ++ (L.drop (i + 1)).filter p).eraseIdx i = L.take i ++ (L.drop i).filter p := by
  have e := q_get_set hi
  have e2 : L[i] = (q_set L i, q_num L i) := by
    rw [List.getElem?_eq_getElem hi] at e
    exact Option.some.inj e
  have hl : (L.take i).length = i := by rw [List.length_take]; omega
  rw [List.drop_eq_getElem_cons hi, List.filter_cons, e2, if_neg (by rw [hp]; exact Bool.false_ne_true), List.take_succ_eq_append_getElem hi, List.append_assoc, List.eraseIdx_append_of_length_le (by omega), hl, Nat.sub_self]
  rfl
theorem dn_rd {L : List cC} {p : cC → Bool} {i n : Nat} {f g : Nat → Int32} (hi : i < L.length) (h : cl_of n f g = L.take (i + 1) ++ (L.drop (i + 1)).filter p) : i < n ∧ f i = q_set L i ∧ g i = q_num L i := by
  have hl := congrArg List.length h
  rw [cl_of_len, List.length_append, List.length_take] at hl
  have hn : i < n := by omega
  have e : (cl_of n f g)[i]? = (L.take (i + 1) ++ (L.drop (i + 1)).filter p)[i]? := by rw [h]
  rw [show (cl_of n f g)[i]? = some (f i, g i) from cl_get hn, List.getElem?_append_left (by rw [List.length_take]; omega), List.getElem?_take_of_lt (by omega), q_get_set hi] at e
  have e3 := Option.some.inj e
  exact ⟨hn, congrArg Prod.fst e3, congrArg Prod.snd e3⟩
-- taking from all: how many have it
def cf (b : Int32) (L : List cC) : Nat := (L.filter (fun c => (c.1 &&& b) != 0)).length
theorem cf_le (b : Int32) (L : List cC) : cf b L ≤ L.length := List.length_filter_le _ _
theorem cf_cons (b : Int32) (a : cC) (L : List cC) : cf b (a :: L) = (if a.1 &&& b = 0 then 0 else 1) + cf b L := by
  unfold cf
  rw [List.filter_cons]
  by_cases h : a.1 &&& b = 0
  · rw [if_neg (by simp [h]), if_pos h]; omega
  · rw [if_pos (by simp [h]), if_neg h, List.length_cons]; omega
theorem cf_set {b : Int32} : ∀ {L : List cC} {k : Nat} {c : cC}, k < L.length → ¬ q_set L k &&& b = 0 → c.1 &&& b = 0 → cf b (L.set k c) + 1 = cf b L
  | [], _, _, h, _, _ => by cases h
  | a :: L, 0, c, _, h1, h2 => by
    have h1' : ¬ a.1 &&& b = 0 := h1
    rw [List.set_cons_zero, cf_cons, cf_cons, if_pos h2, if_neg h1']
    omega
  | a :: L, k + 1, c, h, h1, h2 => by
    have := cf_set (L := L) (k := k) (c := c) (by simpa using h) h1 h2
    rw [List.set_cons_succ, cf_cons, cf_cons]
    omega
theorem cf_erase {b : Int32} : ∀ {L : List cC} {k : Nat}, cf b (L.eraseIdx k) ≤ cf b L
  | [], _ => Nat.le_refl _
  | a :: L, 0 => by
    show cf b L ≤ cf b (a :: L)
    rw [cf_cons]
    omega
  | a :: L, k + 1 => by
    have := cf_erase (b := b) (L := L) (k := k)
    show cf b (a :: L.eraseIdx k) ≤ cf b (a :: L)
    rw [cf_cons, cf_cons]
    omega
theorem cf_take {b : Int32} {L : List cC} {k : Nat} (h : k < L.length) (h1 : ¬ q_set L k &&& b = 0) : cf b (q_take L k b) < cf b L := by
  have h2 : (q_set L k &&& k_not b) &&& b = 0 := by
    apply bt_zero.mpr
    intro i hi
    rw [b_and, b_and, bt_not _ hi]
    cases bt b i <;> simp
  have e := cf_set (c := (q_set L k &&& k_not b, q_num L k)) h h1 h2
  unfold q_take
  cases hq : q_find L (q_set L k &&& k_not b) with
  | none => dsimp only; omega
  | some o =>
    have := cf_erase (b := b) (L := L.set k (q_set L k &&& k_not b, q_num L k)) (k := max k o)
    dsimp only
    omega
theorem frst_some {L : List cC} {b : Int32} {j : Nat} (hj : j < L.length) (h1 : ∀ i, i < j → q_set L i &&& b = 0) (h2 : ¬ q_set L j &&& b = 0) : q_frst L b = some j := by
  have key : ∀ k, k ≤ j → q_up (fun k => (q_set L k &&& b) != 0) (L.length - 0) 0 = q_up (fun k => (q_set L k &&& b) != 0) (L.length - k) k := by
    intro k
    induction k with
    | zero => intro _; rfl
    | succ k ih => intro hk; rw [ih (by omega), q_up_f (by omega) (by simp [h1 k (by omega)])]
  show q_up (fun k => (q_set L k &&& b) != 0) (L.length - 0) 0 = some j
  rw [key j (Nat.le_refl _), q_up_t hj (by simp [h2])]
theorem frst_none {L : List cC} {b : Int32} (h1 : ∀ i, i < L.length → q_set L i &&& b = 0) : q_frst L b = none := by
  cases hq : q_frst L b with
  | none => rfl
  | some k =>
    obtain ⟨g1, g2, g3⟩ := q_up_some hq
    rw [h1 k (by omega)] at g3
    simp at g3
theorem tfa_s {b : Int32} {f k : Nat} {L : List cC} (h : q_frst L b = some k) : q_tfa b (f + 1) L = q_tfa b f (q_take L k b) := by
  show (match q_frst L b with
      | none => L
      | some k => q_tfa b f (q_take L k b)) = _
  rw [h]
