/-! Literals: the class's way and the reference's way say the same. -/
def k_sing (x : Int32) : Bool := decide (k_bc x = 1)
def k_sl (c d : Int32) : Int32 := if k_sing (d &&& k_not c) then k_con (d &&& k_not c) &&& c else 0
theorem q_ct_0 {p : Nat → Bool} : ∀ {f k : Nat}, (∀ i, k ≤ i → i < k + f → p i = false) → ∀ a, q_ct p f k a = a
  | 0, _, _, _ => rfl
  | f + 1, k, h, a => by
    show q_ct p f (k + 1) (if p k then a + 1 else a) = a
    rw [if_neg (by rw [h k (Nat.le_refl _) (by omega)]; exact Bool.false_ne_true)]
    exact q_ct_0 (fun i h1 h2 => h i (by omega) (by omega)) a
theorem q_ct_z {p : Nat → Bool} : ∀ {f k : Nat}, q_ct p f k 0 = 0 → ∀ i, k ≤ i → i < k + f → p i = false
  | 0, _, _, i, h1, h2 => by omega
  | f + 1, k, h, i, h1, h2 => by
    have h' : q_ct p f (k + 1) (if p k then 0 + 1 else 0) = 0 := h
    by_cases hp : p k = true
    · rw [if_pos hp, q_ct_acc] at h'
      omega
    · rw [if_neg hp] at h'
      by_cases hi : i = k
      · subst hi
        exact Bool.eq_false_iff.mpr hp
      · exact q_ct_z h' i (by omega) (by omega)
theorem q_ct_1 {p : Nat → Bool} : ∀ {f k : Nat}, q_ct p f k 0 = 1 → ∃ j, k ≤ j ∧ j < k + f ∧ p j = true ∧ ∀ i, k ≤ i → i < k + f → p i = true → i = j
  | 0, _, h => by cases h
  | f + 1, k, h => by
    have h' : q_ct p f (k + 1) (if p k then 0 + 1 else 0) = 1 := h
    by_cases hp : p k = true
    · rw [if_pos hp, q_ct_acc] at h'
      have hz := q_ct_z (p := p) (f := f) (k := k + 1) (by omega)
      refine ⟨k, Nat.le_refl _, by omega, hp, fun i h1 h2 hi => ?_⟩
      refine Classical.byContradiction fun hn => ?_
      rw [hz i (by omega) (by omega)] at hi
      cases hi
    · rw [if_neg hp] at h'
      obtain ⟨j, j1, j2, j3, j4⟩ := q_ct_1 h'
      refine ⟨j, by omega, by omega, j3, fun i h1 h2 hi => ?_⟩
      by_cases hik : i = k
      · subst hik
        exact absurd hi hp
      · exact j4 i (by omega) (by omega) hi
theorem q_ct_one {p : Nat → Bool} {f k j : Nat} (h1 : k ≤ j) (h2 : j < k + f) (hj : p j = true) (hu : ∀ i, k ≤ i → i < k + f → p i = true → i = j) : q_ct p f k 0 = 1 := by
  obtain ⟨g, hg⟩ : ∃ g, f = (j - k) + (1 + g) := ⟨k + f - j - 1, by omega⟩
  have no : ∀ i, k ≤ i → i < k + f → i ≠ j → p i = false := fun i a b hn => by
    cases hc : p i with
    | false => rfl
    | true => exact absurd (hu i a b hc) hn
  have a1 : q_ct p (j - k) k 0 = 0 := q_ct_0 (fun i a b => no i a (by omega) (by omega)) 0
  have a2 : q_ct p g (j + 1) 1 = 1 := q_ct_0 (fun i a b => no i (by omega) (by omega) (by omega)) 1
  rw [hg, q_ct_app p (j - k) (1 + g) k 0, a1, show k + (j - k) = j by omega, q_ct_app p 1 g j 0]
  show q_ct p g (j + 1) (if p j then 0 + 1 else 0) = 1
  rw [if_pos hj]
  exact a2
theorem nI_one {n : Nat} (h : n < 2 ^ 31) : nI n = 1 ↔ n = 1 := nI_eq h (by decide)
theorem k_pc_le (x : Int32) : k_pc x ≤ 32 := by
  have := q_ct_le (p := fun i => bt x i) 32 0 0
  unfold k_pc
  omega
/-- one bit alone -/
theorem k_sing_iff {x : Int32} (h : k_ok x) : k_sing x = true ↔ ∃ j, bt x j = true ∧ ∀ i, bt x i = true → i = j := by
  unfold k_sing
  rw [decide_eq_true_iff, k_bc_pc h, nI_one (Nat.lt_of_le_of_lt (k_pc_le x) (by decide))]
  constructor
  · intro e
    obtain ⟨j, -, -, j3, j4⟩ := q_ct_1 e
    refine ⟨j, j3, fun i hi => j4 i (Nat.zero_le _) ?_ hi⟩
    have := h i hi
    omega
  · intro ⟨j, j1, j2⟩
    have := h j j1
    exact q_ct_one (Nat.zero_le _) (by omega) j1 (fun i _ _ hi => j2 i hi)
theorem bt_lt {x : Int32} {i : Nat} (h : bt x i = true) : i < 32 := Classical.byContradiction fun hn => by rw [b_big (by omega)] at h; cases h
theorem bt_both {v : Nat} (hv : v < 11) {i : Nat} (hi : i < 32) : bt (k_both (nI v)) i = (decide (i = v) || decide (i = v + 16)) := by
  unfold k_both
  rw [b_or, bt_pos v hv i hi, bt_neg v hv i hi]
/-- d takes a literal of v from c: the reference's test -/
def m_ag (c d v : Int32) : Bool := (decide (c &&& k_both v ≠ 0) && decide (d &&& k_both v ≠ 0) && decide (c &&& k_both v ≠ d &&& k_both v)) && decide (d &&& k_not (k_both v) &&& k_not c = 0)
theorem bt_and_both {c : Int32} {v : Nat} (hv : v < 11) {i : Nat} (hi : i < 32) : bt (c &&& k_both (nI v)) i = (bt c i && (decide (i = v) || decide (i = v + 16))) := by rw [b_and, bt_both hv hi]
theorem both_ne {c : Int32} {v : Nat} (hv : v < 11) : c &&& k_both (nI v) ≠ 0 ↔ bt c v = true ∨ bt c (v + 16) = true := by
  rw [bt_ne]
  constructor
  · intro ⟨i, hi, h⟩
    rw [bt_and_both hv hi, Bool.and_eq_true_iff, Bool.or_eq_true_iff, decide_eq_true_iff, decide_eq_true_iff] at h
    rcases h.2 with e | e
    · exact Or.inl (e ▸ h.1)
    · exact Or.inr (e ▸ h.1)
  · intro h
    rcases h with h | h
    · exact ⟨v, by omega, by rw [bt_and_both hv (by omega), h]; simp⟩
    · exact ⟨v + 16, by omega, by rw [bt_and_both hv (by omega), h]; simp⟩
theorem both_eq {c d : Int32} {v : Nat} (hv : v < 11) : c &&& k_both (nI v) = d &&& k_both (nI v) ↔ bt c v = bt d v ∧ bt c (v + 16) = bt d (v + 16) := by
  constructor
  · intro h
    have e1 := congrArg (fun x => bt x v) h
    have e2 := congrArg (fun x => bt x (v + 16)) h
    simp only [bt_and_both hv (show v < 32 by omega), bt_and_both hv (show v + 16 < 32 by omega)] at e1 e2
    simp at e1 e2
    exact ⟨e1, e2⟩
  · intro ⟨e1, e2⟩
    apply b_ext
    intro i hi
    rw [bt_and_both hv hi, bt_and_both hv hi]
    by_cases h1 : i = v
    · subst h1
      rw [e1]
    · by_cases h2 : i = v + 16
      · subst h2
        rw [e2]
      · simp [h1, h2]
theorem rest_zero {c d : Int32} {v : Nat} (hv : v < 11) : d &&& k_not (k_both (nI v)) &&& k_not c = 0 ↔ ∀ i, i < 32 → i ≠ v → i ≠ v + 16 → bt d i = true → bt c i = true := by
  rw [bt_zero]
  constructor
  · intro h i hi h1 h2 hd
    have := h i hi
    rw [b_and, b_and, bt_not _ hi, bt_not _ hi, bt_both hv hi, hd] at this
    simp [h1, h2] at this
    exact this
  · intro h i hi
    rw [b_and, b_and, bt_not _ hi, bt_not _ hi, bt_both hv hi]
    by_cases h1 : i = v
    · simp [h1]
    · by_cases h2 : i = v + 16
      · simp [h2]
      · cases hd : bt d i with
        | false => simp
        | true => simp [h i hi h1 h2 hd]
theorem m_ag_sl {c d : Int32} (hc : k_ok c) (nc : k_nt c) (hd : k_ok d) (nd : k_nt d) {v : Nat} (h1 : 1 ≤ v) (h2 : v ≤ 10) (h : m_ag c d (nI v) = true) : k_sl c d = c &&& k_both (nI v) ∧ c &&& k_both (nI v) ≠ 0 := by
  have hv : v < 11 := by omega
  unfold m_ag at h
  simp only [Bool.and_eq_true_iff, decide_eq_true_iff] at h
  obtain ⟨⟨⟨a1, a2⟩, a3⟩, a4⟩ := h
  refine ⟨?_, a1⟩
  rw [both_ne hv] at a1 a2
  rw [Ne, both_eq hv] at a3
  rw [rest_zero hv] at a4
  have nf : ∀ {x : Int32}, k_nt x → bt x v = true → bt x (v + 16) = false := fun {x} nx h => by
    cases hb : bt x (v + 16) with
    | false => rfl
    | true => exact (nx v h (by rw [Nat.add_comm]; exact hb)).elim
  have ng : ∀ {x : Int32}, k_nt x → bt x (v + 16) = true → bt x v = false := fun {x} nx h => by
    cases hb : bt x v with
    | false => rfl
    | true => exact (nx v hb (by rw [Nat.add_comm]; exact h)).elim
  -- the two cases: which literal c has
  have key : ∃ j j', ((j = v ∧ j' = v + 16) ∨ (j = v + 16 ∧ j' = v)) ∧ bt c j = true ∧ bt d j' = true ∧ bt c j' = false ∧ bt d j = false := by
    rcases a1 with c1 | c2
    · have c2 := nf nc c1
      rcases a2 with d1 | d2
      · have d2 := nf nd d1
        exact absurd ⟨by rw [c1, d1], by rw [c2, d2]⟩ a3
      · exact ⟨v, v + 16, Or.inl ⟨rfl, rfl⟩, c1, d2, c2, ng nd d2⟩
    · have c1 := ng nc c2
      rcases a2 with d1 | d2
      · exact ⟨v + 16, v, Or.inr ⟨rfl, rfl⟩, c2, d1, c1, nf nd d1⟩
      · have d1 := ng nd d2
        exact absurd ⟨by rw [c1, d1], by rw [c2, d2]⟩ a3
  obtain ⟨j, j', hjj, cj, dj, cj', dj'⟩ := key
  have hj : j < 32 := bt_lt cj
  have hj' : j' < 32 := bt_lt dj
  have miss : ∀ i, i < 32 → bt (d &&& k_not c) i = decide (i = j') := by
    intro i hi
    rw [b_and, bt_not _ hi]
    by_cases e1 : i = j'
    · subst e1
      rw [dj, cj']
      simp
    · rw [decide_eq_false e1]
      by_cases e2 : i = j
      · subst e2
        rw [dj']
        rfl
      · cases hdi : bt d i with
        | false => rfl
        | true =>
          rw [a4 i hi (by omega) (by omega) hdi]
          rfl
  have hs : k_sing (d &&& k_not c) = true := (k_sing_iff (k_ok_and hd)).mpr ⟨j', by rw [miss j' hj']; simp, fun i hi => by
    rw [miss i (bt_lt hi)] at hi
    exact of_decide_eq_true hi⟩
  unfold k_sl
  rw [if_pos hs]
  apply b_ext
  intro i hi
  have m1 : bt (d &&& k_not c) (16 + i) = decide (16 + i = j') := by
    by_cases hb : 16 + i < 32
    · exact miss _ hb
    · rw [b_big (by omega), decide_eq_false (by omega)]
  have con : ((decide (16 ≤ i) && bt (d &&& k_not c) (i - 16)) || bt (d &&& k_not c) (16 + i)) = decide (i = j) := by
    rw [miss _ (by omega), m1, Bool.eq_iff_iff]
    simp only [Bool.or_eq_true, Bool.and_eq_true, decide_eq_true_eq]
    omega
  rw [b_and, bt_con _ hi, bt_and_both hv hi, con, Bool.eq_iff_iff]
  simp only [Bool.or_eq_true, Bool.and_eq_true, decide_eq_true_eq]
  constructor
  · intro h
    exact ⟨h.2, by omega⟩
  · intro h
    refine ⟨Classical.byContradiction fun hn => ?_, h.1⟩
    have e : i = j' := by omega
    have h1 := h.1
    rw [e, cj'] at h1
    cases h1
theorem sl_m_ag {c d : Int32} (hc : k_ok c) (nc : k_nt c) (hd : k_ok d) (nd : k_nt d) (h : k_sl c d ≠ 0) : ∃ v, 1 ≤ v ∧ v ≤ 10 ∧ m_ag c d (nI v) = true := by
  unfold k_sl at h
  by_cases hs : k_sing (d &&& k_not c) = true
  · rw [if_pos hs] at h
    obtain ⟨j, j1, j2⟩ := (k_sing_iff (k_ok_and hd)).mp hs
    obtain ⟨i, hi, h⟩ := bt_ne.mp h
    rw [b_and, bt_con _ hi, Bool.and_eq_true_iff, Bool.or_eq_true_iff, Bool.and_eq_true_iff, decide_eq_true_iff] at h
    have hj := k_ok_and hd j j1
    have hj32 := bt_lt j1
    have dj : bt d j = true ∧ bt c j = false := by
      have j9 := j1
      rw [b_and, bt_not _ hj32, Bool.and_eq_true_iff] at j9
      exact ⟨j9.1, by simpa using j9.2⟩
    have hij : i + 16 = j ∨ i = j + 16 := by
      rcases h.1 with ⟨g1, g2⟩ | g
      · have := j2 _ g2
        omega
      · have := j2 _ g
        omega
    have hci := hc i h.2
    have others : ∀ q, q < 32 → q ≠ j → bt d q = true → bt c q = true := by
      intro q hq qj hdq
      cases hcq : bt c q with
      | true => rfl
      | false => exact absurd (j2 q (by rw [b_and, bt_not _ hq, hdq, hcq]; rfl)) qj
    refine ⟨if i + 16 = j then i else j, ?_, ?_, ?_⟩
    · split <;> omega
    · split <;> omega
    · have hv : (if i + 16 = j then i else j) < 11 := by split <;> omega
      unfold m_ag
      simp only [Bool.and_eq_true_iff, decide_eq_true_iff]
      rw [both_ne hv, both_ne hv, Ne, both_eq hv, rest_zero hv]
      by_cases hb : i + 16 = j
      · rw [if_pos hb]
        have e : i + 16 = j := hb
        refine ⟨⟨⟨Or.inl h.2, Or.inr (by rw [e]; exact dj.1)⟩, fun q => ?_⟩, fun q hq q1 q2 hd9 => others q hq (by omega) hd9⟩
        rw [e, dj.1, dj.2] at q
        exact absurd q.2 (by decide)
      · rw [if_neg hb]
        have e : j + 16 = i := by omega
        refine ⟨⟨⟨Or.inr (by rw [e]; exact h.2), Or.inl dj.1⟩, fun q => ?_⟩, fun q hq q1 q2 hd9 => others q hq q1 hd9⟩
        rw [dj.1, dj.2] at q
        exact absurd q.1 (by decide)
  · rw [if_neg hs] at h
    exact absurd rfl h
