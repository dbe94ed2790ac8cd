/-! Pure rows: bits (the family bt is a starting text of the guides), the small functions of the code, searches by index, lists of what arrays hold. -/
def bt (x : Int32) (i : Nat) : Bool := x.toBitVec.getLsbD i
theorem b_ext {x y : Int32} (h : ∀ i, i < 32 → bt x i = bt y i) : x = y := Int32.toBitVec_inj.mp (BitVec.eq_of_getLsbD_eq (fun i hi => h i hi))
theorem b_or (x y : Int32) (i : Nat) : bt (x ||| y) i = (bt x i || bt y i) := by unfold bt; rw [Int32.toBitVec_or, BitVec.getLsbD_or]
theorem b_and (x y : Int32) (i : Nat) : bt (x &&& y) i = (bt x i && bt y i) := by unfold bt; rw [Int32.toBitVec_and, BitVec.getLsbD_and]
theorem b_xor (x y : Int32) (i : Nat) : bt (x ^^^ y) i = (bt x i ^^ bt y i) := by unfold bt; rw [Int32.toBitVec_xor, BitVec.getLsbD_xor]
theorem b_big {x : Int32} {i : Nat} (h : 32 ≤ i) : bt x i = false := BitVec.getLsbD_of_ge _ _ h
theorem b_m1 : ∀ i, i < 32 → bt (-1) i = true := by decide +kernel
theorem b_0 (i : Nat) : bt 0 i = false := BitVec.getLsbD_zero
theorem s_l : ∀ n, n < 32 → ((nI n &&& 31).toBitVec.smod 32).toNat = n := by decide +kernel
theorem s_u : ∀ n, n < 32 → (((nI n).toUInt32 &&& Int32.toUInt32 31).toBitVec % 32).toNat = n := by decide +kernel
theorem b_shl (n : Nat) (hn : n < 32) (x : Int32) {i : Nat} (hi : i < 32) : bt (x <<< (nI n &&& 31)) i = (decide (n ≤ i) && bt x (i - n)) := by
  unfold bt
  rw [Int32.toBitVec_shiftLeft]
  show (x.toBitVec <<< ((nI n &&& 31).toBitVec.smod 32).toNat).getLsbD i = _
  rw [s_l n hn, BitVec.getLsbD_shiftLeft]
  rcases Nat.lt_or_ge i n with h | h
  · simp [h, Nat.not_le.mpr h]
  · simp [hi, h, Nat.not_lt.mpr h]
theorem b_ushr (n : Nat) (hn : n < 32) (x : Int32) (i : Nat) : bt ((x.toUInt32 >>> ((nI n).toUInt32 &&& Int32.toUInt32 31)).toInt32) i = bt x (n + i) := by
  show (x.toUInt32 >>> ((nI n).toUInt32 &&& Int32.toUInt32 31)).toBitVec.getLsbD i = x.toUInt32.toBitVec.getLsbD (n + i)
  rw [UInt32.toBitVec_shiftRight]
  show (x.toUInt32.toBitVec >>> (((nI n).toUInt32 &&& Int32.toUInt32 31).toBitVec % 32).toNat).getLsbD i = _
  rw [s_u n hn, BitVec.getLsbD_ushiftRight]
theorem b_sshr (n : Nat) (hn : n < 32) (x : Int32) {i : Nat} (hi : i < 32) : bt (x >>> (nI n &&& 31)) i = if n + i < 32 then bt x (n + i) else bt x 31 := by
  unfold bt
  rw [Int32.toBitVec_shiftRight]
  show (x.toBitVec.sshiftRight ((nI n &&& 31).toBitVec.smod 32).toNat).getLsbD i = _
  rw [s_l n hn, BitVec.getLsbD_sshiftRight, BitVec.msb_eq_getLsbD_last]
  simp [hi]
theorem b_shl16 (x : Int32) {i : Nat} (hi : i < 32) : bt (x <<< ((16 : Int32) &&& 31)) i = (decide (16 ≤ i) && bt x (i - 16)) := b_shl 16 (by omega) x hi
-- the small functions of the code
def k_pos (v : Int32) : Int32 := 1 <<< (v &&& 31)
def k_neg (v : Int32) : Int32 := 1 <<< ((16 + v) &&& 31)
def k_both (v : Int32) : Int32 := k_pos v ||| k_neg v
def k_ush (x y : Int32) : Int32 := (x.toUInt32 >>> (y.toUInt32 &&& Int32.toUInt32 31)).toInt32
def k_con (x : Int32) : Int32 := (x <<< ((16 : Int32) &&& 31)) ||| k_ush x 16
def k_not (x : Int32) : Int32 := x ^^^ (-1)
def k_b (b : Bool) : Int32 := if b then 1 else 0
def k_taut (x : Int32) : Bool := decide (x &&& k_ush x 16 ≠ 0)
def k_res (c d w : Int32) : Int32 := (c ||| d) &&& k_not w
def k_tl (t : Int32) : Int32 := t ||| ((2046 &&& k_not t) <<< ((16 : Int32) &&& 31))
def k_isV (v : Int32) : Bool := decide (¬ v < 1) && decide (¬ 10 < v)
def k_isL (x : Int32) : Bool := decide (¬ x = 0) && decide (¬ x < -10) && decide (¬ 10 < x)
theorem bt_pos : ∀ v, v < 11 → ∀ i, i < 32 → bt (k_pos (nI v)) i = decide (i = v) := by decide +kernel
theorem bt_neg : ∀ v, v < 11 → ∀ i, i < 32 → bt (k_neg (nI v)) i = decide (i = v + 16) := by decide +kernel
theorem bt_not (x : Int32) {i : Nat} (hi : i < 32) : bt (k_not x) i = !bt x i := by
  unfold k_not
  rw [b_xor, b_m1 i hi]
  cases bt x i <;> rfl
theorem bt_ush16 (x : Int32) (i : Nat) : bt (k_ush x 16) i = bt x (16 + i) := b_ushr 16 (by omega) x i
theorem bt_con (x : Int32) {i : Nat} (hi : i < 32) : bt (k_con x) i = ((decide (16 ≤ i) && bt x (i - 16)) || bt x (16 + i)) := by
  unfold k_con
  rw [b_or, b_shl16 x hi, bt_ush16]
theorem bt_zero {x : Int32} : x = 0 ↔ ∀ i, i < 32 → bt x i = false := by
  constructor
  · intro h i _
    rw [h, b_0]
  · intro h
    exact b_ext fun i hi => by rw [h i hi, b_0]
theorem bt_ne {x : Int32} : x ≠ 0 ↔ ∃ i, i < 32 ∧ bt x i = true := by
  constructor
  · intro h
    refine Classical.byContradiction fun hn => h (bt_zero.mpr fun i hi => ?_)
    cases hb : bt x i with
    | false => rfl
    | true => exact absurd ⟨i, hi, hb⟩ hn
  · intro ⟨i, hi, hb⟩ h
    rw [h, b_0] at hb
    cases hb
/-- literals alone, of the variables 1 to 10 -/
def k_ok (x : Int32) : Prop := ∀ i, bt x i = true → (1 ≤ i ∧ i ≤ 10) ∨ (17 ≤ i ∧ i ≤ 26)
/-- no variable with both its literals -/
def k_nt (x : Int32) : Prop := ∀ i, bt x i = true → bt x (16 + i) = true → False
theorem k_taut_nt {x : Int32} : k_taut x = false ↔ k_nt x := by
  unfold k_taut k_nt
  rw [decide_eq_false_iff_not, Classical.not_not, bt_zero]
  constructor
  · intro h i h1 h2
    have hi : i < 32 := Classical.byContradiction fun hn => by rw [b_big (by omega)] at h1; cases h1
    have := h i hi
    rw [b_and, bt_ush16, h1, h2] at this
    cases this
  · intro h i hi
    rw [b_and, bt_ush16]
    cases h1 : bt x i with
    | false => rfl
    | true =>
      cases h2 : bt x (16 + i) with
      | false => rfl
      | true => exact (h i h1 h2).elim
theorem k_ok_and {x y : Int32} (h : k_ok x) : k_ok (x &&& y) := fun i hi => h i (by rw [b_and] at hi; exact (Bool.and_eq_true_iff.mp hi).1)
theorem k_ok_or {x y : Int32} (h : k_ok x) (h2 : k_ok y) : k_ok (x ||| y) := fun i hi => by
  rw [b_or] at hi
  rcases Bool.or_eq_true_iff.mp hi with h1 | h1
  · exact h i h1
  · exact h2 i h1
theorem k_nt_and {x y : Int32} (h : k_nt x) : k_nt (x &&& y) := fun i h1 h2 => by
  rw [b_and] at h1 h2
  exact h i (Bool.and_eq_true_iff.mp h1).1 (Bool.and_eq_true_iff.mp h2).1
theorem k_ok_0 : k_ok 0 := fun i hi => by rw [b_0] at hi; cases hi
theorem k_ok_pos {v : Nat} (h1 : 1 ≤ v) (h2 : v ≤ 10) : k_ok (k_pos (nI v)) := fun i hi => by
  have h3 : i < 32 := Classical.byContradiction fun hn => by rw [b_big (by omega)] at hi; cases hi
  rw [bt_pos v (by omega) i h3] at hi
  have := of_decide_eq_true hi
  omega
theorem k_ok_neg {v : Nat} (h1 : 1 ≤ v) (h2 : v ≤ 10) : k_ok (k_neg (nI v)) := fun i hi => by
  have h3 : i < 32 := Classical.byContradiction fun hn => by rw [b_big (by omega)] at hi; cases hi
  rw [bt_neg v (by omega) i h3] at hi
  have := of_decide_eq_true hi
  omega
-- searches by index, counts
def q_up (p : Nat → Bool) : Nat → Nat → Option Nat
  | 0, _ => none
  | f + 1, k => if p k then some k else q_up p f (k + 1)
def q_idx : Option Nat → Int32
  | some k => nI k
  | none => -1
theorem q_up_step {p : Nat → Bool} {n k : Nat} (h : k < n) : q_up p (n - k) k = if p k then some k else q_up p (n - (k + 1)) (k + 1) := by
  obtain ⟨f, hf⟩ : ∃ f, n - k = f + 1 := ⟨n - k - 1, by omega⟩
  rw [hf, show n - (k + 1) = f by omega]
  rfl
theorem q_up_t {p : Nat → Bool} {n k : Nat} (h : k < n) (hp : p k = true) : q_up p (n - k) k = some k := by rw [q_up_step h, if_pos hp]
theorem q_up_f {p : Nat → Bool} {n k : Nat} (h : k < n) (hp : p k = false) : q_up p (n - k) k = q_up p (n - (k + 1)) (k + 1) := by rw [q_up_step h, if_neg (by rw [hp]; exact Bool.false_ne_true)]
theorem q_up_end {p : Nat → Bool} {n k : Nat} (h : n ≤ k) : q_up p (n - k) k = none := by
  rw [show n - k = 0 by omega]
  rfl
theorem q_up_congr {p q : Nat → Bool} : ∀ (f k : Nat), (∀ i, k ≤ i → i < k + f → p i = q i) → q_up p f k = q_up q f k
  | 0, _, _ => rfl
  | f + 1, k, h => by
    show (if p k then some k else q_up p f (k + 1)) = (if q k then some k else q_up q f (k + 1))
    rw [h k (Nat.le_refl _) (by omega), q_up_congr f (k + 1) (fun i h1 h2 => h i (by omega) (by omega))]
theorem q_up_some {p : Nat → Bool} : ∀ {f k i : Nat}, q_up p f k = some i → k ≤ i ∧ i < k + f ∧ p i = true
  | 0, _, _, h => by cases h
  | f + 1, k, i, h => by
    have h' : (if p k then some k else q_up p f (k + 1)) = some i := h
    by_cases hp : p k = true
    · rw [if_pos hp] at h'
      cases h'
      exact ⟨Nat.le_refl _, by omega, hp⟩
    · rw [if_neg hp] at h'
      obtain ⟨h1, h2, h3⟩ := q_up_some h'
      exact ⟨by omega, by omega, h3⟩
theorem q_up_none {p : Nat → Bool} : ∀ {f k : Nat}, q_up p f k = none → ∀ i, k ≤ i → i < k + f → p i = false
  | 0, _, _, i, h1, h2 => by omega
  | f + 1, k, h, i, h1, h2 => by
    have h' : (if p k then some k else q_up p f (k + 1)) = none := h
    by_cases hp : p k = true
    · rw [if_pos hp] at h'
      cases h'
    · rw [if_neg hp] at h'
      by_cases hi : i = k
      · subst hi
        exact Bool.eq_false_iff.mpr hp
      · exact q_up_none h' i (by omega) (by omega)
def q_ct (p : Nat → Bool) : Nat → Nat → Nat → Nat
  | 0, _, a => a
  | f + 1, k, a => q_ct p f (k + 1) (if p k then a + 1 else a)
theorem q_ct_t {p : Nat → Bool} {n k a : Nat} (h : k < n) (hp : p k = true) : q_ct p (n - k) k a = q_ct p (n - (k + 1)) (k + 1) (a + 1) := by
  obtain ⟨f, hf⟩ : ∃ f, n - k = f + 1 := ⟨n - k - 1, by omega⟩
  rw [hf, show n - (k + 1) = f by omega]
  show q_ct p f (k + 1) (if p k then a + 1 else a) = _
  rw [if_pos hp]
theorem q_ct_f {p : Nat → Bool} {n k a : Nat} (h : k < n) (hp : p k = false) : q_ct p (n - k) k a = q_ct p (n - (k + 1)) (k + 1) a := by
  obtain ⟨f, hf⟩ : ∃ f, n - k = f + 1 := ⟨n - k - 1, by omega⟩
  rw [hf, show n - (k + 1) = f by omega]
  show q_ct p f (k + 1) (if p k then a + 1 else a) = _
  rw [if_neg (by rw [hp]; exact Bool.false_ne_true)]
theorem q_ct_end {p : Nat → Bool} {n k a : Nat} (h : n ≤ k) : q_ct p (n - k) k a = a := by
  rw [show n - k = 0 by omega]
  rfl
theorem q_ct_congr {p q : Nat → Bool} : ∀ (f k a : Nat), (∀ i, k ≤ i → i < k + f → p i = q i) → q_ct p f k a = q_ct q f k a
  | 0, _, _, _ => rfl
  | f + 1, k, a, h => by
    show q_ct p f (k + 1) (if p k then a + 1 else a) = q_ct q f (k + 1) (if q k then a + 1 else a)
    rw [h k (Nat.le_refl _) (by omega)]
    exact q_ct_congr f (k + 1) _ (fun i h1 h2 => h i (by omega) (by omega))
theorem q_ct_le {p : Nat → Bool} : ∀ (f k a : Nat), q_ct p f k a ≤ a + f
  | 0, _, _ => Nat.le_refl _
  | f + 1, k, a => by
    have := q_ct_le (p := p) f (k + 1) (if p k then a + 1 else a)
    show q_ct p f (k + 1) (if p k then a + 1 else a) ≤ a + (f + 1)
    by_cases hp : p k = true
    · rw [if_pos hp] at this ⊢
      omega
    · rw [if_neg hp] at this ⊢
      omega
-- what the first n places hold
def cl_lst {α : Type} (n : Nat) (f : Nat → α) : List α := (List.range n).map f
theorem cl_len {α : Type} (n : Nat) (f : Nat → α) : (cl_lst n f).length = n := by simp [cl_lst]
theorem cl_get {α : Type} {n : Nat} {f : Nat → α} {k : Nat} (h : k < n) : (cl_lst n f)[k]? = some (f k) := by simp [cl_lst, h]
theorem cl_getD {α : Type} {n : Nat} {f : Nat → α} {k : Nat} {d : α} (h : k < n) : (cl_lst n f).getD k d = f k := by
  rw [List.getD_eq_getElem?_getD, cl_get h]
  rfl
theorem cl_ext {α : Type} {L L1 : List α} (hl : L.length = L1.length) (h : ∀ k, k < L.length → L[k]? = L1[k]?) : L = L1 := by
  apply List.ext_getElem?
  intro k
  by_cases hk : k < L.length
  · exact h k hk
  · rw [List.getElem?_eq_none (by omega), List.getElem?_eq_none (by omega)]
theorem cl_congr {α : Type} {n : Nat} {f g : Nat → α} (h : ∀ k, k < n → f k = g k) : cl_lst n f = cl_lst n g := by
  apply cl_ext
  · rw [cl_len, cl_len]
  · intro k hk
    rw [cl_len] at hk
    rw [cl_get hk, cl_get hk, h k hk]
theorem cl_succ {α : Type} (n : Nat) (f : Nat → α) : cl_lst (n + 1) f = cl_lst n f ++ [f n] := by simp [cl_lst, List.range_succ]
theorem cl_set {α : Type} {n : Nat} {f g : Nat → α} {k : Nat} {x : α} (hk : g k = x) (hg : ∀ j, j < n → j ≠ k → g j = f j) : cl_lst n g = (cl_lst n f).set k x := by
  apply cl_ext
  · rw [cl_len, List.length_set, cl_len]
  · intro j hj
    rw [cl_len] at hj
    rw [cl_get hj]
    by_cases hjk : k = j
    · subst hjk
      rw [List.getElem?_set_self (by rw [cl_len]; exact hj), hk]
    · rw [List.getElem?_set_ne hjk, cl_get hj, hg j hj (Ne.symm hjk)]
theorem cl_erase {α : Type} {n : Nat} {f g : Nat → α} {k : Nat} (hk : k ≤ n) (h1 : ∀ j, j < k → g j = f j) (h2 : ∀ j, k ≤ j → j < n → g j = f (j + 1)) : cl_lst n g = (cl_lst (n + 1) f).eraseIdx k := by
  apply cl_ext
  · rw [cl_len, List.length_eraseIdx, cl_len]
    rw [if_pos (by omega)]
    omega
  · intro j hj
    rw [cl_len] at hj
    rw [cl_get hj, List.getElem?_eraseIdx]
    by_cases hjk : j < k
    · rw [if_pos hjk, cl_get (by omega), h1 j hjk]
    · rw [if_neg hjk, cl_get (by omega), h2 j (by omega) hj]
