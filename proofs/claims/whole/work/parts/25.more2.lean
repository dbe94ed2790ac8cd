/-! More pure words and rows. -/
def k_ntz (x : Int32) : Int32 :=
  let i := k_not x &&& (x - 1)
  if 0 < i then
    let p1 : Int32 × Int32 := if i ≤ 65536 then (1, i) else (17, k_ush i 16)
    let p2 : Int32 × Int32 := if p1.2 ≤ 256 then p1 else (p1.1 + 8, k_ush p1.2 8)
    let p3 : Int32 × Int32 := if p2.2 ≤ 16 then p2 else (p2.1 + 4, k_ush p2.2 4)
    let p4 : Int32 × Int32 := if p3.2 ≤ 4 then p3 else (p3.1 + 2, k_ush p3.2 2)
    p4.1 + k_ush p4.2 1
  else i &&& 32
def k_ent (x : Int32) : Int32 := if k_ntz x ≤ 16 then k_ntz x else 16 - k_ntz x
def q_sat (L : List cC) : Bool := (q_up (fun j => q_aat L (k_tl (nI (2 * j)))) (1024 - 0) 0).isSome
theorem st_2 {j : Nat} : nI (2 * j) + k_pos 1 = nI (2 * (j + 1)) := by
  rw [show k_pos 1 = nI 2 by decide, nI_add]
  rfl
def k_max (x y : Int32) : Int32 := if x < y then y else x
theorem k_max_nI {a b : Nat} (ha : a < 2 ^ 31) (hb : b < 2 ^ 31) : k_max (nI a) (nI b) = nI (max a b) := by
  unfold k_max
  by_cases h : a < b
  · rw [if_pos (nI_lt h hb), Nat.max_eq_right (by omega)]
  · rw [if_neg (nI_nlt (by omega) ha), Nat.max_eq_left (by omega)]
/-- the clauses and the stack have changed, nothing else -/
def x_samT (S u : XS) : Prop := u = xk (xd S) (xt S) (xn u) (xm S) (xh u) (xg S) (xse u) (xnu u) (xes u) (xel u) (xgi S) (xre S)
theorem x_same.T {S u : XS} (h : x_same S u) : x_samT S u := by
  unfold x_same at h
  unfold x_samT
  rw [h]
theorem x_samT.tr {S u z : XS} (h1 : x_samT S u) (h2 : x_samT u z) : x_samT S z := by
  unfold x_samT at h1 h2 ⊢
  rw [h1] at h2
  exact h2
theorem x_same.ok {S u : XS} (h : x_same S u) (hok : okX S) (hn : xn u ≤ xn S) : okX u := by
  obtain ⟨h1, h2, h3⟩ := hok
  unfold x_same at h
  refine ⟨Nat.le_trans hn h1, ?_, ?_⟩
  · rw [h]; exact h2
  · rw [h]; exact h3
theorem vXL_len (S : XS) : (vXL S).length = xn S := cl_of_len _ _ _
theorem er_len {L : List cC} {k : Nat} : (L.eraseIdx k).length ≤ L.length := by
  rw [List.length_eraseIdx]
  split <;> omega
theorem q_up_lt {p : Nat → Bool} {n i : Nat} (h : q_up p (n - 0) 0 = some i) : i < n := by
  have := q_up_some h
  omega
