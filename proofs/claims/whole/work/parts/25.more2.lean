/-! More pure words and rows. -/
def k_ntz (x : Int32) : Int32 :=
  let i := k_not x &&& (x - 1)
  if 0 < i then
    let p1 : Int32 × Int32 := if i ≤ 65536 then (1, i) else (17, k_ush i 16)
    let p2 : Int32 × Int32 := if p1.2 ≤ 256 then p1 else (p1.1 + 8, k_ush p1.2 8)
    let p3 : Int32 × Int32 := if p2.2 ≤ 16 then p2 else (p2.1 + 4, k_ush p2.2 4)
    let p4 : Int32 × Int32 := if p3.2 ≤ 4 then p3 else (p3.1 + 2, k_ush p3.2 2)
    p4.1 + k_ush p4.2 1
  else i &&& 32
def k_ent (x : Int32) : Int32 := if k_ntz x ≤ 16 then k_ntz x else 16 - k_ntz x
def q_sat (L : List cC) : Bool := (q_up (fun j => q_aat L (k_tl (nI (2 * j)))) (1024 - 0) 0).isSome
theorem st_2 {j : Nat} : nI (2 * j) + k_pos 1 = nI (2 * (j + 1)) := by
  rw [show k_pos 1 = nI 2 by decide, nI_add]
  rfl
