/-! close() in the law's loop: wanting until the class's close is mended. -/
theorem lo_close {p : Program} {l : Launch} {e : Env} {s : State} {m : MethodId} {below : List Frame} {meth : Method} {c : Code} {Q : State → Prop} {D : va_G} {b L a : Nat} {xs : Nat → Int32} {q q2 : Nat → Nat} {cA cL cB : ClassId} (E : lE p l s m c b L xs D cA cL cB) : lClose p l e s m below meth c Q b D q q2 cA cL cB a := by
  sorry
