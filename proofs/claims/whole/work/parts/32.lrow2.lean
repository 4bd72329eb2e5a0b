theorem jw_lcmp {X : JX} {cells slots : Nat} {w : va_W} {pc : Nat} {lv : List (Nat × Value)} {rest : List Value} {cc : ByteArray} {nL : Nat} {Ts : List Cond} {own : String} {rm : Room} (hX : jOK X cc nL Ts own rm) {x y : Int64} (hdg : decode cc pc = .ok (.lcmp, 1)) (kk : JW X cells slots w (pc + 1) lv (.int (if x > y then 1 else if x = y then 0 else -1) :: rest)) : JW X cells slots w pc lv (.long y :: .long x :: rest) := by
  obtain ⟨p, l, e, R, s, m, args, below, meth, c, D, A, nL9, Q, tys⟩ := X
  obtain ⟨⟨hx, hb, hml, hown, hts⟩, rfl, hK, hA, hlk, hR⟩ := hX
  intro H locs ls hP hD hS hl T hT X2
  obtain ⟨t, a, b⟩ := kk H locs ls hP hD hS hl T hT X2
  refine ⟨t, ?_, b⟩
  by_cases h1 : x > y
  · rw [if_pos h1] at a
    jvm_step X2.here [X2.here.top, hx, hb, hdg, h1]
    exact a
  · rw [if_neg h1] at a
    by_cases h2 : x = y
    · rw [if_pos h2] at a
      subst h2
      jvm_step X2.here [X2.here.top, hx, hb, hdg, h1]
      exact a
    · rw [if_neg h2] at a
      jvm_step X2.here [X2.here.top, hx, hb, hdg, h1, h2]
      exact a
/-- the law's last comparison: out's place against the reference's answer -/
theorem jw_lcmpeq {X : JX} {cells slots : Nat} {w : va_W} {pc d : Nat} {lv : List (Nat × Value)} {rest : List Value} {cc : ByteArray} {nL : Nat} {Ts : List Cond} {own : String} {rm : Room} (hX : jOK X cc nL Ts own rm) {x y : Int64} (hdg : decode cc pc = .ok (.lcmp, 1)) (hv : x = y) (kk : JW X cells slots w (pc + 1) lv (.int 0 :: rest)) : JW X cells slots w pc lv (.long y :: .long x :: rest) := by
  subst hv
  refine jw_lcmp hX hdg ?_
  rw [if_neg (show ¬ (x > x) from Int64.lt_irrefl), if_pos rfl]
  exact kk
