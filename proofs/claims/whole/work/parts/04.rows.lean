theorem jw_iconst {X : JX} {cells slots : Nat} {w : va_W} {pc : Nat} {lv : List (Nat × Value)} {rest : List Value} {cc : ByteArray} {nL : Nat} {Ts : List Cond} {own : String} {rm : Room} (hX : jOK X cc nL Ts own rm) {n : Int} {v : Int32} (hdg : decode cc pc = .ok (.iconst n, 1)) (hv : Int32.ofInt n = v) (kk : JW X cells slots w (pc + 1) lv (.int v :: rest)) : JW X cells slots w (pc) lv rest := by
  obtain ⟨p, l, e, R, s, m, args, below, meth, c, D, A, nL9, Q, tys⟩ := X
  obtain ⟨⟨hx, hb, hml, hown, hts⟩, rfl, hK, hA, hlk, hR⟩ := hX
  intro H locs ls hP hD hS hl
  exact lv_iconst hx hb hdg hv (kk H locs ls hP hD hS hl)
theorem jw_bipush {X : JX} {cells slots : Nat} {w : va_W} {pc : Nat} {lv : List (Nat × Value)} {rest : List Value} {cc : ByteArray} {nL : Nat} {Ts : List Cond} {own : String} {rm : Room} (hX : jOK X cc nL Ts own rm) {n : Int} {v : Int32} (hdg : decode cc pc = .ok (.bipush n, 2)) (hv : (Int8.ofInt n).toInt32 = v) (kk : JW X cells slots w (pc + 2) lv (.int v :: rest)) : JW X cells slots w (pc) lv rest := by
  obtain ⟨p, l, e, R, s, m, args, below, meth, c, D, A, nL9, Q, tys⟩ := X
  obtain ⟨⟨hx, hb, hml, hown, hts⟩, rfl, hK, hA, hlk, hR⟩ := hX
  intro H locs ls hP hD hS hl
  exact lv_bipush hx hb hdg hv (kk H locs ls hP hD hS hl)
theorem jw_sipush {X : JX} {cells slots : Nat} {w : va_W} {pc : Nat} {lv : List (Nat × Value)} {rest : List Value} {cc : ByteArray} {nL : Nat} {Ts : List Cond} {own : String} {rm : Room} (hX : jOK X cc nL Ts own rm) {n : Int} {v : Int32} (hdg : decode cc pc = .ok (.sipush n, 3)) (hv : (Int16.ofInt n).toInt32 = v) (kk : JW X cells slots w (pc + 3) lv (.int v :: rest)) : JW X cells slots w (pc) lv rest := by
  obtain ⟨p, l, e, R, s, m, args, below, meth, c, D, A, nL9, Q, tys⟩ := X
  obtain ⟨⟨hx, hb, hml, hown, hts⟩, rfl, hK, hA, hlk, hR⟩ := hX
  intro H locs ls hP hD hS hl
  exact lv_sipush hx hb hdg hv (kk H locs ls hP hD hS hl)
theorem jw_lconst {X : JX} {cells slots : Nat} {w : va_W} {pc : Nat} {lv : List (Nat × Value)} {rest : List Value} {cc : ByteArray} {nL : Nat} {Ts : List Cond} {own : String} {rm : Room} (hX : jOK X cc nL Ts own rm) {n : Fin 2} {v : Int64} (hdg : decode cc pc = .ok (.lconst n, 1)) (hv : Int64.ofNat (n : Nat) = v) (kk : JW X cells slots w (pc + 1) lv (.long v :: rest)) : JW X cells slots w (pc) lv rest := by
  obtain ⟨p, l, e, R, s, m, args, below, meth, c, D, A, nL9, Q, tys⟩ := X
  obtain ⟨⟨hx, hb, hml, hown, hts⟩, rfl, hK, hA, hlk, hR⟩ := hX
  intro H locs ls hP hD hS hl
  exact lv_lconst hx hb hdg hv (kk H locs ls hP hD hS hl)
theorem jw_iload_n {X : JX} {cells slots : Nat} {w : va_W} {pc : Nat} {lv : List (Nat × Value)} {rest : List Value} {cc : ByteArray} {nL : Nat} {Ts : List Cond} {own : String} {rm : Room} (hX : jOK X cc nL Ts own rm) {k : Fin 4} {i : Nat} {x : Int32} (hdg : decode cc pc = .ok (.iload_n k, 1)) (hi : (k : Nat) = i) (j : Nat) (hj : lv[j]? = some (i, .int x)) (kk : JW X cells slots w (pc + 1) lv (.int x :: rest)) : JW X cells slots w (pc) lv rest := by
  obtain ⟨p, l, e, R, s, m, args, below, meth, c, D, A, nL9, Q, tys⟩ := X
  obtain ⟨⟨hx, hb, hml, hown, hts⟩, rfl, hK, hA, hlk, hR⟩ := hX
  intro H locs ls hP hD hS hl
  exact lv_iload_n hx hb hdg hi (lv_at hl j hj) (kk H locs ls hP hD hS hl)
theorem jw_iload {X : JX} {cells slots : Nat} {w : va_W} {pc : Nat} {lv : List (Nat × Value)} {rest : List Value} {cc : ByteArray} {nL : Nat} {Ts : List Cond} {own : String} {rm : Room} (hX : jOK X cc nL Ts own rm) {i : Nat} {x : Int32} (hdg : decode cc pc = .ok (.iload i, 2)) (j : Nat) (hj : lv[j]? = some (i, .int x)) (kk : JW X cells slots w (pc + 2) lv (.int x :: rest)) : JW X cells slots w (pc) lv rest := by
  obtain ⟨p, l, e, R, s, m, args, below, meth, c, D, A, nL9, Q, tys⟩ := X
  obtain ⟨⟨hx, hb, hml, hown, hts⟩, rfl, hK, hA, hlk, hR⟩ := hX
  intro H locs ls hP hD hS hl
  exact lv_iload hx hb hdg (lv_at hl j hj) (kk H locs ls hP hD hS hl)
theorem jw_lload_n {X : JX} {cells slots : Nat} {w : va_W} {pc : Nat} {lv : List (Nat × Value)} {rest : List Value} {cc : ByteArray} {nL : Nat} {Ts : List Cond} {own : String} {rm : Room} (hX : jOK X cc nL Ts own rm) {k : Fin 4} {i : Nat} {x : Int64} (hdg : decode cc pc = .ok (.lload_n k, 1)) (hi : (k : Nat) = i) (j : Nat) (hj : lv[j]? = some (i, .long x)) (kk : JW X cells slots w (pc + 1) lv (.long x :: rest)) : JW X cells slots w (pc) lv rest := by
  obtain ⟨p, l, e, R, s, m, args, below, meth, c, D, A, nL9, Q, tys⟩ := X
  obtain ⟨⟨hx, hb, hml, hown, hts⟩, rfl, hK, hA, hlk, hR⟩ := hX
  intro H locs ls hP hD hS hl
  exact lv_lload_n hx hb hdg hi (lv_at hl j hj) (kk H locs ls hP hD hS hl)
theorem jw_lload {X : JX} {cells slots : Nat} {w : va_W} {pc : Nat} {lv : List (Nat × Value)} {rest : List Value} {cc : ByteArray} {nL : Nat} {Ts : List Cond} {own : String} {rm : Room} (hX : jOK X cc nL Ts own rm) {i : Nat} {x : Int64} (hdg : decode cc pc = .ok (.lload i, 2)) (j : Nat) (hj : lv[j]? = some (i, .long x)) (kk : JW X cells slots w (pc + 2) lv (.long x :: rest)) : JW X cells slots w (pc) lv rest := by
  obtain ⟨p, l, e, R, s, m, args, below, meth, c, D, A, nL9, Q, tys⟩ := X
  obtain ⟨⟨hx, hb, hml, hown, hts⟩, rfl, hK, hA, hlk, hR⟩ := hX
  intro H locs ls hP hD hS hl
  exact lv_lload hx hb hdg (lv_at hl j hj) (kk H locs ls hP hD hS hl)
theorem jw_aload_n {X : JX} {cells slots : Nat} {w : va_W} {pc : Nat} {lv : List (Nat × Value)} {rest : List Value} {cc : ByteArray} {nL : Nat} {Ts : List Cond} {own : String} {rm : Room} (hX : jOK X cc nL Ts own rm) {k : Fin 4} {i : Nat} {x : Nat} (hdg : decode cc pc = .ok (.aload_n k, 1)) (hi : (k : Nat) = i) (j : Nat) (hj : lv[j]? = some (i, .ref x)) (kk : JW X cells slots w (pc + 1) lv (.ref x :: rest)) : JW X cells slots w (pc) lv rest := by
  obtain ⟨p, l, e, R, s, m, args, below, meth, c, D, A, nL9, Q, tys⟩ := X
  obtain ⟨⟨hx, hb, hml, hown, hts⟩, rfl, hK, hA, hlk, hR⟩ := hX
  intro H locs ls hP hD hS hl
  exact lv_aload_n hx hb hdg hi (lv_at hl j hj) (kk H locs ls hP hD hS hl)
theorem jw_aload {X : JX} {cells slots : Nat} {w : va_W} {pc : Nat} {lv : List (Nat × Value)} {rest : List Value} {cc : ByteArray} {nL : Nat} {Ts : List Cond} {own : String} {rm : Room} (hX : jOK X cc nL Ts own rm) {i : Nat} {x : Nat} (hdg : decode cc pc = .ok (.aload i, 2)) (j : Nat) (hj : lv[j]? = some (i, .ref x)) (kk : JW X cells slots w (pc + 2) lv (.ref x :: rest)) : JW X cells slots w (pc) lv rest := by
  obtain ⟨p, l, e, R, s, m, args, below, meth, c, D, A, nL9, Q, tys⟩ := X
  obtain ⟨⟨hx, hb, hml, hown, hts⟩, rfl, hK, hA, hlk, hR⟩ := hX
  intro H locs ls hP hD hS hl
  exact lv_aload hx hb hdg (lv_at hl j hj) (kk H locs ls hP hD hS hl)
theorem jw_istore_n {X : JX} {cells slots : Nat} {w : va_W} {pc : Nat} {lv : List (Nat × Value)} {rest : List Value} {cc : ByteArray} {nL : Nat} {Ts : List Cond} {own : String} {rm : Room} (hX : jOK X cc nL Ts own rm) {k : Fin 4} {i : Nat} {x : Int32} (lv' : List (Nat × Value)) (hdg : decode cc pc = .ok (.istore_n k, 1)) (hi : (k : Nat) = i) (hn : i < nL) (hl' : (i, Value.int x) :: lv.filter (fun q => !(q.1 == i) && !(q.1 + 1 == i && q.2.category == 2)) = lv') (kk : JW X cells slots w (pc + 1) lv' rest) : JW X cells slots w (pc) lv (.int x :: rest) := by
  obtain ⟨p, l, e, R, s, m, args, below, meth, c, D, A, nL9, Q, tys⟩ := X
  obtain ⟨⟨hx, hb, hml, hown, hts⟩, rfl, hK, hA, hlk, hR⟩ := hX
  intro H locs ls hP hD hS hl
  exact lv_istore_n hx hb hdg hi hl hn hl' (fun ls hl => (kk H locs ls hP hD hS hl))
theorem jw_istore {X : JX} {cells slots : Nat} {w : va_W} {pc : Nat} {lv : List (Nat × Value)} {rest : List Value} {cc : ByteArray} {nL : Nat} {Ts : List Cond} {own : String} {rm : Room} (hX : jOK X cc nL Ts own rm) {i : Nat} {x : Int32} (lv' : List (Nat × Value)) (hdg : decode cc pc = .ok (.istore i, 2)) (hn : i < nL) (hl' : (i, Value.int x) :: lv.filter (fun q => !(q.1 == i) && !(q.1 + 1 == i && q.2.category == 2)) = lv') (kk : JW X cells slots w (pc + 2) lv' rest) : JW X cells slots w (pc) lv (.int x :: rest) := by
  obtain ⟨p, l, e, R, s, m, args, below, meth, c, D, A, nL9, Q, tys⟩ := X
  obtain ⟨⟨hx, hb, hml, hown, hts⟩, rfl, hK, hA, hlk, hR⟩ := hX
  intro H locs ls hP hD hS hl
  exact lv_istore hx hb hdg hl hn hl' (fun ls hl => (kk H locs ls hP hD hS hl))
theorem jw_astore_n {X : JX} {cells slots : Nat} {w : va_W} {pc : Nat} {lv : List (Nat × Value)} {rest : List Value} {cc : ByteArray} {nL : Nat} {Ts : List Cond} {own : String} {rm : Room} (hX : jOK X cc nL Ts own rm) {k : Fin 4} {i : Nat} {x : Nat} (lv' : List (Nat × Value)) (hdg : decode cc pc = .ok (.astore_n k, 1)) (hi : (k : Nat) = i) (hn : i < nL) (hl' : (i, Value.ref x) :: lv.filter (fun q => !(q.1 == i) && !(q.1 + 1 == i && q.2.category == 2)) = lv') (kk : JW X cells slots w (pc + 1) lv' rest) : JW X cells slots w (pc) lv (.ref x :: rest) := by
  obtain ⟨p, l, e, R, s, m, args, below, meth, c, D, A, nL9, Q, tys⟩ := X
  obtain ⟨⟨hx, hb, hml, hown, hts⟩, rfl, hK, hA, hlk, hR⟩ := hX
  intro H locs ls hP hD hS hl
  exact lv_astore_n hx hb hdg hi hl hn hl' (fun ls hl => (kk H locs ls hP hD hS hl))
theorem jw_astore {X : JX} {cells slots : Nat} {w : va_W} {pc : Nat} {lv : List (Nat × Value)} {rest : List Value} {cc : ByteArray} {nL : Nat} {Ts : List Cond} {own : String} {rm : Room} (hX : jOK X cc nL Ts own rm) {i : Nat} {x : Nat} (lv' : List (Nat × Value)) (hdg : decode cc pc = .ok (.astore i, 2)) (hn : i < nL) (hl' : (i, Value.ref x) :: lv.filter (fun q => !(q.1 == i) && !(q.1 + 1 == i && q.2.category == 2)) = lv') (kk : JW X cells slots w (pc + 2) lv' rest) : JW X cells slots w (pc) lv (.ref x :: rest) := by
  obtain ⟨p, l, e, R, s, m, args, below, meth, c, D, A, nL9, Q, tys⟩ := X
  obtain ⟨⟨hx, hb, hml, hown, hts⟩, rfl, hK, hA, hlk, hR⟩ := hX
  intro H locs ls hP hD hS hl
  exact lv_astore hx hb hdg hl hn hl' (fun ls hl => (kk H locs ls hP hD hS hl))
theorem jw_iinc {X : JX} {cells slots : Nat} {w : va_W} {pc : Nat} {lv : List (Nat × Value)} {rest : List Value} {cc : ByteArray} {nL : Nat} {Ts : List Cond} {own : String} {rm : Room} (hX : jOK X cc nL Ts own rm) {i : Nat} {n : Int} {x v : Int32} (lv' : List (Nat × Value)) (hdg : decode cc pc = .ok (.iinc i n, 3)) (j : Nat) (hj : lv[j]? = some (i, .int x)) (hv : x + Int32.ofInt n = v) (hn : i < nL) (hl' : (i, Value.int v) :: lv.filter (fun q => !(q.1 == i) && !(q.1 + 1 == i && q.2.category == 2)) = lv') (kk : JW X cells slots w (pc + 3) lv' rest) : JW X cells slots w (pc) lv rest := by
  obtain ⟨p, l, e, R, s, m, args, below, meth, c, D, A, nL9, Q, tys⟩ := X
  obtain ⟨⟨hx, hb, hml, hown, hts⟩, rfl, hK, hA, hlk, hR⟩ := hX
  intro H locs ls hP hD hS hl
  exact lv_iinc hx hb hdg hl hj hv hn hl' (fun ls hl => (kk H locs ls hP hD hS hl))
theorem jw_iadd {X : JX} {cells slots : Nat} {w : va_W} {pc : Nat} {lv : List (Nat × Value)} {rest : List Value} {cc : ByteArray} {nL : Nat} {Ts : List Cond} {own : String} {rm : Room} (hX : jOK X cc nL Ts own rm) {x y : Int32} (hdg : decode cc pc = .ok (.iadd, 1)) (kk : JW X cells slots w (pc + 1) lv (.int (x + y) :: rest)) : JW X cells slots w (pc) lv (.int y :: .int x :: rest) := by
  obtain ⟨p, l, e, R, s, m, args, below, meth, c, D, A, nL9, Q, tys⟩ := X
  obtain ⟨⟨hx, hb, hml, hown, hts⟩, rfl, hK, hA, hlk, hR⟩ := hX
  intro H locs ls hP hD hS hl
  exact lv_iadd hx hb hdg (kk H locs ls hP hD hS hl)
theorem jw_isub {X : JX} {cells slots : Nat} {w : va_W} {pc : Nat} {lv : List (Nat × Value)} {rest : List Value} {cc : ByteArray} {nL : Nat} {Ts : List Cond} {own : String} {rm : Room} (hX : jOK X cc nL Ts own rm) {x y : Int32} (hdg : decode cc pc = .ok (.isub, 1)) (kk : JW X cells slots w (pc + 1) lv (.int (x - y) :: rest)) : JW X cells slots w (pc) lv (.int y :: .int x :: rest) := by
  obtain ⟨p, l, e, R, s, m, args, below, meth, c, D, A, nL9, Q, tys⟩ := X
  obtain ⟨⟨hx, hb, hml, hown, hts⟩, rfl, hK, hA, hlk, hR⟩ := hX
  intro H locs ls hP hD hS hl
  exact lv_isub hx hb hdg (kk H locs ls hP hD hS hl)
theorem jw_imul {X : JX} {cells slots : Nat} {w : va_W} {pc : Nat} {lv : List (Nat × Value)} {rest : List Value} {cc : ByteArray} {nL : Nat} {Ts : List Cond} {own : String} {rm : Room} (hX : jOK X cc nL Ts own rm) {x y : Int32} (hdg : decode cc pc = .ok (.imul, 1)) (kk : JW X cells slots w (pc + 1) lv (.int (x * y) :: rest)) : JW X cells slots w (pc) lv (.int y :: .int x :: rest) := by
  obtain ⟨p, l, e, R, s, m, args, below, meth, c, D, A, nL9, Q, tys⟩ := X
  obtain ⟨⟨hx, hb, hml, hown, hts⟩, rfl, hK, hA, hlk, hR⟩ := hX
  intro H locs ls hP hD hS hl
  exact lv_imul hx hb hdg (kk H locs ls hP hD hS hl)
theorem jw_iand {X : JX} {cells slots : Nat} {w : va_W} {pc : Nat} {lv : List (Nat × Value)} {rest : List Value} {cc : ByteArray} {nL : Nat} {Ts : List Cond} {own : String} {rm : Room} (hX : jOK X cc nL Ts own rm) {x y : Int32} (hdg : decode cc pc = .ok (.iand, 1)) (kk : JW X cells slots w (pc + 1) lv (.int (x &&& y) :: rest)) : JW X cells slots w (pc) lv (.int y :: .int x :: rest) := by
  obtain ⟨p, l, e, R, s, m, args, below, meth, c, D, A, nL9, Q, tys⟩ := X
  obtain ⟨⟨hx, hb, hml, hown, hts⟩, rfl, hK, hA, hlk, hR⟩ := hX
  intro H locs ls hP hD hS hl
  exact lv_iand hx hb hdg (kk H locs ls hP hD hS hl)
theorem jw_ior {X : JX} {cells slots : Nat} {w : va_W} {pc : Nat} {lv : List (Nat × Value)} {rest : List Value} {cc : ByteArray} {nL : Nat} {Ts : List Cond} {own : String} {rm : Room} (hX : jOK X cc nL Ts own rm) {x y : Int32} (hdg : decode cc pc = .ok (.ior, 1)) (kk : JW X cells slots w (pc + 1) lv (.int (x ||| y) :: rest)) : JW X cells slots w (pc) lv (.int y :: .int x :: rest) := by
  obtain ⟨p, l, e, R, s, m, args, below, meth, c, D, A, nL9, Q, tys⟩ := X
  obtain ⟨⟨hx, hb, hml, hown, hts⟩, rfl, hK, hA, hlk, hR⟩ := hX
  intro H locs ls hP hD hS hl
  exact lv_ior hx hb hdg (kk H locs ls hP hD hS hl)
theorem jw_ixor {X : JX} {cells slots : Nat} {w : va_W} {pc : Nat} {lv : List (Nat × Value)} {rest : List Value} {cc : ByteArray} {nL : Nat} {Ts : List Cond} {own : String} {rm : Room} (hX : jOK X cc nL Ts own rm) {x y : Int32} (hdg : decode cc pc = .ok (.ixor, 1)) (kk : JW X cells slots w (pc + 1) lv (.int (x ^^^ y) :: rest)) : JW X cells slots w (pc) lv (.int y :: .int x :: rest) := by
  obtain ⟨p, l, e, R, s, m, args, below, meth, c, D, A, nL9, Q, tys⟩ := X
  obtain ⟨⟨hx, hb, hml, hown, hts⟩, rfl, hK, hA, hlk, hR⟩ := hX
  intro H locs ls hP hD hS hl
  exact lv_ixor hx hb hdg (kk H locs ls hP hD hS hl)
theorem jw_ishl {X : JX} {cells slots : Nat} {w : va_W} {pc : Nat} {lv : List (Nat × Value)} {rest : List Value} {cc : ByteArray} {nL : Nat} {Ts : List Cond} {own : String} {rm : Room} (hX : jOK X cc nL Ts own rm) {x y : Int32} (hdg : decode cc pc = .ok (.ishl, 1)) (kk : JW X cells slots w (pc + 1) lv (.int (x <<< (y &&& 31)) :: rest)) : JW X cells slots w (pc) lv (.int y :: .int x :: rest) := by
  obtain ⟨p, l, e, R, s, m, args, below, meth, c, D, A, nL9, Q, tys⟩ := X
  obtain ⟨⟨hx, hb, hml, hown, hts⟩, rfl, hK, hA, hlk, hR⟩ := hX
  intro H locs ls hP hD hS hl
  exact lv_ishl hx hb hdg (kk H locs ls hP hD hS hl)
theorem jw_ishr {X : JX} {cells slots : Nat} {w : va_W} {pc : Nat} {lv : List (Nat × Value)} {rest : List Value} {cc : ByteArray} {nL : Nat} {Ts : List Cond} {own : String} {rm : Room} (hX : jOK X cc nL Ts own rm) {x y : Int32} (hdg : decode cc pc = .ok (.ishr, 1)) (kk : JW X cells slots w (pc + 1) lv (.int (x >>> (y &&& 31)) :: rest)) : JW X cells slots w (pc) lv (.int y :: .int x :: rest) := by
  obtain ⟨p, l, e, R, s, m, args, below, meth, c, D, A, nL9, Q, tys⟩ := X
  obtain ⟨⟨hx, hb, hml, hown, hts⟩, rfl, hK, hA, hlk, hR⟩ := hX
  intro H locs ls hP hD hS hl
  exact lv_ishr hx hb hdg (kk H locs ls hP hD hS hl)
theorem jw_idiv {X : JX} {cells slots : Nat} {w : va_W} {pc : Nat} {lv : List (Nat × Value)} {rest : List Value} {cc : ByteArray} {nL : Nat} {Ts : List Cond} {own : String} {rm : Room} (hX : jOK X cc nL Ts own rm) {x y : Int32} (hdg : decode cc pc = .ok (.idiv, 1)) (hne : ¬ y = 0) (kk : JW X cells slots w (pc + 1) lv (.int (x / y) :: rest)) : JW X cells slots w (pc) lv (.int y :: .int x :: rest) := by
  obtain ⟨p, l, e, R, s, m, args, below, meth, c, D, A, nL9, Q, tys⟩ := X
  obtain ⟨⟨hx, hb, hml, hown, hts⟩, rfl, hK, hA, hlk, hR⟩ := hX
  intro H locs ls hP hD hS hl
  exact lv_idiv hx hb hdg hne (kk H locs ls hP hD hS hl)
theorem jw_irem {X : JX} {cells slots : Nat} {w : va_W} {pc : Nat} {lv : List (Nat × Value)} {rest : List Value} {cc : ByteArray} {nL : Nat} {Ts : List Cond} {own : String} {rm : Room} (hX : jOK X cc nL Ts own rm) {x y : Int32} (hdg : decode cc pc = .ok (.irem, 1)) (hne : ¬ y = 0) (kk : JW X cells slots w (pc + 1) lv (.int (x - x / y * y) :: rest)) : JW X cells slots w (pc) lv (.int y :: .int x :: rest) := by
  obtain ⟨p, l, e, R, s, m, args, below, meth, c, D, A, nL9, Q, tys⟩ := X
  obtain ⟨⟨hx, hb, hml, hown, hts⟩, rfl, hK, hA, hlk, hR⟩ := hX
  intro H locs ls hP hD hS hl
  exact lv_irem hx hb hdg hne (kk H locs ls hP hD hS hl)
theorem jw_ineg {X : JX} {cells slots : Nat} {w : va_W} {pc : Nat} {lv : List (Nat × Value)} {rest : List Value} {cc : ByteArray} {nL : Nat} {Ts : List Cond} {own : String} {rm : Room} (hX : jOK X cc nL Ts own rm) {x : Int32} (hdg : decode cc pc = .ok (.ineg, 1)) (kk : JW X cells slots w (pc + 1) lv (.int (-x) :: rest)) : JW X cells slots w (pc) lv (.int x :: rest) := by
  obtain ⟨p, l, e, R, s, m, args, below, meth, c, D, A, nL9, Q, tys⟩ := X
  obtain ⟨⟨hx, hb, hml, hown, hts⟩, rfl, hK, hA, hlk, hR⟩ := hX
  intro H locs ls hP hD hS hl
  exact lv_ineg hx hb hdg (kk H locs ls hP hD hS hl)
theorem jw_i2l {X : JX} {cells slots : Nat} {w : va_W} {pc : Nat} {lv : List (Nat × Value)} {rest : List Value} {cc : ByteArray} {nL : Nat} {Ts : List Cond} {own : String} {rm : Room} (hX : jOK X cc nL Ts own rm) {x : Int32} {v : Int64} (hdg : decode cc pc = .ok (.i2l, 1)) (hv : x.toInt64 = v) (kk : JW X cells slots w (pc + 1) lv (.long v :: rest)) : JW X cells slots w (pc) lv (.int x :: rest) := by
  obtain ⟨p, l, e, R, s, m, args, below, meth, c, D, A, nL9, Q, tys⟩ := X
  obtain ⟨⟨hx, hb, hml, hown, hts⟩, rfl, hK, hA, hlk, hR⟩ := hX
  intro H locs ls hP hD hS hl
  exact lv_i2l hx hb hdg hv (kk H locs ls hP hD hS hl)
theorem jw_dup {X : JX} {cells slots : Nat} {w : va_W} {pc : Nat} {lv : List (Nat × Value)} {rest : List Value} {cc : ByteArray} {nL : Nat} {Ts : List Cond} {own : String} {rm : Room} (hX : jOK X cc nL Ts own rm) {va : Value} (hdg : decode cc pc = .ok (.dup, 1)) (hva : va.category = 1) (kk : JW X cells slots w (pc + 1) lv (va :: va :: rest)) : JW X cells slots w (pc) lv (va :: rest) := by
  obtain ⟨p, l, e, R, s, m, args, below, meth, c, D, A, nL9, Q, tys⟩ := X
  obtain ⟨⟨hx, hb, hml, hown, hts⟩, rfl, hK, hA, hlk, hR⟩ := hX
  intro H locs ls hP hD hS hl
  exact lv_dup hx hb hdg hva (kk H locs ls hP hD hS hl)
theorem jw_pop {X : JX} {cells slots : Nat} {w : va_W} {pc : Nat} {lv : List (Nat × Value)} {rest : List Value} {cc : ByteArray} {nL : Nat} {Ts : List Cond} {own : String} {rm : Room} (hX : jOK X cc nL Ts own rm) {va : Value} (hdg : decode cc pc = .ok (.pop, 1)) (hva : va.category = 1) (kk : JW X cells slots w (pc + 1) lv rest) : JW X cells slots w (pc) lv (va :: rest) := by
  obtain ⟨p, l, e, R, s, m, args, below, meth, c, D, A, nL9, Q, tys⟩ := X
  obtain ⟨⟨hx, hb, hml, hown, hts⟩, rfl, hK, hA, hlk, hR⟩ := hX
  intro H locs ls hP hD hS hl
  exact lv_pop hx hb hdg hva (kk H locs ls hP hD hS hl)
theorem jw_dup2 {X : JX} {cells slots : Nat} {w : va_W} {pc : Nat} {lv : List (Nat × Value)} {rest : List Value} {cc : ByteArray} {nL : Nat} {Ts : List Cond} {own : String} {rm : Room} (hX : jOK X cc nL Ts own rm) {va vb : Value} (hdg : decode cc pc = .ok (.dup2, 1)) (hva : va.category = 1) (hvb : vb.category = 1) (kk : JW X cells slots w (pc + 1) lv (va :: vb :: va :: vb :: rest)) : JW X cells slots w (pc) lv (va :: vb :: rest) := by
  obtain ⟨p, l, e, R, s, m, args, below, meth, c, D, A, nL9, Q, tys⟩ := X
  obtain ⟨⟨hx, hb, hml, hown, hts⟩, rfl, hK, hA, hlk, hR⟩ := hX
  intro H locs ls hP hD hS hl
  exact lv_dup2_11 hx hb hdg hva hvb (kk H locs ls hP hD hS hl)
theorem jw_dup_x1 {X : JX} {cells slots : Nat} {w : va_W} {pc : Nat} {lv : List (Nat × Value)} {rest : List Value} {cc : ByteArray} {nL : Nat} {Ts : List Cond} {own : String} {rm : Room} (hX : jOK X cc nL Ts own rm) {va vb : Value} (hdg : decode cc pc = .ok (.dup_x1, 1)) (hva : va.category = 1) (hvb : vb.category = 1) (kk : JW X cells slots w (pc + 1) lv (va :: vb :: va :: rest)) : JW X cells slots w (pc) lv (va :: vb :: rest) := by
  obtain ⟨p, l, e, R, s, m, args, below, meth, c, D, A, nL9, Q, tys⟩ := X
  obtain ⟨⟨hx, hb, hml, hown, hts⟩, rfl, hK, hA, hlk, hR⟩ := hX
  intro H locs ls hP hD hS hl
  exact lv_dup_x1 hx hb hdg hva hvb (kk H locs ls hP hD hS hl)
theorem jw_if_eq {X : JX} {cells slots : Nat} {w : va_W} {pc : Nat} {lv : List (Nat × Value)} {rest : List Value} {cc : ByteArray} {nL : Nat} {Ts : List Cond} {own : String} {rm : Room} (hX : jOK X cc nL Ts own rm) {x : Int32} {off : Int} {tgt : Nat} (hdg : decode cc pc = .ok (.ifCond .eq off, 3)) (ht : (pc : Int) + off = (tgt : Int)) (kt : x = 0 → JW X cells slots w (tgt) lv rest) (kf : ¬ (x = 0) → JW X cells slots w (pc + 3) lv rest) : JW X cells slots w (pc) lv (.int x :: rest) := by
  obtain ⟨p, l, e, R, s, m, args, below, meth, c, D, A, nL9, Q, tys⟩ := X
  obtain ⟨⟨hx, hb, hml, hown, hts⟩, rfl, hK, hA, hlk, hR⟩ := hX
  intro H locs ls hP hD hS hl
  exact lv_if_eq hx hb hdg ht (fun h9 => kt h9 H locs ls hP hD hS hl) (fun h9 => kf h9 H locs ls hP hD hS hl)
theorem jw_icmp_eq {X : JX} {cells slots : Nat} {w : va_W} {pc : Nat} {lv : List (Nat × Value)} {rest : List Value} {cc : ByteArray} {nL : Nat} {Ts : List Cond} {own : String} {rm : Room} (hX : jOK X cc nL Ts own rm) {x y : Int32} {off : Int} {tgt : Nat} (hdg : decode cc pc = .ok (.if_icmp .eq off, 3)) (ht : (pc : Int) + off = (tgt : Int)) (kt : x = y → JW X cells slots w (tgt) lv rest) (kf : ¬ (x = y) → JW X cells slots w (pc + 3) lv rest) : JW X cells slots w (pc) lv (.int y :: .int x :: rest) := by
  obtain ⟨p, l, e, R, s, m, args, below, meth, c, D, A, nL9, Q, tys⟩ := X
  obtain ⟨⟨hx, hb, hml, hown, hts⟩, rfl, hK, hA, hlk, hR⟩ := hX
  intro H locs ls hP hD hS hl
  exact lv_icmp_eq hx hb hdg ht (fun h9 => kt h9 H locs ls hP hD hS hl) (fun h9 => kf h9 H locs ls hP hD hS hl)
theorem jw_if_ne {X : JX} {cells slots : Nat} {w : va_W} {pc : Nat} {lv : List (Nat × Value)} {rest : List Value} {cc : ByteArray} {nL : Nat} {Ts : List Cond} {own : String} {rm : Room} (hX : jOK X cc nL Ts own rm) {x : Int32} {off : Int} {tgt : Nat} (hdg : decode cc pc = .ok (.ifCond .ne off, 3)) (ht : (pc : Int) + off = (tgt : Int)) (kt : ¬ x = 0 → JW X cells slots w (tgt) lv rest) (kf : x = 0 → JW X cells slots w (pc + 3) lv rest) : JW X cells slots w (pc) lv (.int x :: rest) := by
  obtain ⟨p, l, e, R, s, m, args, below, meth, c, D, A, nL9, Q, tys⟩ := X
  obtain ⟨⟨hx, hb, hml, hown, hts⟩, rfl, hK, hA, hlk, hR⟩ := hX
  intro H locs ls hP hD hS hl
  exact lv_if_ne hx hb hdg ht (fun h9 => kt h9 H locs ls hP hD hS hl) (fun h9 => kf h9 H locs ls hP hD hS hl)
theorem jw_icmp_ne {X : JX} {cells slots : Nat} {w : va_W} {pc : Nat} {lv : List (Nat × Value)} {rest : List Value} {cc : ByteArray} {nL : Nat} {Ts : List Cond} {own : String} {rm : Room} (hX : jOK X cc nL Ts own rm) {x y : Int32} {off : Int} {tgt : Nat} (hdg : decode cc pc = .ok (.if_icmp .ne off, 3)) (ht : (pc : Int) + off = (tgt : Int)) (kt : ¬ x = y → JW X cells slots w (tgt) lv rest) (kf : x = y → JW X cells slots w (pc + 3) lv rest) : JW X cells slots w (pc) lv (.int y :: .int x :: rest) := by
  obtain ⟨p, l, e, R, s, m, args, below, meth, c, D, A, nL9, Q, tys⟩ := X
  obtain ⟨⟨hx, hb, hml, hown, hts⟩, rfl, hK, hA, hlk, hR⟩ := hX
  intro H locs ls hP hD hS hl
  exact lv_icmp_ne hx hb hdg ht (fun h9 => kt h9 H locs ls hP hD hS hl) (fun h9 => kf h9 H locs ls hP hD hS hl)
theorem jw_if_lt {X : JX} {cells slots : Nat} {w : va_W} {pc : Nat} {lv : List (Nat × Value)} {rest : List Value} {cc : ByteArray} {nL : Nat} {Ts : List Cond} {own : String} {rm : Room} (hX : jOK X cc nL Ts own rm) {x : Int32} {off : Int} {tgt : Nat} (hdg : decode cc pc = .ok (.ifCond .lt off, 3)) (ht : (pc : Int) + off = (tgt : Int)) (kt : x < 0 → JW X cells slots w (tgt) lv rest) (kf : ¬ (x < 0) → JW X cells slots w (pc + 3) lv rest) : JW X cells slots w (pc) lv (.int x :: rest) := by
  obtain ⟨p, l, e, R, s, m, args, below, meth, c, D, A, nL9, Q, tys⟩ := X
  obtain ⟨⟨hx, hb, hml, hown, hts⟩, rfl, hK, hA, hlk, hR⟩ := hX
  intro H locs ls hP hD hS hl
  exact lv_if_lt hx hb hdg ht (fun h9 => kt h9 H locs ls hP hD hS hl) (fun h9 => kf h9 H locs ls hP hD hS hl)
theorem jw_icmp_lt {X : JX} {cells slots : Nat} {w : va_W} {pc : Nat} {lv : List (Nat × Value)} {rest : List Value} {cc : ByteArray} {nL : Nat} {Ts : List Cond} {own : String} {rm : Room} (hX : jOK X cc nL Ts own rm) {x y : Int32} {off : Int} {tgt : Nat} (hdg : decode cc pc = .ok (.if_icmp .lt off, 3)) (ht : (pc : Int) + off = (tgt : Int)) (kt : x < y → JW X cells slots w (tgt) lv rest) (kf : ¬ (x < y) → JW X cells slots w (pc + 3) lv rest) : JW X cells slots w (pc) lv (.int y :: .int x :: rest) := by
  obtain ⟨p, l, e, R, s, m, args, below, meth, c, D, A, nL9, Q, tys⟩ := X
  obtain ⟨⟨hx, hb, hml, hown, hts⟩, rfl, hK, hA, hlk, hR⟩ := hX
  intro H locs ls hP hD hS hl
  exact lv_icmp_lt hx hb hdg ht (fun h9 => kt h9 H locs ls hP hD hS hl) (fun h9 => kf h9 H locs ls hP hD hS hl)
theorem jw_if_ge {X : JX} {cells slots : Nat} {w : va_W} {pc : Nat} {lv : List (Nat × Value)} {rest : List Value} {cc : ByteArray} {nL : Nat} {Ts : List Cond} {own : String} {rm : Room} (hX : jOK X cc nL Ts own rm) {x : Int32} {off : Int} {tgt : Nat} (hdg : decode cc pc = .ok (.ifCond .ge off, 3)) (ht : (pc : Int) + off = (tgt : Int)) (kt : 0 ≤ x → JW X cells slots w (tgt) lv rest) (kf : ¬ (0 ≤ x) → JW X cells slots w (pc + 3) lv rest) : JW X cells slots w (pc) lv (.int x :: rest) := by
  obtain ⟨p, l, e, R, s, m, args, below, meth, c, D, A, nL9, Q, tys⟩ := X
  obtain ⟨⟨hx, hb, hml, hown, hts⟩, rfl, hK, hA, hlk, hR⟩ := hX
  intro H locs ls hP hD hS hl
  exact lv_if_ge hx hb hdg ht (fun h9 => kt h9 H locs ls hP hD hS hl) (fun h9 => kf h9 H locs ls hP hD hS hl)
theorem jw_icmp_ge {X : JX} {cells slots : Nat} {w : va_W} {pc : Nat} {lv : List (Nat × Value)} {rest : List Value} {cc : ByteArray} {nL : Nat} {Ts : List Cond} {own : String} {rm : Room} (hX : jOK X cc nL Ts own rm) {x y : Int32} {off : Int} {tgt : Nat} (hdg : decode cc pc = .ok (.if_icmp .ge off, 3)) (ht : (pc : Int) + off = (tgt : Int)) (kt : y ≤ x → JW X cells slots w (tgt) lv rest) (kf : ¬ (y ≤ x) → JW X cells slots w (pc + 3) lv rest) : JW X cells slots w (pc) lv (.int y :: .int x :: rest) := by
  obtain ⟨p, l, e, R, s, m, args, below, meth, c, D, A, nL9, Q, tys⟩ := X
  obtain ⟨⟨hx, hb, hml, hown, hts⟩, rfl, hK, hA, hlk, hR⟩ := hX
  intro H locs ls hP hD hS hl
  exact lv_icmp_ge hx hb hdg ht (fun h9 => kt h9 H locs ls hP hD hS hl) (fun h9 => kf h9 H locs ls hP hD hS hl)
theorem jw_if_gt {X : JX} {cells slots : Nat} {w : va_W} {pc : Nat} {lv : List (Nat × Value)} {rest : List Value} {cc : ByteArray} {nL : Nat} {Ts : List Cond} {own : String} {rm : Room} (hX : jOK X cc nL Ts own rm) {x : Int32} {off : Int} {tgt : Nat} (hdg : decode cc pc = .ok (.ifCond .gt off, 3)) (ht : (pc : Int) + off = (tgt : Int)) (kt : 0 < x → JW X cells slots w (tgt) lv rest) (kf : ¬ (0 < x) → JW X cells slots w (pc + 3) lv rest) : JW X cells slots w (pc) lv (.int x :: rest) := by
  obtain ⟨p, l, e, R, s, m, args, below, meth, c, D, A, nL9, Q, tys⟩ := X
  obtain ⟨⟨hx, hb, hml, hown, hts⟩, rfl, hK, hA, hlk, hR⟩ := hX
  intro H locs ls hP hD hS hl
  exact lv_if_gt hx hb hdg ht (fun h9 => kt h9 H locs ls hP hD hS hl) (fun h9 => kf h9 H locs ls hP hD hS hl)
theorem jw_icmp_gt {X : JX} {cells slots : Nat} {w : va_W} {pc : Nat} {lv : List (Nat × Value)} {rest : List Value} {cc : ByteArray} {nL : Nat} {Ts : List Cond} {own : String} {rm : Room} (hX : jOK X cc nL Ts own rm) {x y : Int32} {off : Int} {tgt : Nat} (hdg : decode cc pc = .ok (.if_icmp .gt off, 3)) (ht : (pc : Int) + off = (tgt : Int)) (kt : y < x → JW X cells slots w (tgt) lv rest) (kf : ¬ (y < x) → JW X cells slots w (pc + 3) lv rest) : JW X cells slots w (pc) lv (.int y :: .int x :: rest) := by
  obtain ⟨p, l, e, R, s, m, args, below, meth, c, D, A, nL9, Q, tys⟩ := X
  obtain ⟨⟨hx, hb, hml, hown, hts⟩, rfl, hK, hA, hlk, hR⟩ := hX
  intro H locs ls hP hD hS hl
  exact lv_icmp_gt hx hb hdg ht (fun h9 => kt h9 H locs ls hP hD hS hl) (fun h9 => kf h9 H locs ls hP hD hS hl)
theorem jw_if_le {X : JX} {cells slots : Nat} {w : va_W} {pc : Nat} {lv : List (Nat × Value)} {rest : List Value} {cc : ByteArray} {nL : Nat} {Ts : List Cond} {own : String} {rm : Room} (hX : jOK X cc nL Ts own rm) {x : Int32} {off : Int} {tgt : Nat} (hdg : decode cc pc = .ok (.ifCond .le off, 3)) (ht : (pc : Int) + off = (tgt : Int)) (kt : x ≤ 0 → JW X cells slots w (tgt) lv rest) (kf : ¬ (x ≤ 0) → JW X cells slots w (pc + 3) lv rest) : JW X cells slots w (pc) lv (.int x :: rest) := by
  obtain ⟨p, l, e, R, s, m, args, below, meth, c, D, A, nL9, Q, tys⟩ := X
  obtain ⟨⟨hx, hb, hml, hown, hts⟩, rfl, hK, hA, hlk, hR⟩ := hX
  intro H locs ls hP hD hS hl
  exact lv_if_le hx hb hdg ht (fun h9 => kt h9 H locs ls hP hD hS hl) (fun h9 => kf h9 H locs ls hP hD hS hl)
theorem jw_icmp_le {X : JX} {cells slots : Nat} {w : va_W} {pc : Nat} {lv : List (Nat × Value)} {rest : List Value} {cc : ByteArray} {nL : Nat} {Ts : List Cond} {own : String} {rm : Room} (hX : jOK X cc nL Ts own rm) {x y : Int32} {off : Int} {tgt : Nat} (hdg : decode cc pc = .ok (.if_icmp .le off, 3)) (ht : (pc : Int) + off = (tgt : Int)) (kt : x ≤ y → JW X cells slots w (tgt) lv rest) (kf : ¬ (x ≤ y) → JW X cells slots w (pc + 3) lv rest) : JW X cells slots w (pc) lv (.int y :: .int x :: rest) := by
  obtain ⟨p, l, e, R, s, m, args, below, meth, c, D, A, nL9, Q, tys⟩ := X
  obtain ⟨⟨hx, hb, hml, hown, hts⟩, rfl, hK, hA, hlk, hR⟩ := hX
  intro H locs ls hP hD hS hl
  exact lv_icmp_le hx hb hdg ht (fun h9 => kt h9 H locs ls hP hD hS hl) (fun h9 => kf h9 H locs ls hP hD hS hl)
theorem jw_goto {X : JX} {cells slots : Nat} {w : va_W} {pc : Nat} {lv : List (Nat × Value)} {rest : List Value} {cc : ByteArray} {nL : Nat} {Ts : List Cond} {own : String} {rm : Room} (hX : jOK X cc nL Ts own rm) {off : Int} {tgt : Nat} (hdg : decode cc pc = .ok (.goto off, 3)) (ht : (pc : Int) + off = (tgt : Int)) (kk : JW X cells slots w (tgt) lv rest) : JW X cells slots w (pc) lv rest := by
  obtain ⟨p, l, e, R, s, m, args, below, meth, c, D, A, nL9, Q, tys⟩ := X
  obtain ⟨⟨hx, hb, hml, hown, hts⟩, rfl, hK, hA, hlk, hR⟩ := hX
  intro H locs ls hP hD hS hl
  exact lv_goto hx hb hdg ht (kk H locs ls hP hD hS hl)
theorem jw_sub {X : JX} {cells slots : Nat} {w : va_W} {pc : Nat} {lv : List (Nat × Value)} {st : List Value} (ks : List Nat) (lv' : List (Nat × Value)) (hl' : lv_pick lv ks = lv') (kk : JW X cells slots w pc lv' st) : JW X cells slots w pc lv st := by
  obtain ⟨p, l, e, R, s, m, args, below, meth, c, D, A, nL9, Q, tys⟩ := X
  intro H locs ls hP hD hS hl
  exact kk H locs ls hP hD hS (lv_sub hl ks hl')
theorem jw_widen {X : JX} {cells slots : Nat} {w : va_W} {pc : Nat} {lv : List (Nat × Value)} {st : List Value} (k n : Nat) (h1 : cells ≤ k) (h2 : slots ≤ n) (kk : JW X k n w pc lv st) : JW X cells slots w pc lv st := by
  obtain ⟨p, l, e, R, s, m, args, below, meth, c, D, A, nL9, Q, tys⟩ := X
  intro H locs ls hP hD hS hl
  exact W.widen h1 h2 (kk H locs ls hP hD hS hl)
/-- a call's end, for a contract: what it leaves is the whole world -/
theorem jw_run {l : Launch} {p : Program} {e : Env} {R : Room} {s : State} {m : MethodId} {args : Array Value} {below : List Frame} {meth : Method} {c : Code} {D : va_G} {A : Nat → Prop} {nL : Nat} {Q : State → Prop} {tys : List (ClassId × FieldType)} {cells slots mc ms pc : Nat} {w : va_W} {lv : List (Nat × Value)} {st0 rest : List Value} {H : Heap} {locs : List Loc} {ls : Array Slot} {post : Option Value → va_W → Prop} {a : Array Value}
    (hr : va_Run p l e R s m args below meth c H locs cells slots mc ms (F0 m pc ls st0) rest (jQc D tys w H.size post a) (va_A w H.size)) (hS : va_S A s.heap H locs) (hF : ∀ q, va_A w H.size q → A q) (hl : lv_has ls nL lv)
    (kk : ∀ (ov : Option Value) (w' : va_W), post ov w' → JW (p, l, e, R, s, m, args, below, meth, c, D, A, nL, Q, tys) (cells + mc) (slots + ms) w' (pc + 3) lv (ov.toList ++ rest)) : W p l e R s m args below meth c H locs cells slots Q (F0 m pc ls st0) := by
  intro T hT X
  obtain ⟨v, st₀, t, T', L, h0, X', hL, e1, e2, ⟨⟨ov, w', hv, hp, hP1, -, hD1⟩, hz, hk⟩, st⟩ := hr T hT X
  cases hv
  rw [h0] at hz hk
  obtain ⟨t2, a1, b1⟩ := kk v w' hp T'.heap (locs ++ L) ls (by rw [e1]; exact hP1) (hD1.weaken (fun q _ _ h => hF _ h))
    ⟨Nat.le_trans hS.1 (by rw [e1]; exact hz), fun q h1 h2 => by rw [e1, hk q (Nat.lt_of_lt_of_le h1 hS.1) (fun z => h2 (hF q z))]; exact hS.2.1 q h1 h2, fun q hq => by
      rcases List.mem_append.mp hq with h | h
      · exact hS.2.2 q h
      · exact hF _ (hL q h)⟩ hl T' rfl X'
  exact ⟨t2, st t2 a1, b1⟩
theorem jG_at {G : JG} (hG : jGok G) {s U : State} {A B : Nat → Prop} {H : Heap} {locs : List Loc} (h : G A s s.heap) (hS : va_S A s.heap H locs) (hAB : ∀ q, B q → A q) (hU : U.heap = H) (hW : s.WarmedH U.vm) : G B U U.heap := by
  rw [hU]
  exact hG.2.2 A B U H hAB (hG.1 A s U H hW (hG.2.1 A s s.heap H (fun a h1 h2 => hS.2.1 a h1 h2) h))
theorem jw_free {w : va_W} {A : Nat → Prop} {H0 H : Heap} {locs : List Loc} (hD : va_D A w) (hS : va_S A H0 H locs) (hA : ∀ q, H0.size ≤ q → A q) : ∀ q, va_A w H.size q → A q := by
  intro q h
  rcases h with ⟨k, e, hk⟩ | h
  · exact hD.2 k (q, e) hk
  · exact hA q (Nat.le_trans hS.1 h)
/-- a call by invokevirtual of a method whose contract takes the whole world -/
theorem jw_callV {X : JX} {cells slots : Nat} {w : va_W} {pc : Nat} {lv : List (Nat × Value)} {rest : List Value} {cc : ByteArray} {nL : Nat} {Ts : List Cond} {own : String} {rm : Room} (hX : jOK X cc nL Ts own rm) {G : JG} (hG : jGok G) (hGX : jG X G)
    {y : MethodName} {ws ws' : List Cond} {rm' : Room} {C : String} {index maxL b : Nat} {bytes : ByteArray} {ret : Option FieldType} {post : Option Value → va_W → Prop} {As : List Value} (n : Nat)
    (hC : CC (jL X) G (jD X) (jT X) y ws rm' (.ref b :: As) w post) (hgood : GoodIn Ts (wsV own index C y ws)) (hw : ws = Cond.code y bytes maxL ret :: ws')
    (hd : y.cls = C ∧ y.cls ≠ "java/lang/invoke/MethodHandle" ∧ y.cls ≠ "java/lang/invoke/VarHandle" ∧ (parseMethodDescriptor y.desc).map (fun d => d.parameters.length) = some n) (hR : rm'.frames + 1 ≤ rm.frames ∧ 8 + (maxL + 11) + rm'.locals ≤ rm.locals)
    (q0 ci : Nat) {fs : List Value} {T : u_T} {N : Nat} (he : w[q0]? = some (b, .inr (ci, fs))) (hc : vwCl[ci]? = some (C, T, N)) (hn : As.length = n) (hst : (rest.map fun v => v.category).sum ≤ 8) (hdg : decode cc pc = .ok (.invokevirtual index, 3)) (hcs : cells + rm'.cells ≤ rm.cells ∧ slots + rm'.slots ≤ rm.slots)
    (kk : ∀ (ov : Option Value) (w' : va_W), post ov w' → JW X (cells + rm'.cells) (slots + rm'.slots) w' (pc + 3) lv (ov.toList ++ rest)) : JW X cells slots w pc lv (As.reverse ++ .ref b :: rest) := by
  obtain ⟨p, l, e, R, s, m, args, below, meth, c, D, A, nL9, Q, tys⟩ := X
  obtain ⟨⟨hx, hb, hml, hown, hts⟩, rfl, hK, hA, hlk, rfl⟩ := hX
  intro H locs ls hP hD hS hl
  have hF := jw_free hD hS hA
  refine jw_run (va_runV (As := As) (rest := rest) ⟨hx, hb, hml, hown, hts⟩ (hC H.size) (cwV n hts hgood hw rfl rfl hd hR) ⟨jPc_blind hG, va_recv hK hP hc he, fun U hU hW => ⟨rfl, by rw [hU], by rw [hU]; exact hP, va_K.moved hW.alike hK, hD.weaken (fun _ _ _ _ => trivial), jG_at hG hGX hS hF hU hW⟩⟩ rfl hn hl.1 rfl (lv_room hst) (by exact hdg) hcs) hS hF hl kk
/-- .. by invokestatic -/
theorem jw_callS {X : JX} {cells slots : Nat} {w : va_W} {pc : Nat} {lv : List (Nat × Value)} {rest : List Value} {cc : ByteArray} {nL : Nat} {Ts : List Cond} {own : String} {rm : Room} (hX : jOK X cc nL Ts own rm) {G : JG} (hG : jGok G) (hGX : jG X G)
    {y : MethodName} {ws ws' : List Cond} {rm' : Room} {index maxL : Nat} {bytes : ByteArray} {ret : Option FieldType} {post : Option Value → va_W → Prop} {As : List Value} (n : Nat)
    (hC : CC (jL X) G (jD X) (jT X) y ws rm' As w post) (hgood : GoodIn Ts (va_wsS own index y ws)) (hw : ws = Cond.code y bytes maxL ret :: ws')
    (hd : y.cls ≠ "java/lang/invoke/MethodHandle" ∧ y.cls ≠ "java/lang/invoke/VarHandle" ∧ (parseMethodDescriptor y.desc).map (fun d => d.parameters.length) = some n) (hR : rm'.frames + 1 ≤ rm.frames ∧ 8 + (maxL + 11) + rm'.locals ≤ rm.locals)
    (hn : As.length = n) (hst : (rest.map fun v => v.category).sum ≤ 8) (hdg : decode cc pc = .ok (.invokestatic index, 3)) (hcs : cells + rm'.cells ≤ rm.cells ∧ slots + rm'.slots ≤ rm.slots)
    (kk : ∀ (ov : Option Value) (w' : va_W), post ov w' → JW X (cells + rm'.cells) (slots + rm'.slots) w' (pc + 3) lv (ov.toList ++ rest)) : JW X cells slots w pc lv (As.reverse ++ rest) := by
  obtain ⟨p, l, e, R, s, m, args, below, meth, c, D, A, nL9, Q, tys⟩ := X
  obtain ⟨⟨hx, hb, hml, hown, hts⟩, rfl, hK, hA, hlk, rfl⟩ := hX
  intro H locs ls hP hD hS hl
  have hF := jw_free hD hS hA
  refine jw_run (va_runS (As := As) (rest := rest) ⟨hx, hb, hml, hown, hts⟩ (hC H.size) (va_cwS n hts hgood hw rfl rfl hd hR) ⟨jPc_blind hG, fun U hU hW => ⟨rfl, by rw [hU], by rw [hU]; exact hP, va_K.moved hW.alike hK, hD.weaken (fun _ _ _ _ => trivial), jG_at hG hGX hS hF hU hW⟩⟩ rfl hn hl.1 rfl (lv_room hst) (by exact hdg) hcs) hS hF hl kk
theorem jw_topi {X : JX} {cells slots : Nat} {w : va_W} {pc : Nat} {lv : List (Nat × Value)} {rest : List Value} {x : Int32} (kk : ∀ y : Int32, y = x → JW X cells slots w pc lv (.int y :: rest)) : JW X cells slots w pc lv (.int x :: rest) := kk x rfl
def jRI (X : JX) (cc : ByteArray) (rm : Room) (post : Option Value → va_W → Prop) : Prop := ∀ (cells slots : Nat) (w' : va_W) (pc : Nat) (lv : List (Nat × Value)) (v : Int32), cells ≤ rm.cells → slots ≤ rm.slots → decode cc pc = .ok (.ireturn, 1) → post (some (.int v)) w' → JW X cells slots w' pc lv [.int v]
def jRZ (X : JX) (cc : ByteArray) (rm : Room) (post : Option Value → va_W → Prop) : Prop := ∀ (cells slots : Nat) (w' : va_W) (pc : Nat) (lv : List (Nat × Value)) (v : Int32), (v = 0 ∨ v = 1) → cells ≤ rm.cells → slots ≤ rm.slots → decode cc pc = .ok (.ireturn, 1) → post (some (.int v)) w' → JW X cells slots w' pc lv [.int v]
def jRV (X : JX) (cc : ByteArray) (rm : Room) (post : Option Value → va_W → Prop) : Prop := ∀ (cells slots : Nat) (w' : va_W) (pc : Nat) (lv : List (Nat × Value)), cells ≤ rm.cells → slots ≤ rm.slots → decode cc pc = .ok (.return_, 1) → post none w' → JW X cells slots w' pc lv []
def jRA (X : JX) (cc : ByteArray) (rm : Room) (post : Option Value → va_W → Prop) : Prop := ∀ (cells slots : Nat) (w' : va_W) (pc : Nat) (lv : List (Nat × Value)) (a : Nat), cells ≤ rm.cells → slots ≤ rm.slots → decode cc pc = .ok (.areturn, 1) → post (some (.ref a)) w' → JW X cells slots w' pc lv [.ref a]
theorem tab_out {x : Int32} {hi : Nat} (hhi : hi < 1000) (h : ∀ j : Nat, j ≤ hi → x = nI j → False) : x.toInt < 0 ∨ (hi : Int) < x.toInt := by
  by_cases h0 : x.toInt < 0
  · exact Or.inl h0
  · by_cases h1 : (hi : Int) < x.toInt
    · exact Or.inr h1
    · refine absurd (h x.toInt.toNat (by omega) ?_) id
      apply Int32.toInt_inj.mp
      rw [nI_toInt (by omega)]
      omega

theorem jw_tableIn {X : JX} {cells slots : Nat} {w : va_W} {pc : Nat} {lv : List (Nat × Value)} {rest : List Value} {cc : ByteArray} {nL : Nat} {Ts : List Cond} {own : String} {rm : Room} (hX : jOK X cc nL Ts own rm) {dflt lo hi : Int} {offs : Array Int} {len : Nat} {x : Int32} {off : Int} {tgt : Nat} (j : Nat) (hdg : decode cc pc = .ok (.tableswitch dflt lo hi offs, len)) (hj : x = nI j) (h1 : ¬ (nI j).toInt < lo) (h2 : ¬ hi < (nI j).toInt) (ho : offs[((nI j).toInt - lo).toNat]? = some off) (ht : (pc : Int) + off = (tgt : Int)) (kk : JW X cells slots w (tgt) lv rest) : JW X cells slots w (pc) lv (.int x :: rest) := by
  obtain ⟨p, l, e, R, s, m, args, below, meth, c, D, A, nL9, Q, tys⟩ := X
  obtain ⟨⟨hx, hb, hml, hown, hts⟩, rfl, hK, hA, hlk, hR⟩ := hX
  intro H locs ls hP hD hS hl
  exact lv_tableIn hx hb hdg (by rw [hj]; exact h1) (by rw [hj]; exact h2) (by rw [hj]; exact ho) ht (kk H locs ls hP hD hS hl)
theorem jw_tableOut {X : JX} {cells slots : Nat} {w : va_W} {pc : Nat} {lv : List (Nat × Value)} {rest : List Value} {cc : ByteArray} {nL : Nat} {Ts : List Cond} {own : String} {rm : Room} (hX : jOK X cc nL Ts own rm) {dflt : Int} {hi : Nat} {offs : Array Int} {len : Nat} {x : Int32} {tgt : Nat} (hhi : hi < 1000) (hdg : decode cc pc = .ok (.tableswitch dflt 0 (hi : Int) offs, len)) (h : ∀ j : Nat, j ≤ hi → x = nI j → False) (ht : (pc : Int) + dflt = (tgt : Int)) (kk : JW X cells slots w (tgt) lv rest) : JW X cells slots w (pc) lv (.int x :: rest) := by
  obtain ⟨p, l, e, R, s, m, args, below, meth, c, D, A, nL9, Q, tys⟩ := X
  obtain ⟨⟨hx, hb, hml, hown, hts⟩, rfl, hK, hA, hlk, hR⟩ := hX
  intro H locs ls hP hD hS hl
  exact lv_tableOut hx hb hdg (tab_out hhi h) ht (kk H locs ls hP hD hS hl)
theorem jw_cVi {X : JX} {cells slots : Nat} {w : va_W} {pc : Nat} {lv : List (Nat × Value)} {rest : List Value} {cc : ByteArray} {nL : Nat} {Ts : List Cond} {own : String} {rm : Room} (hX : jOK X cc nL Ts own rm) {G : JG} (hG : jGok G) (hGX : jG X G) {y : MethodName} {ws ws' : List Cond} {rm' : Room} {C : String} {index maxL b : Nat} {bytes : ByteArray} {ret : Option FieldType} {As : List Value} {w1 : va_W} {r : Int32} (n : Nat) (hC : CC (jL X) G (jD X) (jT X) y ws rm' (.ref b :: As) w (fun ov w2 => ov = some (.int r) ∧ w2 = w1)) (hgood : GoodIn Ts (wsV own index C y ws)) (hw : ws = Cond.code y bytes maxL ret :: ws')
    (hd : y.cls = C ∧ y.cls ≠ "java/lang/invoke/MethodHandle" ∧ y.cls ≠ "java/lang/invoke/VarHandle" ∧ (parseMethodDescriptor y.desc).map (fun d => d.parameters.length) = some n) (hR : rm'.frames + 1 ≤ rm.frames ∧ 8 + (maxL + 11) + rm'.locals ≤ rm.locals)
    (q0 ci : Nat) {fs : List Value} {T : u_T} {N : Nat} (he : w[q0]? = some (b, .inr (ci, fs))) (hc : vwCl[ci]? = some (C, T, N)) (hn : As.length = n) (hst : (rest.map fun v => v.category).sum ≤ 8) (hdg : decode cc pc = .ok (.invokevirtual index, 3)) {cells' slots' : Nat} (h1c : cells + rm'.cells = cells') (h1s : slots + rm'.slots = slots') (hcs : cells' ≤ rm.cells ∧ slots' ≤ rm.slots)
    (kk : JW X cells' slots' w1 (pc + 3) lv (.int r :: rest)) : JW X cells slots w pc lv (As.reverse ++ .ref b :: rest) := by
  subst h1c h1s
  refine jw_callV hX hG hGX n hC hgood hw hd hR q0 ci he hc hn hst hdg hcs ?_
  rintro ov w' ⟨rfl, rfl⟩
  exact kk
theorem jw_cSi {X : JX} {cells slots : Nat} {w : va_W} {pc : Nat} {lv : List (Nat × Value)} {rest : List Value} {cc : ByteArray} {nL : Nat} {Ts : List Cond} {own : String} {rm : Room} (hX : jOK X cc nL Ts own rm) {G : JG} (hG : jGok G) (hGX : jG X G) {y : MethodName} {ws ws' : List Cond} {rm' : Room} {index maxL : Nat} {bytes : ByteArray} {ret : Option FieldType} {As : List Value} {w1 : va_W} {r : Int32} (n : Nat) (hC : CC (jL X) G (jD X) (jT X) y ws rm' As w (fun ov w2 => ov = some (.int r) ∧ w2 = w1)) (hgood : GoodIn Ts (va_wsS own index y ws)) (hw : ws = Cond.code y bytes maxL ret :: ws')
    (hd : y.cls ≠ "java/lang/invoke/MethodHandle" ∧ y.cls ≠ "java/lang/invoke/VarHandle" ∧ (parseMethodDescriptor y.desc).map (fun d => d.parameters.length) = some n) (hR : rm'.frames + 1 ≤ rm.frames ∧ 8 + (maxL + 11) + rm'.locals ≤ rm.locals)
    (hn : As.length = n) (hst : (rest.map fun v => v.category).sum ≤ 8) (hdg : decode cc pc = .ok (.invokestatic index, 3)) {cells' slots' : Nat} (h1c : cells + rm'.cells = cells') (h1s : slots + rm'.slots = slots') (hcs : cells' ≤ rm.cells ∧ slots' ≤ rm.slots)
    (kk : JW X cells' slots' w1 (pc + 3) lv (.int r :: rest)) : JW X cells slots w pc lv (As.reverse ++ rest) := by
  subst h1c h1s
  refine jw_callS hX hG hGX n hC hgood hw hd hR hn hst hdg hcs ?_
  rintro ov w' ⟨rfl, rfl⟩
  exact kk
theorem jw_cVv {X : JX} {cells slots : Nat} {w : va_W} {pc : Nat} {lv : List (Nat × Value)} {rest : List Value} {cc : ByteArray} {nL : Nat} {Ts : List Cond} {own : String} {rm : Room} (hX : jOK X cc nL Ts own rm) {G : JG} (hG : jGok G) (hGX : jG X G) {y : MethodName} {ws ws' : List Cond} {rm' : Room} {C : String} {index maxL b : Nat} {bytes : ByteArray} {ret : Option FieldType} {As : List Value} {w1 : va_W} (n : Nat) (hC : CC (jL X) G (jD X) (jT X) y ws rm' (.ref b :: As) w (fun ov w2 => ov = none ∧ w2 = w1)) (hgood : GoodIn Ts (wsV own index C y ws)) (hw : ws = Cond.code y bytes maxL ret :: ws')
    (hd : y.cls = C ∧ y.cls ≠ "java/lang/invoke/MethodHandle" ∧ y.cls ≠ "java/lang/invoke/VarHandle" ∧ (parseMethodDescriptor y.desc).map (fun d => d.parameters.length) = some n) (hR : rm'.frames + 1 ≤ rm.frames ∧ 8 + (maxL + 11) + rm'.locals ≤ rm.locals)
    (q0 ci : Nat) {fs : List Value} {T : u_T} {N : Nat} (he : w[q0]? = some (b, .inr (ci, fs))) (hc : vwCl[ci]? = some (C, T, N)) (hn : As.length = n) (hst : (rest.map fun v => v.category).sum ≤ 8) (hdg : decode cc pc = .ok (.invokevirtual index, 3)) {cells' slots' : Nat} (h1c : cells + rm'.cells = cells') (h1s : slots + rm'.slots = slots') (hcs : cells' ≤ rm.cells ∧ slots' ≤ rm.slots)
    (kk : JW X cells' slots' w1 (pc + 3) lv rest) : JW X cells slots w pc lv (As.reverse ++ .ref b :: rest) := by
  subst h1c h1s
  refine jw_callV hX hG hGX n hC hgood hw hd hR q0 ci he hc hn hst hdg hcs ?_
  rintro ov w' ⟨rfl, rfl⟩
  exact kk
theorem jw_cSv {X : JX} {cells slots : Nat} {w : va_W} {pc : Nat} {lv : List (Nat × Value)} {rest : List Value} {cc : ByteArray} {nL : Nat} {Ts : List Cond} {own : String} {rm : Room} (hX : jOK X cc nL Ts own rm) {G : JG} (hG : jGok G) (hGX : jG X G) {y : MethodName} {ws ws' : List Cond} {rm' : Room} {index maxL : Nat} {bytes : ByteArray} {ret : Option FieldType} {As : List Value} {w1 : va_W} (n : Nat) (hC : CC (jL X) G (jD X) (jT X) y ws rm' As w (fun ov w2 => ov = none ∧ w2 = w1)) (hgood : GoodIn Ts (va_wsS own index y ws)) (hw : ws = Cond.code y bytes maxL ret :: ws')
    (hd : y.cls ≠ "java/lang/invoke/MethodHandle" ∧ y.cls ≠ "java/lang/invoke/VarHandle" ∧ (parseMethodDescriptor y.desc).map (fun d => d.parameters.length) = some n) (hR : rm'.frames + 1 ≤ rm.frames ∧ 8 + (maxL + 11) + rm'.locals ≤ rm.locals)
    (hn : As.length = n) (hst : (rest.map fun v => v.category).sum ≤ 8) (hdg : decode cc pc = .ok (.invokestatic index, 3)) {cells' slots' : Nat} (h1c : cells + rm'.cells = cells') (h1s : slots + rm'.slots = slots') (hcs : cells' ≤ rm.cells ∧ slots' ≤ rm.slots)
    (kk : JW X cells' slots' w1 (pc + 3) lv rest) : JW X cells slots w pc lv (As.reverse ++ rest) := by
  subst h1c h1s
  refine jw_callS hX hG hGX n hC hgood hw hd hR hn hst hdg hcs ?_
  rintro ov w' ⟨rfl, rfl⟩
  exact kk
theorem jw_cVr {X : JX} {cells slots : Nat} {w : va_W} {pc : Nat} {lv : List (Nat × Value)} {rest : List Value} {cc : ByteArray} {nL : Nat} {Ts : List Cond} {own : String} {rm : Room} (hX : jOK X cc nL Ts own rm) {G : JG} (hG : jGok G) (hGX : jG X G) {y : MethodName} {ws ws' : List Cond} {rm' : Room} {C : String} {index maxL b : Nat} {bytes : ByteArray} {ret : Option FieldType} {As : List Value} {w1 : va_W} {r : Nat} (n : Nat) (hC : CC (jL X) G (jD X) (jT X) y ws rm' (.ref b :: As) w (fun ov w2 => ov = some (.ref r) ∧ w2 = w1)) (hgood : GoodIn Ts (wsV own index C y ws)) (hw : ws = Cond.code y bytes maxL ret :: ws')
    (hd : y.cls = C ∧ y.cls ≠ "java/lang/invoke/MethodHandle" ∧ y.cls ≠ "java/lang/invoke/VarHandle" ∧ (parseMethodDescriptor y.desc).map (fun d => d.parameters.length) = some n) (hR : rm'.frames + 1 ≤ rm.frames ∧ 8 + (maxL + 11) + rm'.locals ≤ rm.locals)
    (q0 ci : Nat) {fs : List Value} {T : u_T} {N : Nat} (he : w[q0]? = some (b, .inr (ci, fs))) (hc : vwCl[ci]? = some (C, T, N)) (hn : As.length = n) (hst : (rest.map fun v => v.category).sum ≤ 8) (hdg : decode cc pc = .ok (.invokevirtual index, 3)) {cells' slots' : Nat} (h1c : cells + rm'.cells = cells') (h1s : slots + rm'.slots = slots') (hcs : cells' ≤ rm.cells ∧ slots' ≤ rm.slots)
    (kk : JW X cells' slots' w1 (pc + 3) lv (.ref r :: rest)) : JW X cells slots w pc lv (As.reverse ++ .ref b :: rest) := by
  subst h1c h1s
  refine jw_callV hX hG hGX n hC hgood hw hd hR q0 ci he hc hn hst hdg hcs ?_
  rintro ov w' ⟨rfl, rfl⟩
  exact kk
theorem jw_cSr {X : JX} {cells slots : Nat} {w : va_W} {pc : Nat} {lv : List (Nat × Value)} {rest : List Value} {cc : ByteArray} {nL : Nat} {Ts : List Cond} {own : String} {rm : Room} (hX : jOK X cc nL Ts own rm) {G : JG} (hG : jGok G) (hGX : jG X G) {y : MethodName} {ws ws' : List Cond} {rm' : Room} {index maxL : Nat} {bytes : ByteArray} {ret : Option FieldType} {As : List Value} {w1 : va_W} {r : Nat} (n : Nat) (hC : CC (jL X) G (jD X) (jT X) y ws rm' As w (fun ov w2 => ov = some (.ref r) ∧ w2 = w1)) (hgood : GoodIn Ts (va_wsS own index y ws)) (hw : ws = Cond.code y bytes maxL ret :: ws')
    (hd : y.cls ≠ "java/lang/invoke/MethodHandle" ∧ y.cls ≠ "java/lang/invoke/VarHandle" ∧ (parseMethodDescriptor y.desc).map (fun d => d.parameters.length) = some n) (hR : rm'.frames + 1 ≤ rm.frames ∧ 8 + (maxL + 11) + rm'.locals ≤ rm.locals)
    (hn : As.length = n) (hst : (rest.map fun v => v.category).sum ≤ 8) (hdg : decode cc pc = .ok (.invokestatic index, 3)) {cells' slots' : Nat} (h1c : cells + rm'.cells = cells') (h1s : slots + rm'.slots = slots') (hcs : cells' ≤ rm.cells ∧ slots' ≤ rm.slots)
    (kk : JW X cells' slots' w1 (pc + 3) lv (.ref r :: rest)) : JW X cells slots w pc lv (As.reverse ++ rest) := by
  subst h1c h1s
  refine jw_callS hX hG hGX n hC hgood hw hd hR hn hst hdg hcs ?_
  rintro ov w' ⟨rfl, rfl⟩
  exact kk
