/-- what may stand in a list -/
def okL (S : PS) (x : Nat) : Bool := decide (x ∈ sL S) && (decide (sK S x = 1) || decide (sK S x = 2) || decide (sK S x = 4))
theorem okL_at {cI cO : ClassId} {S : PS} {x : Nat} (h : okL S x = true) : ∃ (j k : Nat), (k = 1 ∨ k = 2 ∨ k = 4) ∧ (pW cI cO S)[j]? = some (x, .inr (k, pOb S x k)) := by
  simp only [okL, Bool.and_eq_true, Bool.or_eq_true, decide_eq_true_eq] at h
  obtain ⟨hL, hk⟩ := h
  obtain ⟨j, hj⟩ := pW_at (cI := cI) (cO := cO) hL
  rcases hk with (hk | hk) | hk
  · exact ⟨j, 1, Or.inl rfl, hj.trans (by rw [PF_ob hk (by decide)])⟩
  · exact ⟨j, 2, Or.inr (Or.inl rfl), hj.trans (by rw [PF_ob hk (by decide)])⟩
  · exact ⟨j, 4, Or.inr (Or.inr rfl), hj.trans (by rw [PF_ob hk (by decide)])⟩
theorem okL_cl {k : Nat} (hk : k = 1 ∨ k = 2 ∨ k = 4) : ∃ r : vw_C, vwCl[k]? = some r ∧ Cond.castable r.1 "java/lang/Object" ∈ gNc := by
  rcases hk with rfl | rfl | rfl
  · exact ⟨(RX0, TX0, 4), rfl, by decide +kernel⟩
  · exact ⟨(RX1, TX1, 6), rfl, by decide +kernel⟩
  · exact ⟨(RX3, TX3, 5), rfl, by decide +kernel⟩
def okE (e : Nat) (S : PS) (b : Nat) : Bool := decide (b = e) || okP S b 10
def alenO (e : Nat) (S : PS) (b : Nat) : Int32 := if b = e then 0 else nI (sN S b)
def allL (S : PS) (a n : Nat) : Prop := ∀ i, i < n → ∀ y, sO S a i = some y → okL S y = true
def cpO (S : PS) (a b n : Nat) : PS := (sL S, sK S, sI S, sR S, sN S, sA S, fun z => if z = b then va_cpy (sO S a) (sO S b) 0 0 n else sO S z)
theorem jw_paast {X : JX} {cells slots : Nat} {S : PS} {cI cZ cO cJ : ClassId} {pc : Nat} {lv : List (Nat × Value)} {rest : List Value} {cc : ByteArray} {nL : Nat} {Ts : List Cond} {own : String} {rm : Room} (hX : jOK X cc nL Ts own rm) (hT : jT X = jTy cI cZ cO cJ) {gs : JP} (hGX : jG X (GP gs)) {i : Int32} {b x : Nat} (hok : okP S b 10 = true) (hin : inB i (sN S b) = true) (hx9 : okL S x = true) (hdg : decode cc pc = .ok (.aastore, 1)) (kk : ∀ S1 : PS, S1 = pO S b i.toNatClampNeg (some x) → JW X cells slots (pW cI cO S1) (pc + 1) lv rest) : JW X cells slots (pW cI cO S) (pc) lv (.ref x :: .int i :: .ref b :: rest) := by
  obtain ⟨p, l, e, R, s, m, args, below, meth, c, D, A, nL9, Q, tys⟩ := X
  obtain ⟨⟨hx, hb, hml, hown, hts⟩, rfl, hK, hA, hlk, hR⟩ := hX
  obtain rfl : tys = jTy cI cZ cO cJ := hT
  intro H locs ls hP hD hS hl
  obtain ⟨g1, g2, g3, g4, g5, g6, g7, g8, g9, g10, g11, g12⟩ := hGX
  obtain ⟨hL, hKb⟩ := okP_in hok
  obtain ⟨j, hj⟩ := pW_at (cI := cI) (cO := cO) hL
  have he := hj
  rw [PF_oa hKb] at he
  obtain ⟨j2, k2, hk2, hj2⟩ := okL_at (cI := cI) (cO := cO) hx9
  obtain ⟨r, hr, hca⟩ := okL_cl hk2
  exact va_astqO hx hb hK hP hD hS j 2 j2 k2 he rfl (g3 _ hca) hj2 hr (inB_in hin) hdg (fun H1 locs1 hP1 hD1 hS1 => by
    rw [pW_putO hD hL hKb hj] at hP1 hD1
    exact kk _ rfl H1 locs1 ls hP1 hD1 hS1 hl)
theorem jw_pgetst {X : JX} {cells slots : Nat} {w : va_W} {pc : Nat} {lv : List (Nat × Value)} {rest : List Value} {cc : ByteArray} {nL : Nat} {Ts : List Cond} {own : String} {rm : Room} (hX : jOK X cc nL Ts own rm) {gs : JP} (hGX : jG X (GP gs)) {index : Nat} (hlink : Cond.fieldLink own index "java/util/ArrayList" "DEFAULTCAPACITY_EMPTY_ELEMENTDATA" "[Ljava/lang/Object;" ∈ Ts) (hdg : decode cc pc = .ok (.getstatic index, 3)) (kk : JW X cells slots w (pc + 3) lv (.ref gs.2.1 :: rest)) : JW X cells slots w (pc) lv rest := by
  obtain ⟨p, l, e, R, s, m, args, below, meth, c, D, A, nL9, Q, tys⟩ := X
  obtain ⟨⟨hx, hb, hml, hown, hts⟩, rfl, hK, hA, hlk, hR⟩ := hX
  intro H locs ls hP hD hS hl
  obtain ⟨g1, g2, g3, g4, g5, g6, g7, g8, g9, g10, g11, g12⟩ := hGX
  exact va_gets hx hb g7 hS hown (hts _ hlink) (fun _ h9 => h9) hdg (kk H locs ls hP hD hS hl)
theorem jw_acmp_eq {X : JX} {cells slots : Nat} {w : va_W} {pc : Nat} {lv : List (Nat × Value)} {rest : List Value} {cc : ByteArray} {nL : Nat} {Ts : List Cond} {own : String} {rm : Room} (hX : jOK X cc nL Ts own rm) {x y : Nat} {off : Int} {tgt : Nat} (hdg : decode cc pc = .ok (.if_acmp .eq off, 3)) (ht : (pc : Int) + off = (tgt : Int)) (kt : x = y → JW X cells slots w (tgt) lv rest) (kf : ¬ x = y → JW X cells slots w (pc + 3) lv rest) : JW X cells slots w (pc) lv (.ref y :: .ref x :: rest) := by
  obtain ⟨p, l, e, R, s, m, args, below, meth, c, D, A, nL9, Q, tys⟩ := X
  obtain ⟨⟨hx, hb, hml, hown, hts⟩, rfl, hK, hA, hlk, hR⟩ := hX
  intro H locs ls hP hD hS hl
  exact lv_acmp_eq (rx := some x) (ry := some y) hx hb hdg ht (fun h9 => kt (Option.some.inj h9) H locs ls hP hD hS hl) (fun h9 => kf (fun z => h9 (by rw [z])) H locs ls hP hD hS hl)
theorem jw_acmp_ne {X : JX} {cells slots : Nat} {w : va_W} {pc : Nat} {lv : List (Nat × Value)} {rest : List Value} {cc : ByteArray} {nL : Nat} {Ts : List Cond} {own : String} {rm : Room} (hX : jOK X cc nL Ts own rm) {x y : Nat} {off : Int} {tgt : Nat} (hdg : decode cc pc = .ok (.if_acmp .ne off, 3)) (ht : (pc : Int) + off = (tgt : Int)) (kt : ¬ x = y → JW X cells slots w (tgt) lv rest) (kf : x = y → JW X cells slots w (pc + 3) lv rest) : JW X cells slots w (pc) lv (.ref y :: .ref x :: rest) := by
  obtain ⟨p, l, e, R, s, m, args, below, meth, c, D, A, nL9, Q, tys⟩ := X
  obtain ⟨⟨hx, hb, hml, hown, hts⟩, rfl, hK, hA, hlk, hR⟩ := hX
  intro H locs ls hP hD hS hl
  exact lv_acmp_ne (rx := some x) (ry := some y) hx hb hdg ht (fun h9 => kt (fun z => h9 (by rw [z])) H locs ls hP hD hS hl) (fun h9 => kf (Option.some.inj h9) H locs ls hP hD hS hl)
theorem jw_pnewO {X : JX} {cells slots : Nat} {S : PS} {cI cZ cO cJ : ClassId} {pc : Nat} {lv : List (Nat × Value)} {rest : List Value} {cc : ByteArray} {nL : Nat} {Ts : List Cond} {own : String} {rm : Room} (hX : jOK X cc nL Ts own rm) (hT : jT X = jTy cI cZ cO cJ) {gs : JP} (hGX : jG X (GP gs)) {n : Int32} {N : Nat} {index : Nat} (hlink : Cond.classLink own index "java/lang/Object" ∈ Ts) (hn : ¬ n < 0) (hN : n.toNatClampNeg = N) (hbig : N ≤ 1000000) (hcs : cells + 1 ≤ rm.cells ∧ slots + N ≤ rm.slots) (hdg : decode cc pc = .ok (.anewarray index, 3)) (kk : ∀ q : Nat, q ∉ sL S → q ≠ gs.2.1 → JW X (cells + 1) (slots + N) (pW cI cO (pNO S q N (fun _ => none))) (pc + 3) lv (.ref q :: rest)) : JW X cells slots (pW cI cO S) (pc) lv (.int n :: rest) := by
  obtain ⟨p, l, e, R, s, m, args, below, meth, c, D, A, nL9, Q, tys⟩ := X
  obtain ⟨⟨hx, hb, hml, hown, hts⟩, rfl, hK, hA, hlk, hR⟩ := hX
  obtain rfl : tys = jTy cI cZ cO cJ := hT
  intro H locs ls hP hD hS hl
  obtain ⟨g1, g2, g3, g4, g5, g6, g7, g8, g9, g10, g11, g12⟩ := hGX
  subst hR
  refine va_newq hx hb hown (hts _ hlink) g9 hK hP hD hS hA hn hN (by omega) hcs.1 hcs.2 hdg (fun q cA H1 hK1 hP1 hD1 hS1 => ?_)
  have hq : q ∉ sL S := pW_fresh hD1
  have hqe : q ≠ gs.2.1 := by
    rintro rfl
    obtain ⟨-, -, -, -, -, -, -, hna⟩ := g8
    exact hna (hD1.2 (pW cI cO S).length _ ((List.getElem?_append_right (Nat.le_refl _)).trans (by rw [Nat.sub_self]; rfl)))
  have hcA : cA = cO := by
    have h1 := va_nmO (hK1.2 4 (cA, .object "java/lang/Object") rfl).2 rfl
    have h2 := va_nmO (hK1.2 2 (cO, .object "java/lang/Object") rfl).2 rfl
    exact Option.some.inj (h1.symm.trans h2)
  subst hcA
  rw [pW_newO hq] at hP1 hD1
  exact kk q hq hqe H1 locs ls hP1 hD1 hS1 hl
theorem jw_ldcM {X : JX} {cells slots : Nat} {w : va_W} {pc : Nat} {lv : List (Nat × Value)} {rest : List Value} {cc : ByteArray} {nL : Nat} {Ts : List Cond} {own : String} {rm : Room} (hX : jOK X cc nL Ts own rm) {gs : JP} (hGX : jG X (GP gs)) {index : Nat} (hlink : Cond.classLink own index "[Ljava/lang/Object;" ∈ Ts) (hdg : decode cc pc = .ok (.ldc index, 2)) (kk : JW X cells slots w (pc + 2) lv (.ref gs.2.2 :: rest)) : JW X cells slots w (pc) lv rest := by
  obtain ⟨p, l, e, R, s, m, args, below, meth, c, D, A, nL9, Q, tys⟩ := X
  obtain ⟨⟨hx, hb, hml, hown, hts⟩, rfl, hK, hA, hlk, hR⟩ := hX
  intro H locs ls hP hD hS hl
  obtain ⟨g1, g2, g3, g4, g5, g6, g7, g8, g9, g10, g11, g12⟩ := hGX
  exact va_ldcM hx hb hown (hts _ hlink) g10 hdg (kk H locs ls hP hD hS hl)
theorem jw_getC {X : JX} {cells slots : Nat} {S : PS} {cI cZ cO cJ : ClassId} {pc : Nat} {lv : List (Nat × Value)} {rest : List Value} {cc : ByteArray} {nL : Nat} {Ts : List Cond} {own : String} {rm : Room} (hX : jOK X cc nL Ts own rm) (hT : jT X = jTy cI cZ cO cJ) {gs : JP} (hGX : jG X (GP gs)) {b index : Nat} (hok : okP S b 10 = true) (hlink : Cond.methodLink own index ⟨"java/lang/Object", "getClass", "()Ljava/lang/Class;"⟩ ∈ Ts) (hsel : Cond.selects "[Ljava/lang/Object;" ⟨"java/lang/Object", "getClass", "()Ljava/lang/Class;"⟩ ⟨"java/lang/Object", "getClass", "()Ljava/lang/Class;"⟩ ∈ Ts) (hinst : Cond.instanceMethod ⟨"java/lang/Object", "getClass", "()Ljava/lang/Class;"⟩ ∈ Ts) (hnat : Cond.native ⟨"java/lang/Object", "getClass", "()Ljava/lang/Class;"⟩ ∈ Ts) (hframes : 1 ≤ rm.frames) (hlocals : (rest.map fun v => v.category).sum + 14 ≤ rm.locals) (hdg : decode cc pc = .ok (.invokevirtual index, 3)) (kk : JW X cells slots (pW cI cO S) (pc + 3) lv (.ref gs.2.2 :: rest)) : JW X cells slots (pW cI cO S) (pc) lv (.ref b :: rest) := by
  obtain ⟨p, l, e, R, s, m, args, below, meth, c, D, A, nL9, Q, tys⟩ := X
  obtain ⟨⟨hx, hb, hml, hown, hts⟩, rfl, hK, hA, hlk, hR⟩ := hX
  obtain rfl : tys = jTy cI cZ cO cJ := hT
  intro H locs ls hP hD hS hl
  obtain ⟨g1, g2, g3, g4, g5, g6, g7, g8, g9, g10, g11, g12⟩ := hGX
  subst hR
  obtain ⟨hL, hKb⟩ := okP_in hok
  obtain ⟨j, hj⟩ := pW_at (cI := cI) (cO := cO) hL
  have he := hj
  rw [PF_oa hKb] at he
  refine va_getC hx hb (hml.trans hl.1.symm) hown (hts _ hlink) g11.use (hts _ hsel) (hts _ hinst) (hts _ hnat) g10 ⟨_, hP j _ he, ?_, va_nmO (hK.2 2 (cO, .object "java/lang/Object") rfl).2 rfl⟩ hframes hlocals hdg (kk H locs ls hP hD hS hl)
  rfl
theorem jw_pmin {X : JX} {cells slots : Nat} {w : va_W} {pc : Nat} {lv : List (Nat × Value)} {rest : List Value} {cc : ByteArray} {nL : Nat} {Ts : List Cond} {own : String} {rm : Room} (hX : jOK X cc nL Ts own rm) {x y : Int32} {index : Nat} (hlink : Cond.methodLink own index Lib.Math.min.name ∈ Ts) (hstat : Cond.static Lib.Math.min.name ∈ Ts) (hini : Cond.initialized "java/lang/Math" ∈ Ts) (hcode : Cond.code Lib.Math.min.name Lib.Math.min.code 2 (some .int) ∈ Ts) (hframes : 1 ≤ rm.frames) (hlocals : (rest.map fun v => v.category).sum + 13 ≤ rm.locals) (hcs : cells ≤ rm.cells ∧ slots ≤ rm.slots) (hdg : decode cc pc = .ok (.invokestatic index, 3)) (kk : JW X cells slots w (pc + 3) lv (.int (if y < x then y else x) :: rest)) : JW X cells slots w (pc) lv (.int y :: .int x :: rest) := by
  obtain ⟨p, l, e, R, s, m, args, below, meth, c, D, A, nL9, Q, tys⟩ := X
  obtain ⟨⟨hx, hb, hml, hown, hts⟩, rfl, hK, hA, hlk, hR⟩ := hX
  intro H locs ls hP hD hS hl
  subst hR
  exact va_mmin hx hb (hml.trans hl.1.symm) hown (hts _ hlink) (hts _ hstat) (hts _ hini) (hts _ hcode) hframes hlocals hcs.1 hcs.2 hdg (kk H locs ls hP hD hS hl)
theorem jw_umax {X : JX} {cells slots : Nat} {w : va_W} {pc : Nat} {lv : List (Nat × Value)} {rest : List Value} {cc : ByteArray} {nL : Nat} {Ts : List Cond} {own : String} {rm : Room} (hX : jOK X cc nL Ts own rm) {x y : Int32} {index : Nat} (hlink : Cond.methodLink own index Lib.Math.max.name ∈ Ts) (hstat : Cond.static Lib.Math.max.name ∈ Ts) (hini : Cond.initialized "java/lang/Math" ∈ Ts) (hcode : Cond.code Lib.Math.max.name Lib.Math.max.code 2 (some .int) ∈ Ts) (hframes : 1 ≤ rm.frames) (hlocals : (rest.map fun v => v.category).sum + 13 ≤ rm.locals) (hcs : cells ≤ rm.cells ∧ slots ≤ rm.slots) (hdg : decode cc pc = .ok (.invokestatic index, 3)) (kk : JW X cells slots w (pc + 3) lv (.int (if x < y then y else x) :: rest)) : JW X cells slots w (pc) lv (.int y :: .int x :: rest) := by
  obtain ⟨p, l, e, R, s, m, args, below, meth, c, D, A, nL9, Q, tys⟩ := X
  obtain ⟨⟨hx, hb, hml, hown, hts⟩, rfl, hK, hA, hlk, hR⟩ := hX
  intro H locs ls hP hD hS hl
  subst hR
  exact va_mmax hx hb (hml.trans hl.1.symm) hown (hts _ hlink) (hts _ hstat) (hts _ hini) (hts _ hcode) hframes hlocals hcs.1 hcs.2 hdg (kk H locs ls hP hD hS hl)
theorem jw_ildc {X : JX} {cells slots : Nat} {w : va_W} {pc : Nat} {lv : List (Nat × Value)} {rest : List Value} {cc : ByteArray} {nL : Nat} {Ts : List Cond} {own : String} {rm : Room} (hX : jOK X cc nL Ts own rm) {v : Int32} {index : Nat} (hconst : Cond.constant own index v ∈ Ts) (hdg : decode cc pc = .ok (.ldc index, 2)) (kk : JW X cells slots w (pc + 2) lv (.int v :: rest)) : JW X cells slots w (pc) lv rest := by
  obtain ⟨p, l, e, R, s, m, args, below, meth, c, D, A, nL9, Q, tys⟩ := X
  obtain ⟨⟨hx, hb, hml, hown, hts⟩, rfl, hK, hA, hlk, hR⟩ := hX
  intro H locs ls hP hD hS hl
  exact lv_ldc hx hb hown (hts _ hconst) hdg (kk H locs ls hP hD hS hl)
theorem jw_poalenE {X : JX} {cells slots : Nat} {S : PS} {cI cZ cO cJ : ClassId} {pc : Nat} {lv : List (Nat × Value)} {rest : List Value} {cc : ByteArray} {nL : Nat} {Ts : List Cond} {own : String} {rm : Room} (hX : jOK X cc nL Ts own rm) (hT : jT X = jTy cI cZ cO cJ) {gs : JP} (hGX : jG X (GP gs)) {b : Nat} (hok : okE gs.2.1 S b = true) (hdg : decode cc pc = .ok (.arraylength, 1)) (kk : JW X cells slots (pW cI cO S) (pc + 1) lv (.int (alenO gs.2.1 S b) :: rest)) : JW X cells slots (pW cI cO S) (pc) lv (.ref b :: rest) := by
  obtain ⟨p, l, e, R, s, m, args, below, meth, c, D, A, nL9, Q, tys⟩ := X
  obtain ⟨⟨hx, hb, hml, hown, hts⟩, rfl, hK, hA, hlk, hR⟩ := hX
  obtain rfl : tys = jTy cI cZ cO cJ := hT
  intro H locs ls hP hD hS hl
  obtain ⟨g1, g2, g3, g4, g5, g6, g7, g8, g9, g10, g11, g12⟩ := hGX
  by_cases hbe : b = gs.2.1
  · have e9 : alenO gs.2.1 S b = 0 := by simp [alenO, hbe]
    have hk := kk H locs ls hP hD hS hl
    rw [e9] at hk
    rw [hbe]
    exact va_tlen hx hb g8 hS (v := 0) rfl hdg hk
  · have hok2 : okP S b 10 = true := by simpa [okE, hbe] using hok
    obtain ⟨hL, hKb⟩ := okP_in hok2
    obtain ⟨j, hj⟩ := pW_at (cI := cI) (cO := cO) hL
    have he := hj
    rw [PF_oa hKb] at he
    exact va_alen hx hb hK hP j 2 he rfl (by simp [alenO, hbe, nI]) hdg (kk H locs ls hP hD hS hl)
theorem jw_pcopy {X : JX} {cells slots : Nat} {S : PS} {cI cZ cO cJ : ClassId} {pc : Nat} {lv : List (Nat × Value)} {rest : List Value} {cc : ByteArray} {nL : Nat} {Ts : List Cond} {own : String} {rm : Room} (hX : jOK X cc nL Ts own rm) (hT : jT X = jTy cI cZ cO cJ) {gs : JP} (hGX : jG X (GP gs)) {a b index : Nat} {n : Int32} (hoa : okP S a 10 = true) (hob : okP S b 10 = true) (hn : ¬ n < 0) (h4 : n.toNatClampNeg ≤ sN S a) (h5 : n.toNatClampNeg ≤ sN S b) (hel : allL S a n.toNatClampNeg) (hlink : Cond.methodLink own index arraycopyName ∈ Ts) (hnat : Cond.native arraycopyName ∈ Ts) (hstat : Cond.static arraycopyName ∈ Ts) (hini : Cond.initialized "java/lang/System" ∈ Ts) (hframes : 1 ≤ rm.frames) (hlocals : (rest.map fun v => v.category).sum + (nativeFrameWords "java/lang/System" "arraycopy" 5 + 11) ≤ rm.locals) (hdg : decode cc pc = .ok (.invokestatic index, 3)) (kk : JW X cells slots (pW cI cO (cpO S a b n.toNatClampNeg)) (pc + 3) lv rest) : JW X cells slots (pW cI cO S) (pc) lv (.int n :: .int 0 :: .ref b :: .int 0 :: .ref a :: rest) := by
  obtain ⟨p, l, e, R, s, m, args, below, meth, c, D, A, nL9, Q, tys⟩ := X
  obtain ⟨⟨hx, hb, hml, hown, hts⟩, rfl, hK, hA, hlk, hR⟩ := hX
  obtain rfl : tys = jTy cI cZ cO cJ := hT
  intro H locs ls hP hD hS hl
  obtain ⟨g1, g2, g3, g4, g5, g6, g7, g8, g9, g10, g11, g12⟩ := hGX
  subst hR
  obtain ⟨hLa, hKa⟩ := okP_in hoa
  obtain ⟨ja, hja⟩ := pW_at (cI := cI) (cO := cO) hLa
  have hea := hja
  rw [PF_oa hKa] at hea
  obtain ⟨hLb, hKb⟩ := okP_in hob
  obtain ⟨jb, hjb⟩ := pW_at (cI := cI) (cO := cO) hLb
  have heb := hjb
  rw [PF_oa hKb] at heb
  have e0 : (0 : Int32).toNatClampNeg = 0 := by decide
  refine va_copyM hx hb (hml.trans hl.1.symm) hown (hts _ hlink) (hts _ hnat) (hts _ hstat) (hts _ hini) hK hP hD hS ja jb 2 2 hea heb rfl rfl (by decide) (by decide) hn (by rw [e0]; omega) (by rw [e0]; omega) (fun i hi y hy => ?_) hframes hlocals hdg (fun H1 locs1 hP1 hD1 hS1 => ?_)
  · rw [e0, Nat.zero_add] at hy
    obtain ⟨j2, k2, hk2, hj2⟩ := okL_at (cI := cI) (cO := cO) (hel i hi y hy)
    obtain ⟨r, hr, hca⟩ := okL_cl hk2
    exact va_rAny hK hP hj2 hr (fun comp c0 h1 h2 => vb_asgC (g3 _ hca) comp c0 h1 h2)
  · rw [e0] at hP1 hD1
    have hset : (pW cI cO S).set jb (b, .inl (cO, sN S b, .inr (.inr (.inr (.inr (va_cpy (sO S a) (sO S b) 0 0 n.toNatClampNeg)))))) = pW cI cO (cpO S a b n.toNatClampNeg) := by
      refine pW_set hD hLb hjb rfl ?_ ?_
      · rw [PF_oa (S := cpO S a b n.toNatClampNeg) hKb]
        simp [cpO, sO, sN]
      · intro z hz
        have e : sO (cpO S a b n.toNatClampNeg) z = sO S z := by simp [cpO, sO, hz]
        unfold PF
        rw [e]
        rfl
    rw [hset] at hP1 hD1
    exact kk H1 locs1 ls hP1 hD1 hS1 hl
theorem jw_objInit {X : JX} {cells slots : Nat} {w : va_W} {pc : Nat} {lv : List (Nat × Value)} {rest : List Value} {cc : ByteArray} {nL : Nat} {Ts : List Cond} {own : String} {rm : Room} (hX : jOK X cc nL Ts own rm) {a idx : Nat} (hlink : Cond.methodLink own idx Lib.objectInit ∈ Ts) (hinst : Cond.instanceMethod Lib.objectInit ∈ Ts) (hcode : Cond.code Lib.objectInit ⟨#[0xb1]⟩ 1 none ∈ Ts) (hframes : 1 ≤ rm.frames) (hlocals : (rest.map fun v => v.category).sum + 12 ≤ rm.locals) (hdg : decode cc pc = .ok (.invokespecial idx, 3)) (kk : JW X cells slots w (pc + 3) lv rest) : JW X cells slots w (pc) lv (.ref a :: rest) := by
  obtain ⟨p, l, e, R, s, m, args, below, meth, c, D, A, nL9, Q, tys⟩ := X
  obtain ⟨⟨hx, hb, hml, hown, hts⟩, rfl, hK, hA, hlk, hR⟩ := hX
  intro H locs ls hP hD hS hl
  subst hR
  refine W.objInit hx hb hown (hts _ hlink) (hts _ hinst) (hts _ hcode) rfl (hl.1.trans hml.symm) rfl hdg hframes (by show 2 * 0 + _ + 12 ≤ _; omega) ?_
  exact W.eq (g2 := F0 m (pc + 3) ls rest) rfl (kk H locs ls hP hD hS hl)
theorem jw_pputID {X : JX} {cells slots : Nat} {S : PS} {cI cZ cO cJ : ClassId} {pc : Nat} {lv : List (Nat × Value)} {rest : List Value} {cc : ByteArray} {nL : Nat} {Ts : List Cond} {own : String} {rm : Room} (hX : jOK X cc nL Ts own rm) (hT : jT X = jTy cI cZ cO cJ) {x : Int32} (k i : Nat) {C : String} {T : u_T} (hc : vwCl[k]? = some (C, T, kN k)) (hk : k < 8) (hi : i < kN k) (hr : kR k i = false) (hin : ∀ w ∈ u_ws C T (kN k), w ∈ Ts) {index b : Nat} {dc : String} (hfd : (T i).1 = dc) (hlink : Cond.fieldLink own index dc (T i).2.1 (T i).2.2.1 ∈ Ts) (ty0 : Nat → FieldType) (hty : ∀ k9, k9 < kN k → parseFieldDescriptor (T k9).2.2.1 = some (ty0 k9)) (hnm : ∀ a, a < kN k → ∀ b, b < kN k → a ≠ b → (T a).2.1 ≠ (T b).2.1) (hfin : (T i).2.2.2 = false) (hd : parseFieldDescriptor (T i).2.2.1 = some .int) (hok : okP S b k = true) (hdg : decode cc pc = .ok (.putfield index, 3)) (kk : ∀ S1 : PS, S1 = pI S (10 * k + i) b x → JW X cells slots (pW cI cO S1) (pc + 3) lv rest) : JW X cells slots (pW cI cO S) (pc) lv (.int x :: .ref b :: rest) := by
  obtain ⟨p, l, e, R, s, m, args, below, meth, c, D, A, nL9, Q, tys⟩ := X
  obtain ⟨⟨hx, hb, hml, hown, hts⟩, rfl, hK, hA, hlk, hR⟩ := hX
  obtain rfl : tys = jTy cI cZ cO cJ := hT
  intro H locs ls hP hD hS hl
  obtain ⟨hL, hKb⟩ := okP_in hok
  obtain ⟨j, hj⟩ := pW_at (cI := cI) (cO := cO) hL
  have he : (pW cI cO S)[j]? = some (b, .inr (k, pOb S b k)) := by rw [hj, PF_ob hKb hk]
  exact va_put (D := D) (ci := k) (v := .int x) hx hb hts hin ty0 hty hnm hown hK hP hD hS j he hc i hi (hts _ hlink) (fun x9 h9 => by rw [hfd] at h9; exact h9) hfin hd rfl rfl (by rw [pOb_len]; exact hi) hdg (fun H1 locs1 hP1 hD1 hS1 => by
    rw [pW_putI hD hL hKb hk hi hr hj] at hP1 hD1
    exact kk _ rfl H1 locs1 ls hP1 hD1 hS1 hl)
theorem jw_pI {X : JX} {cells slots : Nat} {S : PS} {cI cO : ClassId} {pc : Nat} {lv : List (Nat × Value)} {rest : List Value} {cc : ByteArray} {nL : Nat} {Ts : List Cond} {own : String} {rm : Room} (hX : jOK X cc nL Ts own rm) {G : JG} (hG : jGok G) (hGX : jG X G) {y : MethodName} {ws ws' : List Cond} {rm' : Room} {index maxL b : Nat} {bytes : ByteArray} {As : List Value} {Qc : PS → Prop} (n : Nat) (hC : CC (jL X) G (jD X) (jT X) y ws rm' (.ref b :: As) (pW cI cO S) (fun ov w2 => ∃ w9 : PS, Qc w9 ∧ ov = none ∧ w2 = pW cI cO w9)) (hgood : GoodIn Ts ws) (hw : ws = Cond.code y bytes maxL none :: ws')
    (hlink : Cond.methodLink own index y ∈ Ts) (hini : Cond.initialized y.cls ∈ Ts) (hin : Cond.instanceMethod y ∈ Ts) (hy1 : y.name = "<init>") (hd : y.cls ≠ "java/lang/invoke/MethodHandle" ∧ y.cls ≠ "java/lang/invoke/VarHandle" ∧ (parseMethodDescriptor y.desc).map (fun d => d.parameters.length) = some n) (hR : rm'.frames + 1 ≤ rm.frames ∧ 8 + (maxL + 11) + rm'.locals ≤ rm.locals)
    (hn : As.length = n) (hst : (rest.map fun v => v.category).sum ≤ 8) (hdg : decode cc pc = .ok (.invokespecial index, 3)) {cells' slots' : Nat} (h1c : cells + rm'.cells = cells') (h1s : slots + rm'.slots = slots') (hcs : cells' ≤ rm.cells ∧ slots' ≤ rm.slots)
    (kk : ∀ w9 : PS, Qc w9 → JW X cells' slots' (pW cI cO w9) (pc + 3) lv rest) : JW X cells slots (pW cI cO S) pc lv (As.reverse ++ .ref b :: rest) := by
  subst h1c h1s
  obtain ⟨p, l, e, R, s, m, args, below, meth, c, D, A, nL9, Q, tys⟩ := X
  obtain ⟨⟨hx, hb, hml, hown, hts⟩, rfl, hK, hA, hlk, rfl⟩ := hX
  intro H locs ls hP hD hS hl
  have hF := jw_free hD hS hA
  refine jw_run (post := fun ov w2 => ∃ w9 : PS, Qc w9 ∧ ov = none ∧ w2 = pW cI cO w9) (va_runI (As := As) (rest := rest) ⟨hx, hb, hml, hown, hts⟩ (hC H.size) (cwI n hts hgood hw rfl rfl (hts _ hini) (hts _ hlink) (hts _ hin) hy1 hd hR) ⟨jPc_blind hG, fun U hU hW => ⟨rfl, by rw [hU], by rw [hU]; exact hP, va_K.moved hW.alike hK, hD.weaken (fun _ _ _ _ => trivial), jG_at hG hGX hS hF hU hW⟩⟩ rfl hn hl.1 rfl (lv_room hst) (by exact hdg) hcs) hS hF hl ?_
  rintro ov w' ⟨w9, hq, rfl, rfl⟩
  exact kk w9 hq
theorem jw_pIN {X : JX} {cells slots : Nat} {S : PS} {cI cO : ClassId} {pc : Nat} {lv : List (Nat × Value)} {rest : List Value} {cc : ByteArray} {nL : Nat} {Ts : List Cond} {own : String} {rm : Room} (hX : jOK X cc nL Ts own rm) {G : JG} (hG : jGok G) (hGX : jG X G) {y : MethodName} {ws ws' : List Cond} {rm' : Room} {index maxL b : Nat} {bytes : ByteArray} {As : List Value} {host : String} {Qc : PS → Prop} (n : Nat) (hC : CC (jL X) G (jD X) (jT X) y ws rm' (.ref b :: As) (pW cI cO S) (fun ov w2 => ∃ w9 : PS, Qc w9 ∧ ov = none ∧ w2 = pW cI cO w9)) (hgood : GoodIn Ts ws) (hw : ws = Cond.code y bytes maxL none :: ws')
    (hlink : jN X (Cond.methodLinkNest own index y host)) (hini : Cond.initialized y.cls ∈ Ts) (hin : Cond.instanceMethod y ∈ Ts) (hy1 : y.name = "<init>") (hd : y.cls ≠ "java/lang/invoke/MethodHandle" ∧ y.cls ≠ "java/lang/invoke/VarHandle" ∧ (parseMethodDescriptor y.desc).map (fun d => d.parameters.length) = some n) (hR : rm'.frames + 1 ≤ rm.frames ∧ 8 + (maxL + 11) + rm'.locals ≤ rm.locals)
    (hn : As.length = n) (hst : (rest.map fun v => v.category).sum ≤ 8) (hdg : decode cc pc = .ok (.invokespecial index, 3)) {cells' slots' : Nat} (h1c : cells + rm'.cells = cells') (h1s : slots + rm'.slots = slots') (hcs : cells' ≤ rm.cells ∧ slots' ≤ rm.slots)
    (kk : ∀ w9 : PS, Qc w9 → JW X cells' slots' (pW cI cO w9) (pc + 3) lv rest) : JW X cells slots (pW cI cO S) pc lv (As.reverse ++ .ref b :: rest) := by
  subst h1c h1s
  obtain ⟨p, l, e, R, s, m, args, below, meth, c, D, A, nL9, Q, tys⟩ := X
  obtain ⟨⟨hx, hb, hml, hown, hts⟩, rfl, hK, hA, hlk, rfl⟩ := hX
  intro H locs ls hP hD hS hl
  have hF := jw_free hD hS hA
  refine jw_run (post := fun ov w2 => ∃ w9 : PS, Qc w9 ∧ ov = none ∧ w2 = pW cI cO w9) (va_runIN (As := As) (rest := rest) ⟨hx, hb, hml, hown, hts⟩ (hC H.size) ⟨va_cnB n hts hgood hw rfl rfl hlink (hts _ hini) hd hR, hy1, hts _ hin⟩ ⟨jPc_blind hG, fun U hU hW => ⟨rfl, by rw [hU], by rw [hU]; exact hP, va_K.moved hW.alike hK, hD.weaken (fun _ _ _ _ => trivial), jG_at hG hGX hS hF hU hW⟩⟩ rfl hn hl.1 rfl (lv_room hst) (by exact hdg) hcs) hS hF hl ?_
  rintro ov w' ⟨w9, hq, rfl, rfl⟩
  exact kk w9 hq
theorem jw_pVEi {X : JX} {cells slots : Nat} {S : PS} {cI cO : ClassId} {pc : Nat} {lv : List (Nat × Value)} {rest : List Value} {cc : ByteArray} {nL : Nat} {Ts : List Cond} {own : String} {rm : Room} (hX : jOK X cc nL Ts own rm) {G : JG} (hG : jGok G) (hGX : jG X G) {y : MethodName} {ws ws' : List Cond} {rm' : Room} {C : String} {index maxL b : Nat} {bytes : ByteArray} {ret : Option FieldType} {As : List Value} {Qc : Int32 → PS → Prop} (n : Nat) (hC : CC (jL X) G (jD X) (jT X) y ws rm' (.ref b :: As) (pW cI cO S) (fun ov w2 => ∃ (r : Int32) (w9 : PS), Qc r w9 ∧ ov = some (.int r) ∧ w2 = pW cI cO w9)) (hgood : GoodIn Ts (wsV own index C y ws)) (hw : ws = Cond.code y bytes maxL ret :: ws')
    (hd : y.cls = C ∧ y.cls ≠ "java/lang/invoke/MethodHandle" ∧ y.cls ≠ "java/lang/invoke/VarHandle" ∧ (parseMethodDescriptor y.desc).map (fun d => d.parameters.length) = some n) (hR : rm'.frames + 1 ≤ rm.frames ∧ 8 + (maxL + 11) + rm'.locals ≤ rm.locals) (k : Nat) {T : u_T} (hc : vwCl[k]? = some (C, T, kN k)) (hk : k < 8) (hok : okP S b k = true) (hn : As.length = n) (hst : (rest.map fun v => v.category).sum ≤ 8) (hdg : decode cc pc = .ok (.invokevirtual index, 3)) {cells' slots' : Nat} (h1c : cells + rm'.cells = cells') (h1s : slots + rm'.slots = slots') (hcs : cells' ≤ rm.cells ∧ slots' ≤ rm.slots)
    (kk : ∀ (r : Int32) (w9 : PS), Qc r w9 → JW X cells' slots' (pW cI cO w9) (pc + 3) lv (.int r :: rest)) : JW X cells slots (pW cI cO S) pc lv (As.reverse ++ .ref b :: rest) := by
  subst h1c h1s
  obtain ⟨hL, hKb⟩ := okP_in hok
  obtain ⟨j, hj⟩ := pW_at (cI := cI) (cO := cO) hL
  refine jw_callV hX hG hGX n hC hgood hw hd hR j k (hj.trans (by rw [PF_ob hKb hk])) hc hn hst hdg hcs ?_
  rintro ov w' ⟨r, w9, hq, rfl, rfl⟩
  exact kk r w9 hq
theorem jw_pVXEi {X : JX} {cells slots : Nat} {S : PS} {cI cO : ClassId} {pc : Nat} {lv : List (Nat × Value)} {rest : List Value} {cc : ByteArray} {nL : Nat} {Ts : List Cond} {own : String} {rm : Room} (hX : jOK X cc nL Ts own rm) {G : JG} (hG : jGok G) (hGX : jG X G) {w0 : va_W} {post : Option Value → va_W → Prop} {px : String → va_W → Prop} (hQ : jXQ X w0 rm post px) {y : MethodName} {ws ws' : List Cond} {rm' : Room} {C : String} {index maxL b : Nat} {bytes : ByteArray} {ret : Option FieldType} {As : List Value} {Qc : Int32 → PS → Prop} {Qx : Nat → PS → Prop} (n : Nat) (hC : CX (jL X) G (jD X) (jT X) y ws rm' (.ref b :: As) (pW cI cO S) (fun ov w2 => ∃ (r : Int32) (w9 : PS), Qc r w9 ∧ ov = some (.int r) ∧ w2 = pW cI cO w9) (fun E w2 => ∃ (x : Nat) (w9 : PS), Qx x w9 ∧ E = exN x ∧ w2 = pW cI cO w9)) (hgood : GoodIn Ts (wsV own index C y ws)) (hw : ws = Cond.code y bytes maxL ret :: ws')
    (hd : y.cls = C ∧ y.cls ≠ "java/lang/invoke/MethodHandle" ∧ y.cls ≠ "java/lang/invoke/VarHandle" ∧ (parseMethodDescriptor y.desc).map (fun d => d.parameters.length) = some n) (hR : rm'.frames + 1 ≤ rm.frames ∧ 8 + (maxL + 11) + rm'.locals ≤ rm.locals) (k : Nat) {T : u_T} (hc : vwCl[k]? = some (C, T, kN k)) (hk : k < 8) (hok : okP S b k = true) (hn : As.length = n) (hst : (rest.map fun v => v.category).sum ≤ 8) (hdg : decode cc pc = .ok (.invokevirtual index, 3)) {cells' slots' : Nat} (h1c : cells + rm'.cells = cells') (h1s : slots + rm'.slots = slots') (hcs : cells' ≤ rm.cells ∧ slots' ≤ rm.slots) (kx : ∀ (x : Nat) (w9 : PS), Qx x w9 → px (exN x) (pW cI cO w9))
    (kk : ∀ (r : Int32) (w9 : PS), Qc r w9 → JW X cells' slots' (pW cI cO w9) (pc + 3) lv (.int r :: rest)) : JW X cells slots (pW cI cO S) pc lv (As.reverse ++ .ref b :: rest) := by
  subst h1c h1s
  obtain ⟨hL, hKb⟩ := okP_in hok
  obtain ⟨j, hj⟩ := pW_at (cI := cI) (cO := cO) hL
  refine jw_xcallV hX hG hGX n hC hgood hw hd hR j k (hj.trans (by rw [PF_ob hKb hk])) hc hn hst hdg hcs ?_ ?_
  · rintro E2 ce q9 w' H1 locs1 ls ⟨x, w9, hq, rfl, rfl⟩ hAt hce
    exact jw_prop hX hQ hAt hce (kx x w9 hq) hcs
  · rintro ov w' ⟨r, w9, hq, rfl, rfl⟩
    exact kk r w9 hq
theorem jw_pVEv {X : JX} {cells slots : Nat} {S : PS} {cI cO : ClassId} {pc : Nat} {lv : List (Nat × Value)} {rest : List Value} {cc : ByteArray} {nL : Nat} {Ts : List Cond} {own : String} {rm : Room} (hX : jOK X cc nL Ts own rm) {G : JG} (hG : jGok G) (hGX : jG X G) {y : MethodName} {ws ws' : List Cond} {rm' : Room} {C : String} {index maxL b : Nat} {bytes : ByteArray} {ret : Option FieldType} {As : List Value} {Qc : PS → Prop} (n : Nat) (hC : CC (jL X) G (jD X) (jT X) y ws rm' (.ref b :: As) (pW cI cO S) (fun ov w2 => ∃ w9 : PS, Qc w9 ∧ ov = none ∧ w2 = pW cI cO w9)) (hgood : GoodIn Ts (wsV own index C y ws)) (hw : ws = Cond.code y bytes maxL ret :: ws')
    (hd : y.cls = C ∧ y.cls ≠ "java/lang/invoke/MethodHandle" ∧ y.cls ≠ "java/lang/invoke/VarHandle" ∧ (parseMethodDescriptor y.desc).map (fun d => d.parameters.length) = some n) (hR : rm'.frames + 1 ≤ rm.frames ∧ 8 + (maxL + 11) + rm'.locals ≤ rm.locals) (k : Nat) {T : u_T} (hc : vwCl[k]? = some (C, T, kN k)) (hk : k < 8) (hok : okP S b k = true) (hn : As.length = n) (hst : (rest.map fun v => v.category).sum ≤ 8) (hdg : decode cc pc = .ok (.invokevirtual index, 3)) {cells' slots' : Nat} (h1c : cells + rm'.cells = cells') (h1s : slots + rm'.slots = slots') (hcs : cells' ≤ rm.cells ∧ slots' ≤ rm.slots)
    (kk : ∀ w9 : PS, Qc w9 → JW X cells' slots' (pW cI cO w9) (pc + 3) lv rest) : JW X cells slots (pW cI cO S) pc lv (As.reverse ++ .ref b :: rest) := by
  subst h1c h1s
  obtain ⟨hL, hKb⟩ := okP_in hok
  obtain ⟨j, hj⟩ := pW_at (cI := cI) (cO := cO) hL
  refine jw_callV hX hG hGX n hC hgood hw hd hR j k (hj.trans (by rw [PF_ob hKb hk])) hc hn hst hdg hcs ?_
  rintro ov w' ⟨w9, hq, rfl, rfl⟩
  exact kk w9 hq
theorem jw_pVXEv {X : JX} {cells slots : Nat} {S : PS} {cI cO : ClassId} {pc : Nat} {lv : List (Nat × Value)} {rest : List Value} {cc : ByteArray} {nL : Nat} {Ts : List Cond} {own : String} {rm : Room} (hX : jOK X cc nL Ts own rm) {G : JG} (hG : jGok G) (hGX : jG X G) {w0 : va_W} {post : Option Value → va_W → Prop} {px : String → va_W → Prop} (hQ : jXQ X w0 rm post px) {y : MethodName} {ws ws' : List Cond} {rm' : Room} {C : String} {index maxL b : Nat} {bytes : ByteArray} {ret : Option FieldType} {As : List Value} {Qc : PS → Prop} {Qx : Nat → PS → Prop} (n : Nat) (hC : CX (jL X) G (jD X) (jT X) y ws rm' (.ref b :: As) (pW cI cO S) (fun ov w2 => ∃ w9 : PS, Qc w9 ∧ ov = none ∧ w2 = pW cI cO w9) (fun E w2 => ∃ (x : Nat) (w9 : PS), Qx x w9 ∧ E = exN x ∧ w2 = pW cI cO w9)) (hgood : GoodIn Ts (wsV own index C y ws)) (hw : ws = Cond.code y bytes maxL ret :: ws')
    (hd : y.cls = C ∧ y.cls ≠ "java/lang/invoke/MethodHandle" ∧ y.cls ≠ "java/lang/invoke/VarHandle" ∧ (parseMethodDescriptor y.desc).map (fun d => d.parameters.length) = some n) (hR : rm'.frames + 1 ≤ rm.frames ∧ 8 + (maxL + 11) + rm'.locals ≤ rm.locals) (k : Nat) {T : u_T} (hc : vwCl[k]? = some (C, T, kN k)) (hk : k < 8) (hok : okP S b k = true) (hn : As.length = n) (hst : (rest.map fun v => v.category).sum ≤ 8) (hdg : decode cc pc = .ok (.invokevirtual index, 3)) {cells' slots' : Nat} (h1c : cells + rm'.cells = cells') (h1s : slots + rm'.slots = slots') (hcs : cells' ≤ rm.cells ∧ slots' ≤ rm.slots) (kx : ∀ (x : Nat) (w9 : PS), Qx x w9 → px (exN x) (pW cI cO w9))
    (kk : ∀ w9 : PS, Qc w9 → JW X cells' slots' (pW cI cO w9) (pc + 3) lv rest) : JW X cells slots (pW cI cO S) pc lv (As.reverse ++ .ref b :: rest) := by
  subst h1c h1s
  obtain ⟨hL, hKb⟩ := okP_in hok
  obtain ⟨j, hj⟩ := pW_at (cI := cI) (cO := cO) hL
  refine jw_xcallV hX hG hGX n hC hgood hw hd hR j k (hj.trans (by rw [PF_ob hKb hk])) hc hn hst hdg hcs ?_ ?_
  · rintro E2 ce q9 w' H1 locs1 ls ⟨x, w9, hq, rfl, rfl⟩ hAt hce
    exact jw_prop hX hQ hAt hce (kx x w9 hq) hcs
  · rintro ov w' ⟨w9, hq, rfl, rfl⟩
    exact kk w9 hq
theorem jw_pVEr {X : JX} {cells slots : Nat} {S : PS} {cI cO : ClassId} {pc : Nat} {lv : List (Nat × Value)} {rest : List Value} {cc : ByteArray} {nL : Nat} {Ts : List Cond} {own : String} {rm : Room} (hX : jOK X cc nL Ts own rm) {G : JG} (hG : jGok G) (hGX : jG X G) {y : MethodName} {ws ws' : List Cond} {rm' : Room} {C : String} {index maxL b : Nat} {bytes : ByteArray} {ret : Option FieldType} {As : List Value} {Qc : Nat → PS → Prop} (n : Nat) (hC : CC (jL X) G (jD X) (jT X) y ws rm' (.ref b :: As) (pW cI cO S) (fun ov w2 => ∃ (r : Nat) (w9 : PS), Qc r w9 ∧ ov = some (.ref r) ∧ w2 = pW cI cO w9)) (hgood : GoodIn Ts (wsV own index C y ws)) (hw : ws = Cond.code y bytes maxL ret :: ws')
    (hd : y.cls = C ∧ y.cls ≠ "java/lang/invoke/MethodHandle" ∧ y.cls ≠ "java/lang/invoke/VarHandle" ∧ (parseMethodDescriptor y.desc).map (fun d => d.parameters.length) = some n) (hR : rm'.frames + 1 ≤ rm.frames ∧ 8 + (maxL + 11) + rm'.locals ≤ rm.locals) (k : Nat) {T : u_T} (hc : vwCl[k]? = some (C, T, kN k)) (hk : k < 8) (hok : okP S b k = true) (hn : As.length = n) (hst : (rest.map fun v => v.category).sum ≤ 8) (hdg : decode cc pc = .ok (.invokevirtual index, 3)) {cells' slots' : Nat} (h1c : cells + rm'.cells = cells') (h1s : slots + rm'.slots = slots') (hcs : cells' ≤ rm.cells ∧ slots' ≤ rm.slots)
    (kk : ∀ (r : Nat) (w9 : PS), Qc r w9 → JW X cells' slots' (pW cI cO w9) (pc + 3) lv (.ref r :: rest)) : JW X cells slots (pW cI cO S) pc lv (As.reverse ++ .ref b :: rest) := by
  subst h1c h1s
  obtain ⟨hL, hKb⟩ := okP_in hok
  obtain ⟨j, hj⟩ := pW_at (cI := cI) (cO := cO) hL
  refine jw_callV hX hG hGX n hC hgood hw hd hR j k (hj.trans (by rw [PF_ob hKb hk])) hc hn hst hdg hcs ?_
  rintro ov w' ⟨r, w9, hq, rfl, rfl⟩
  exact kk r w9 hq
theorem jw_pVXEr {X : JX} {cells slots : Nat} {S : PS} {cI cO : ClassId} {pc : Nat} {lv : List (Nat × Value)} {rest : List Value} {cc : ByteArray} {nL : Nat} {Ts : List Cond} {own : String} {rm : Room} (hX : jOK X cc nL Ts own rm) {G : JG} (hG : jGok G) (hGX : jG X G) {w0 : va_W} {post : Option Value → va_W → Prop} {px : String → va_W → Prop} (hQ : jXQ X w0 rm post px) {y : MethodName} {ws ws' : List Cond} {rm' : Room} {C : String} {index maxL b : Nat} {bytes : ByteArray} {ret : Option FieldType} {As : List Value} {Qc : Nat → PS → Prop} {Qx : Nat → PS → Prop} (n : Nat) (hC : CX (jL X) G (jD X) (jT X) y ws rm' (.ref b :: As) (pW cI cO S) (fun ov w2 => ∃ (r : Nat) (w9 : PS), Qc r w9 ∧ ov = some (.ref r) ∧ w2 = pW cI cO w9) (fun E w2 => ∃ (x : Nat) (w9 : PS), Qx x w9 ∧ E = exN x ∧ w2 = pW cI cO w9)) (hgood : GoodIn Ts (wsV own index C y ws)) (hw : ws = Cond.code y bytes maxL ret :: ws')
    (hd : y.cls = C ∧ y.cls ≠ "java/lang/invoke/MethodHandle" ∧ y.cls ≠ "java/lang/invoke/VarHandle" ∧ (parseMethodDescriptor y.desc).map (fun d => d.parameters.length) = some n) (hR : rm'.frames + 1 ≤ rm.frames ∧ 8 + (maxL + 11) + rm'.locals ≤ rm.locals) (k : Nat) {T : u_T} (hc : vwCl[k]? = some (C, T, kN k)) (hk : k < 8) (hok : okP S b k = true) (hn : As.length = n) (hst : (rest.map fun v => v.category).sum ≤ 8) (hdg : decode cc pc = .ok (.invokevirtual index, 3)) {cells' slots' : Nat} (h1c : cells + rm'.cells = cells') (h1s : slots + rm'.slots = slots') (hcs : cells' ≤ rm.cells ∧ slots' ≤ rm.slots) (kx : ∀ (x : Nat) (w9 : PS), Qx x w9 → px (exN x) (pW cI cO w9))
    (kk : ∀ (r : Nat) (w9 : PS), Qc r w9 → JW X cells' slots' (pW cI cO w9) (pc + 3) lv (.ref r :: rest)) : JW X cells slots (pW cI cO S) pc lv (As.reverse ++ .ref b :: rest) := by
  subst h1c h1s
  obtain ⟨hL, hKb⟩ := okP_in hok
  obtain ⟨j, hj⟩ := pW_at (cI := cI) (cO := cO) hL
  refine jw_xcallV hX hG hGX n hC hgood hw hd hR j k (hj.trans (by rw [PF_ob hKb hk])) hc hn hst hdg hcs ?_ ?_
  · rintro E2 ce q9 w' H1 locs1 ls ⟨x, w9, hq, rfl, rfl⟩ hAt hce
    exact jw_prop hX hQ hAt hce (kx x w9 hq) hcs
  · rintro ov w' ⟨r, w9, hq, rfl, rfl⟩
    exact kk r w9 hq
theorem jw_pSEr {X : JX} {cells slots : Nat} {S : PS} {cI cO : ClassId} {pc : Nat} {lv : List (Nat × Value)} {rest : List Value} {cc : ByteArray} {nL : Nat} {Ts : List Cond} {own : String} {rm : Room} (hX : jOK X cc nL Ts own rm) {G : JG} (hG : jGok G) (hGX : jG X G) {y : MethodName} {ws ws' : List Cond} {rm' : Room} {index maxL : Nat} {bytes : ByteArray} {ret : Option FieldType} {As : List Value} {Qc : Nat → PS → Prop} (n : Nat) (hC : CC (jL X) G (jD X) (jT X) y ws rm' As (pW cI cO S) (fun ov w2 => ∃ (r : Nat) (w9 : PS), Qc r w9 ∧ ov = some (.ref r) ∧ w2 = pW cI cO w9)) (hgood : GoodIn Ts (va_wsS own index y ws)) (hw : ws = Cond.code y bytes maxL ret :: ws')
    (hd : y.cls ≠ "java/lang/invoke/MethodHandle" ∧ y.cls ≠ "java/lang/invoke/VarHandle" ∧ (parseMethodDescriptor y.desc).map (fun d => d.parameters.length) = some n) (hR : rm'.frames + 1 ≤ rm.frames ∧ 8 + (maxL + 11) + rm'.locals ≤ rm.locals) (hn : As.length = n) (hst : (rest.map fun v => v.category).sum ≤ 8) (hdg : decode cc pc = .ok (.invokestatic index, 3)) {cells' slots' : Nat} (h1c : cells + rm'.cells = cells') (h1s : slots + rm'.slots = slots') (hcs : cells' ≤ rm.cells ∧ slots' ≤ rm.slots)
    (kk : ∀ (r : Nat) (w9 : PS), Qc r w9 → JW X cells' slots' (pW cI cO w9) (pc + 3) lv (.ref r :: rest)) : JW X cells slots (pW cI cO S) pc lv (As.reverse ++ rest) := by
  subst h1c h1s
  refine jw_callS hX hG hGX n hC hgood hw hd hR hn hst hdg hcs ?_
  rintro ov w' ⟨r, w9, hq, rfl, rfl⟩
  exact kk r w9 hq
/-- as CC_of, for a constructor -/
theorem CC_ofI {l : Launch} {G : JG} {D : va_G} {tys : List (ClassId × FieldType)} {y : MethodName} {ws ws' : List Cond} {rm : Room} {av : List Value} {w : va_W} {post : Option Value → va_W → Prop} {cc : ByteArray} {maxL : Nat}
    (hyn : y.name = "<init>") (hy : plainName y.cls = true) (hw : ws = Cond.code y cc maxL none :: ws') (hn : (lg_sl av).length ≤ maxL)
    (body : ∀ X : JX, jD X = D → jL X = l → jT X = tys → jG X G → jOK X cc maxL ws y.cls rm → jInit X → jRV X cc rm post → JW X 0 0 w 0 (lv_args 0 av) []) : CC l G D tys y ws rm av w post := by
  intro sz
  refine Met.ofW (cc := cc) (maxL := maxL) (ret := none) hy hw ?_
  intro p e s m args below meth c s₁ B hml hv
  obtain ⟨rfl, hsz, hP, hK, hD0, hGG⟩ := hv
  have hx := B.exec
  have hb := B.bytes
  have hr := B.returns
  have hts := atoms_spec (ws := ws) B.pre
  have hown : s.vm.findClass y.cls = some m.cls := findClass_of_methodNamed B.named
  have hlocks := B.notSynchronized
  have hin : meth.name = "<init>" := ((name_of_methodNamed B.named B.method).1).trans hyn
  subst hsz
  have hD := hD0.self (sz := s.heap.size)
  have hA : ∀ q : Nat, s.heap.size ≤ q → va_A w s.heap.size q := fun q h => Or.inr h
  rw [lg_entry_eq]
  refine body (p, l, e, (headSpec ws rm).room, s, m, av.toArray, below, meth, c, D, va_A w s.heap.size, maxL, MQ below (jQc D tys w s.heap.size post) av.toArray s rm.cells rm.slots (va_A w s.heap.size), tys) rfl rfl rfl hGG ⟨⟨hx, hb, hml, hown, hts⟩, rfl, hK, hA, hlocks, rfl⟩ hin ?_ s.heap [] _ hP hD va_S.rf (lv_entry av hn)
  intro cells slots w' pc lv hc hs hdg hpost H locs ls hP hD hS hl
  refine W.widen hc hs ?_
  exact W.vret hx hb hr (fun t ht hW => ⟨⟨_, w', rfl, hpost, by rw [ht]; exact hP, va_K.moved hW.alike hK, hD⟩, hS.F ht⟩) hS.2.2 hdg
/-! what a method that makes cells comes to: a predicate -/
def chkW (b : Bool) (k : Prop) : Prop := b = true ∧ k
def bndW {α : Type} (x : α) (k : α → Prop) : Prop := ∀ y, y = x → k y
def bPW {α : Type} (x : Option α) (k : α → Prop) : Prop := ∃ a, x = some a ∧ k a
def b2W {α β : Type} (x : Option (α × β)) (k : α → β → Prop) : Prop := ∃ a b, x = some (a, b) ∧ k a b
def bSW {ε π : Type} (x : Option (ε ⊕ π)) (f : ε → Prop) (k : π → Prop) : Prop := (∃ e, x = some (.inl e) ∧ f e) ∨ ∃ a, x = some (.inr a) ∧ k a
def newW (S : PS) (k : Nat → Prop) : Prop := ∀ q, q ∉ sL S → k q
def newO (e : Nat) (S : PS) (k : Nat → Prop) : Prop := ∀ q, q ∉ sL S → q ≠ e → k q
