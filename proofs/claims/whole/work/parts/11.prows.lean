def jN (X : JX) (w : Cond) : Prop := match X with
  | (_, _, _, _, s, _, _, _, _, _, _, _, _, _, _) => va_Nw w s
def jInit (X : JX) : Prop := match X with
  | (_, _, _, _, _, _, _, _, meth, _, _, _, _, _, _) => meth.name = "<init>"
theorem vaNw_use0 {w : Cond} {s : State} (args : Array Value) (hw : w.onTables = true) (h : va_Nw w s) : w.before args s = true := va_Nw.use hw h
theorem b01_narrow {x : Int32} (h : b01 x = true) : narrow .boolean (.int x) = .int x ∧ fits .boolean (.int x) = true := by
  rcases b01_or h with rfl | rfl <;> exact ⟨by decide, by decide⟩
theorem pW_fresh {cI cO : ClassId} {S : PS} {A : Nat → Prop} {q : Nat} {e : va_E} (hD : va_D A (pW cI cO S ++ [(q, e)])) : q ∉ sL S := by
  intro h
  obtain ⟨j, hj⟩ := pW_at (cI := cI) (cO := cO) h
  have hlt : j < (pW cI cO S).length := (List.getElem?_eq_some_iff.mp hj).1
  have h1 : (pW cI cO S ++ [(q, e)])[j]? = some (q, PF cI cO S q) := by rw [List.getElem?_append_left hlt]; exact hj
  have h2 : (pW cI cO S ++ [(q, e)])[(pW cI cO S).length]? = some (q, e) := by rw [List.getElem?_append_right (Nat.le_refl _), Nat.sub_self]; rfl
  have := hD.1 _ _ _ _ h1 h2 rfl
  omega
theorem jw_pgetI {X : JX} {cells slots : Nat} {S : PS} {cI cZ cO cJ : ClassId} {pc : Nat} {lv : List (Nat × Value)} {rest : List Value} {cc : ByteArray} {nL : Nat} {Ts : List Cond} {own : String} {rm : Room} (hX : jOK X cc nL Ts own rm) (hT : jT X = jTy cI cZ cO cJ) (k i : Nat) {C : String} {T : u_T} (hc : vwCl[k]? = some (C, T, kN k)) (hk : k < 8) (hi : i < kN k) (hr : kR k i = false) (hin : ∀ w ∈ u_ws C T (kN k), w ∈ Ts) {index b : Nat} (hfd : (T i).1 = C) (hlink : Cond.fieldLink own index C (T i).2.1 (T i).2.2.1 ∈ Ts) (hok : okP S b k = true) (hdg : decode cc pc = .ok (.getfield index, 3)) (kk : JW X cells slots (pW cI cO S) (pc + 3) lv (.int (sI S (10 * k + i) b) :: rest)) : JW X cells slots (pW cI cO S) (pc) lv (.ref b :: rest) := by
  obtain ⟨p, l, e, R, s, m, args, below, meth, c, D, A, nL9, Q, tys⟩ := X
  obtain ⟨⟨hx, hb, hml, hown, hts⟩, rfl, hK, hA, hlk, hR⟩ := hX
  obtain rfl : tys = jTy cI cZ cO cJ := hT
  intro H locs ls hP hD hS hl
  obtain ⟨hL, hKb⟩ := okP_in hok
  obtain ⟨j, hj⟩ := pW_at (cI := cI) (cO := cO) hL
  have he : (pW cI cO S)[j]? = some (b, .inr (k, pOb S b k)) := by rw [hj, PF_ob hKb hk]
  exact va_get (D := D) (ci := k) (v := .int (sI S (10 * k + i) b)) hx hb hts hin hown hK hP j he hc i hi (hts _ hlink) (fun x9 h9 => by rw [hfd] at h9; exact h9) (by rw [pOb_at hi, if_neg (by rw [hr]; decide)]) hdg (kk H locs ls hP hD hS hl)
theorem jw_pgetR {X : JX} {cells slots : Nat} {S : PS} {cI cZ cO cJ : ClassId} {pc : Nat} {lv : List (Nat × Value)} {rest : List Value} {cc : ByteArray} {nL : Nat} {Ts : List Cond} {own : String} {rm : Room} (hX : jOK X cc nL Ts own rm) (hT : jT X = jTy cI cZ cO cJ) {v : Nat} (k i : Nat) {C : String} {T : u_T} (hc : vwCl[k]? = some (C, T, kN k)) (hk : k < 8) (hi : i < kN k) (hr : kR k i = true) (hin : ∀ w ∈ u_ws C T (kN k), w ∈ Ts) {index b : Nat} (hfd : (T i).1 = C) (hlink : Cond.fieldLink own index C (T i).2.1 (T i).2.2.1 ∈ Ts) (hok : okP S b k = true) (hv : sR S (10 * k + i) b = some v) (hdg : decode cc pc = .ok (.getfield index, 3)) (kk : JW X cells slots (pW cI cO S) (pc + 3) lv (.ref v :: rest)) : JW X cells slots (pW cI cO S) (pc) lv (.ref b :: rest) := by
  obtain ⟨p, l, e, R, s, m, args, below, meth, c, D, A, nL9, Q, tys⟩ := X
  obtain ⟨⟨hx, hb, hml, hown, hts⟩, rfl, hK, hA, hlk, hR⟩ := hX
  obtain rfl : tys = jTy cI cZ cO cJ := hT
  intro H locs ls hP hD hS hl
  obtain ⟨hL, hKb⟩ := okP_in hok
  obtain ⟨j, hj⟩ := pW_at (cI := cI) (cO := cO) hL
  have he : (pW cI cO S)[j]? = some (b, .inr (k, pOb S b k)) := by rw [hj, PF_ob hKb hk]
  exact va_get (D := D) (ci := k) (v := .ref v) hx hb hts hin hown hK hP j he hc i hi (hts _ hlink) (fun x9 h9 => by rw [hfd] at h9; exact h9) (by rw [pOb_at hi, if_pos hr, hv]; rfl) hdg (kk H locs ls hP hD hS hl)
theorem jw_pgetIN {X : JX} {cells slots : Nat} {S : PS} {cI cZ cO cJ : ClassId} {pc : Nat} {lv : List (Nat × Value)} {rest : List Value} {cc : ByteArray} {nL : Nat} {Ts : List Cond} {own : String} {rm : Room} (hX : jOK X cc nL Ts own rm) (hT : jT X = jTy cI cZ cO cJ) (k i : Nat) {C : String} {T : u_T} (hc : vwCl[k]? = some (C, T, kN k)) (hk : k < 8) (hi : i < kN k) (hr : kR k i = false) (hin : ∀ w ∈ u_ws C T (kN k), w ∈ Ts) {index b : Nat} (hfd : (T i).1 = C) {host : String} (hlink : jN X (Cond.fieldLinkNest own index C (T i).2.1 (T i).2.2.1 host)) (hok : okP S b k = true) (hdg : decode cc pc = .ok (.getfield index, 3)) (kk : JW X cells slots (pW cI cO S) (pc + 3) lv (.int (sI S (10 * k + i) b) :: rest)) : JW X cells slots (pW cI cO S) (pc) lv (.ref b :: rest) := by
  obtain ⟨p, l, e, R, s, m, args, below, meth, c, D, A, nL9, Q, tys⟩ := X
  obtain ⟨⟨hx, hb, hml, hown, hts⟩, rfl, hK, hA, hlk, hR⟩ := hX
  obtain rfl : tys = jTy cI cZ cO cJ := hT
  intro H locs ls hP hD hS hl
  obtain ⟨hL, hKb⟩ := okP_in hok
  obtain ⟨j, hj⟩ := pW_at (cI := cI) (cO := cO) hL
  have he : (pW cI cO S)[j]? = some (b, .inr (k, pOb S b k)) := by rw [hj, PF_ob hKb hk]
  have hlink0 := vaNw_use0 args rfl hlink
  exact va_getN (D := D) (ci := k) (v := .int (sI S (10 * k + i) b)) hx hb hts hin hown hK hP j he hc i hi hlink0 (fun x9 h9 => by rw [hfd] at h9; exact h9) (by rw [pOb_at hi, if_neg (by rw [hr]; decide)]) hdg (kk H locs ls hP hD hS hl)
theorem jw_pgetRN {X : JX} {cells slots : Nat} {S : PS} {cI cZ cO cJ : ClassId} {pc : Nat} {lv : List (Nat × Value)} {rest : List Value} {cc : ByteArray} {nL : Nat} {Ts : List Cond} {own : String} {rm : Room} (hX : jOK X cc nL Ts own rm) (hT : jT X = jTy cI cZ cO cJ) {v : Nat} (k i : Nat) {C : String} {T : u_T} (hc : vwCl[k]? = some (C, T, kN k)) (hk : k < 8) (hi : i < kN k) (hr : kR k i = true) (hin : ∀ w ∈ u_ws C T (kN k), w ∈ Ts) {index b : Nat} (hfd : (T i).1 = C) {host : String} (hlink : jN X (Cond.fieldLinkNest own index C (T i).2.1 (T i).2.2.1 host)) (hok : okP S b k = true) (hv : sR S (10 * k + i) b = some v) (hdg : decode cc pc = .ok (.getfield index, 3)) (kk : JW X cells slots (pW cI cO S) (pc + 3) lv (.ref v :: rest)) : JW X cells slots (pW cI cO S) (pc) lv (.ref b :: rest) := by
  obtain ⟨p, l, e, R, s, m, args, below, meth, c, D, A, nL9, Q, tys⟩ := X
  obtain ⟨⟨hx, hb, hml, hown, hts⟩, rfl, hK, hA, hlk, hR⟩ := hX
  obtain rfl : tys = jTy cI cZ cO cJ := hT
  intro H locs ls hP hD hS hl
  obtain ⟨hL, hKb⟩ := okP_in hok
  obtain ⟨j, hj⟩ := pW_at (cI := cI) (cO := cO) hL
  have he : (pW cI cO S)[j]? = some (b, .inr (k, pOb S b k)) := by rw [hj, PF_ob hKb hk]
  have hlink0 := vaNw_use0 args rfl hlink
  exact va_getN (D := D) (ci := k) (v := .ref v) hx hb hts hin hown hK hP j he hc i hi hlink0 (fun x9 h9 => by rw [hfd] at h9; exact h9) (by rw [pOb_at hi, if_pos hr, hv]; rfl) hdg (kk H locs ls hP hD hS hl)
theorem jw_pgetIS {X : JX} {cells slots : Nat} {S : PS} {cI cZ cO cJ : ClassId} {pc : Nat} {lv : List (Nat × Value)} {rest : List Value} {cc : ByteArray} {nL : Nat} {Ts : List Cond} {own : String} {rm : Room} (hX : jOK X cc nL Ts own rm) (hT : jT X = jTy cI cZ cO cJ) (k i : Nat) {C : String} {T : u_T} (hc : vwCl[k]? = some (C, T, kN k)) (hk : k < 8) (hi : i < kN k) (hr : kR k i = false) (hin : ∀ w ∈ u_ws C T (kN k), w ∈ Ts) {index b : Nat} {ref : String} (hlink : Cond.fieldLink own index ref (T i).2.1 (T i).2.2.1 ∈ Ts) (hsm : Cond.sameField ref (T i).1 (T i).2.1 (T i).2.2.1 ∈ Ts) (hok : okP S b k = true) (hdg : decode cc pc = .ok (.getfield index, 3)) (kk : JW X cells slots (pW cI cO S) (pc + 3) lv (.int (sI S (10 * k + i) b) :: rest)) : JW X cells slots (pW cI cO S) (pc) lv (.ref b :: rest) := by
  obtain ⟨p, l, e, R, s, m, args, below, meth, c, D, A, nL9, Q, tys⟩ := X
  obtain ⟨⟨hx, hb, hml, hown, hts⟩, rfl, hK, hA, hlk, hR⟩ := hX
  obtain rfl : tys = jTy cI cZ cO cJ := hT
  intro H locs ls hP hD hS hl
  obtain ⟨hL, hKb⟩ := okP_in hok
  obtain ⟨j, hj⟩ := pW_at (cI := cI) (cO := cO) hL
  have he : (pW cI cO S)[j]? = some (b, .inr (k, pOb S b k)) := by rw [hj, PF_ob hKb hk]
  exact va_get (D := D) (ci := k) (v := .int (sI S (10 * k + i) b)) hx hb hts hin hown hK hP j he hc i hi (hts _ hlink) (fun x9 h9 => u_same (hts _ hsm) x9 h9) (by rw [pOb_at hi, if_neg (by rw [hr]; decide)]) hdg (kk H locs ls hP hD hS hl)
theorem jw_pgetRS {X : JX} {cells slots : Nat} {S : PS} {cI cZ cO cJ : ClassId} {pc : Nat} {lv : List (Nat × Value)} {rest : List Value} {cc : ByteArray} {nL : Nat} {Ts : List Cond} {own : String} {rm : Room} (hX : jOK X cc nL Ts own rm) (hT : jT X = jTy cI cZ cO cJ) {v : Nat} (k i : Nat) {C : String} {T : u_T} (hc : vwCl[k]? = some (C, T, kN k)) (hk : k < 8) (hi : i < kN k) (hr : kR k i = true) (hin : ∀ w ∈ u_ws C T (kN k), w ∈ Ts) {index b : Nat} {ref : String} (hlink : Cond.fieldLink own index ref (T i).2.1 (T i).2.2.1 ∈ Ts) (hsm : Cond.sameField ref (T i).1 (T i).2.1 (T i).2.2.1 ∈ Ts) (hok : okP S b k = true) (hv : sR S (10 * k + i) b = some v) (hdg : decode cc pc = .ok (.getfield index, 3)) (kk : JW X cells slots (pW cI cO S) (pc + 3) lv (.ref v :: rest)) : JW X cells slots (pW cI cO S) (pc) lv (.ref b :: rest) := by
  obtain ⟨p, l, e, R, s, m, args, below, meth, c, D, A, nL9, Q, tys⟩ := X
  obtain ⟨⟨hx, hb, hml, hown, hts⟩, rfl, hK, hA, hlk, hR⟩ := hX
  obtain rfl : tys = jTy cI cZ cO cJ := hT
  intro H locs ls hP hD hS hl
  obtain ⟨hL, hKb⟩ := okP_in hok
  obtain ⟨j, hj⟩ := pW_at (cI := cI) (cO := cO) hL
  have he : (pW cI cO S)[j]? = some (b, .inr (k, pOb S b k)) := by rw [hj, PF_ob hKb hk]
  exact va_get (D := D) (ci := k) (v := .ref v) hx hb hts hin hown hK hP j he hc i hi (hts _ hlink) (fun x9 h9 => u_same (hts _ hsm) x9 h9) (by rw [pOb_at hi, if_pos hr, hv]; rfl) hdg (kk H locs ls hP hD hS hl)
theorem jw_pputI {X : JX} {cells slots : Nat} {S : PS} {cI cZ cO cJ : ClassId} {pc : Nat} {lv : List (Nat × Value)} {rest : List Value} {cc : ByteArray} {nL : Nat} {Ts : List Cond} {own : String} {rm : Room} (hX : jOK X cc nL Ts own rm) (hT : jT X = jTy cI cZ cO cJ) {x : Int32} (k i : Nat) {C : String} {T : u_T} (hc : vwCl[k]? = some (C, T, kN k)) (hk : k < 8) (hi : i < kN k) (hr : kR k i = false) (hin : ∀ w ∈ u_ws C T (kN k), w ∈ Ts) {index b : Nat} (hfd : (T i).1 = C) (hlink : Cond.fieldLink own index C (T i).2.1 (T i).2.2.1 ∈ Ts) (ty0 : Nat → FieldType) (hty : ∀ k9, k9 < kN k → parseFieldDescriptor (T k9).2.2.1 = some (ty0 k9)) (hnm : ∀ a, a < kN k → ∀ b, b < kN k → a ≠ b → (T a).2.1 ≠ (T b).2.1) (hfin : (T i).2.2.2 = false) (hd : parseFieldDescriptor (T i).2.2.1 = some .int) (hok : okP S b k = true) (hdg : decode cc pc = .ok (.putfield index, 3)) (kk : ∀ S1 : PS, S1 = pI S (10 * k + i) b x → JW X cells slots (pW cI cO S1) (pc + 3) lv rest) : JW X cells slots (pW cI cO S) (pc) lv (.int x :: .ref b :: rest) := by
  obtain ⟨p, l, e, R, s, m, args, below, meth, c, D, A, nL9, Q, tys⟩ := X
  obtain ⟨⟨hx, hb, hml, hown, hts⟩, rfl, hK, hA, hlk, hR⟩ := hX
  obtain rfl : tys = jTy cI cZ cO cJ := hT
  intro H locs ls hP hD hS hl
  obtain ⟨hL, hKb⟩ := okP_in hok
  obtain ⟨j, hj⟩ := pW_at (cI := cI) (cO := cO) hL
  have he : (pW cI cO S)[j]? = some (b, .inr (k, pOb S b k)) := by rw [hj, PF_ob hKb hk]
  exact va_put (D := D) (ci := k) (v := .int x) hx hb hts hin ty0 hty hnm hown hK hP hD hS j he hc i hi (hts _ hlink) (fun x9 h9 => by rw [hfd] at h9; exact h9) hfin hd rfl rfl (by rw [pOb_len]; exact hi) hdg (fun H1 locs1 hP1 hD1 hS1 => by
    rw [pW_putI hD hL hKb hk hi hr hj] at hP1 hD1
    exact kk _ rfl H1 locs1 ls hP1 hD1 hS1 hl)
theorem jw_pputZ {X : JX} {cells slots : Nat} {S : PS} {cI cZ cO cJ : ClassId} {pc : Nat} {lv : List (Nat × Value)} {rest : List Value} {cc : ByteArray} {nL : Nat} {Ts : List Cond} {own : String} {rm : Room} (hX : jOK X cc nL Ts own rm) (hT : jT X = jTy cI cZ cO cJ) {x : Int32} (k i : Nat) {C : String} {T : u_T} (hc : vwCl[k]? = some (C, T, kN k)) (hk : k < 8) (hi : i < kN k) (hr : kR k i = false) (hin : ∀ w ∈ u_ws C T (kN k), w ∈ Ts) {index b : Nat} (hfd : (T i).1 = C) (hlink : Cond.fieldLink own index C (T i).2.1 (T i).2.2.1 ∈ Ts) (ty0 : Nat → FieldType) (hty : ∀ k9, k9 < kN k → parseFieldDescriptor (T k9).2.2.1 = some (ty0 k9)) (hnm : ∀ a, a < kN k → ∀ b, b < kN k → a ≠ b → (T a).2.1 ≠ (T b).2.1) (hfin : (T i).2.2.2 = false) (hd : parseFieldDescriptor (T i).2.2.1 = some .boolean) (h01 : b01 x = true) (hok : okP S b k = true) (hdg : decode cc pc = .ok (.putfield index, 3)) (kk : ∀ S1 : PS, S1 = pI S (10 * k + i) b x → JW X cells slots (pW cI cO S1) (pc + 3) lv rest) : JW X cells slots (pW cI cO S) (pc) lv (.int x :: .ref b :: rest) := by
  obtain ⟨p, l, e, R, s, m, args, below, meth, c, D, A, nL9, Q, tys⟩ := X
  obtain ⟨⟨hx, hb, hml, hown, hts⟩, rfl, hK, hA, hlk, hR⟩ := hX
  obtain rfl : tys = jTy cI cZ cO cJ := hT
  intro H locs ls hP hD hS hl
  obtain ⟨hL, hKb⟩ := okP_in hok
  obtain ⟨j, hj⟩ := pW_at (cI := cI) (cO := cO) hL
  have he : (pW cI cO S)[j]? = some (b, .inr (k, pOb S b k)) := by rw [hj, PF_ob hKb hk]
  exact va_put (D := D) (ci := k) (v := .int x) hx hb hts hin ty0 hty hnm hown hK hP hD hS j he hc i hi (hts _ hlink) (fun x9 h9 => by rw [hfd] at h9; exact h9) hfin hd (b01_narrow h01).1 (b01_narrow h01).2 (by rw [pOb_len]; exact hi) hdg (fun H1 locs1 hP1 hD1 hS1 => by
    rw [pW_putI hD hL hKb hk hi hr hj] at hP1 hD1
    exact kk _ rfl H1 locs1 ls hP1 hD1 hS1 hl)
theorem jw_pputR {X : JX} {cells slots : Nat} {S : PS} {cI cZ cO cJ : ClassId} {pc : Nat} {lv : List (Nat × Value)} {rest : List Value} {cc : ByteArray} {nL : Nat} {Ts : List Cond} {own : String} {rm : Room} (hX : jOK X cc nL Ts own rm) (hT : jT X = jTy cI cZ cO cJ) {x : Nat} (k i : Nat) {C : String} {T : u_T} (hc : vwCl[k]? = some (C, T, kN k)) (hk : k < 8) (hi : i < kN k) (hr : kR k i = true) (hin : ∀ w ∈ u_ws C T (kN k), w ∈ Ts) {index b : Nat} (hfd : (T i).1 = C) (hlink : Cond.fieldLink own index C (T i).2.1 (T i).2.2.1 ∈ Ts) (ty0 : Nat → FieldType) (hty : ∀ k9, k9 < kN k → parseFieldDescriptor (T k9).2.2.1 = some (ty0 k9)) (hnm : ∀ a, a < kN k → ∀ b, b < kN k → a ≠ b → (T a).2.1 ≠ (T b).2.1) (hfin : (T i).2.2.2 = false) {ty : FieldType} (hd : parseFieldDescriptor (T i).2.2.1 = some ty) (hty9 : (∃ n, ty = .object n) ∨ ∃ t, ty = .array t) (hok : okP S b k = true) (hdg : decode cc pc = .ok (.putfield index, 3)) (kk : ∀ S1 : PS, S1 = pR S (10 * k + i) b (some x) → JW X cells slots (pW cI cO S1) (pc + 3) lv rest) : JW X cells slots (pW cI cO S) (pc) lv (.ref x :: .ref b :: rest) := by
  obtain ⟨p, l, e, R, s, m, args, below, meth, c, D, A, nL9, Q, tys⟩ := X
  obtain ⟨⟨hx, hb, hml, hown, hts⟩, rfl, hK, hA, hlk, hR⟩ := hX
  obtain rfl : tys = jTy cI cZ cO cJ := hT
  intro H locs ls hP hD hS hl
  obtain ⟨hL, hKb⟩ := okP_in hok
  obtain ⟨j, hj⟩ := pW_at (cI := cI) (cO := cO) hL
  have he : (pW cI cO S)[j]? = some (b, .inr (k, pOb S b k)) := by rw [hj, PF_ob hKb hk]
  have hnf : narrow ty (.ref x) = .ref x ∧ fits ty (.ref x) = true := by rcases hty9 with ⟨n, rfl⟩ | ⟨t, rfl⟩ <;> exact ⟨rfl, rfl⟩
  exact va_put (D := D) (ci := k) (v := .ref x) hx hb hts hin ty0 hty hnm hown hK hP hD hS j he hc i hi (hts _ hlink) (fun x9 h9 => by rw [hfd] at h9; exact h9) hfin hd hnf.1 hnf.2 (by rw [pOb_len]; exact hi) hdg (fun H1 locs1 hP1 hD1 hS1 => by
    have h9 := pW_putR (cI := cI) (cO := cO) (v := some x) hD hL hKb hk hi hr hj
    rw [show va_rf (some x) = Value.ref x from rfl] at h9
    rw [h9] at hP1 hD1
    exact kk _ rfl H1 locs1 ls hP1 hD1 hS1 hl)
theorem jw_pputIN {X : JX} {cells slots : Nat} {S : PS} {cI cZ cO cJ : ClassId} {pc : Nat} {lv : List (Nat × Value)} {rest : List Value} {cc : ByteArray} {nL : Nat} {Ts : List Cond} {own : String} {rm : Room} (hX : jOK X cc nL Ts own rm) (hT : jT X = jTy cI cZ cO cJ) {x : Int32} (k i : Nat) {C : String} {T : u_T} (hc : vwCl[k]? = some (C, T, kN k)) (hk : k < 8) (hi : i < kN k) (hr : kR k i = false) (hin : ∀ w ∈ u_ws C T (kN k), w ∈ Ts) {index b : Nat} (hfd : (T i).1 = C) {host : String} (hlink : jN X (Cond.fieldLinkNest own index C (T i).2.1 (T i).2.2.1 host)) (ty0 : Nat → FieldType) (hty : ∀ k9, k9 < kN k → parseFieldDescriptor (T k9).2.2.1 = some (ty0 k9)) (hnm : ∀ a, a < kN k → ∀ b, b < kN k → a ≠ b → (T a).2.1 ≠ (T b).2.1) (hfin : (T i).2.2.2 = false) (hd : parseFieldDescriptor (T i).2.2.1 = some .int) (hok : okP S b k = true) (hdg : decode cc pc = .ok (.putfield index, 3)) (kk : ∀ S1 : PS, S1 = pI S (10 * k + i) b x → JW X cells slots (pW cI cO S1) (pc + 3) lv rest) : JW X cells slots (pW cI cO S) (pc) lv (.int x :: .ref b :: rest) := by
  obtain ⟨p, l, e, R, s, m, args, below, meth, c, D, A, nL9, Q, tys⟩ := X
  obtain ⟨⟨hx, hb, hml, hown, hts⟩, rfl, hK, hA, hlk, hR⟩ := hX
  obtain rfl : tys = jTy cI cZ cO cJ := hT
  intro H locs ls hP hD hS hl
  obtain ⟨hL, hKb⟩ := okP_in hok
  obtain ⟨j, hj⟩ := pW_at (cI := cI) (cO := cO) hL
  have he : (pW cI cO S)[j]? = some (b, .inr (k, pOb S b k)) := by rw [hj, PF_ob hKb hk]
  have hlink0 := vaNw_use0 args rfl hlink
  exact va_putN (D := D) (ci := k) (v := .int x) hx hb hts hin ty0 hty hnm hown hK hP hD hS j he hc i hi hlink0 (fun x9 h9 => by rw [hfd] at h9; exact h9) hfin hd rfl rfl (by rw [pOb_len]; exact hi) hdg (fun H1 locs1 hP1 hD1 hS1 => by
    rw [pW_putI hD hL hKb hk hi hr hj] at hP1 hD1
    exact kk _ rfl H1 locs1 ls hP1 hD1 hS1 hl)
theorem jw_pputZN {X : JX} {cells slots : Nat} {S : PS} {cI cZ cO cJ : ClassId} {pc : Nat} {lv : List (Nat × Value)} {rest : List Value} {cc : ByteArray} {nL : Nat} {Ts : List Cond} {own : String} {rm : Room} (hX : jOK X cc nL Ts own rm) (hT : jT X = jTy cI cZ cO cJ) {x : Int32} (k i : Nat) {C : String} {T : u_T} (hc : vwCl[k]? = some (C, T, kN k)) (hk : k < 8) (hi : i < kN k) (hr : kR k i = false) (hin : ∀ w ∈ u_ws C T (kN k), w ∈ Ts) {index b : Nat} (hfd : (T i).1 = C) {host : String} (hlink : jN X (Cond.fieldLinkNest own index C (T i).2.1 (T i).2.2.1 host)) (ty0 : Nat → FieldType) (hty : ∀ k9, k9 < kN k → parseFieldDescriptor (T k9).2.2.1 = some (ty0 k9)) (hnm : ∀ a, a < kN k → ∀ b, b < kN k → a ≠ b → (T a).2.1 ≠ (T b).2.1) (hfin : (T i).2.2.2 = false) (hd : parseFieldDescriptor (T i).2.2.1 = some .boolean) (h01 : b01 x = true) (hok : okP S b k = true) (hdg : decode cc pc = .ok (.putfield index, 3)) (kk : ∀ S1 : PS, S1 = pI S (10 * k + i) b x → JW X cells slots (pW cI cO S1) (pc + 3) lv rest) : JW X cells slots (pW cI cO S) (pc) lv (.int x :: .ref b :: rest) := by
  obtain ⟨p, l, e, R, s, m, args, below, meth, c, D, A, nL9, Q, tys⟩ := X
  obtain ⟨⟨hx, hb, hml, hown, hts⟩, rfl, hK, hA, hlk, hR⟩ := hX
  obtain rfl : tys = jTy cI cZ cO cJ := hT
  intro H locs ls hP hD hS hl
  obtain ⟨hL, hKb⟩ := okP_in hok
  obtain ⟨j, hj⟩ := pW_at (cI := cI) (cO := cO) hL
  have he : (pW cI cO S)[j]? = some (b, .inr (k, pOb S b k)) := by rw [hj, PF_ob hKb hk]
  have hlink0 := vaNw_use0 args rfl hlink
  exact va_putN (D := D) (ci := k) (v := .int x) hx hb hts hin ty0 hty hnm hown hK hP hD hS j he hc i hi hlink0 (fun x9 h9 => by rw [hfd] at h9; exact h9) hfin hd (b01_narrow h01).1 (b01_narrow h01).2 (by rw [pOb_len]; exact hi) hdg (fun H1 locs1 hP1 hD1 hS1 => by
    rw [pW_putI hD hL hKb hk hi hr hj] at hP1 hD1
    exact kk _ rfl H1 locs1 ls hP1 hD1 hS1 hl)
theorem jw_pputRN {X : JX} {cells slots : Nat} {S : PS} {cI cZ cO cJ : ClassId} {pc : Nat} {lv : List (Nat × Value)} {rest : List Value} {cc : ByteArray} {nL : Nat} {Ts : List Cond} {own : String} {rm : Room} (hX : jOK X cc nL Ts own rm) (hT : jT X = jTy cI cZ cO cJ) {x : Nat} (k i : Nat) {C : String} {T : u_T} (hc : vwCl[k]? = some (C, T, kN k)) (hk : k < 8) (hi : i < kN k) (hr : kR k i = true) (hin : ∀ w ∈ u_ws C T (kN k), w ∈ Ts) {index b : Nat} (hfd : (T i).1 = C) {host : String} (hlink : jN X (Cond.fieldLinkNest own index C (T i).2.1 (T i).2.2.1 host)) (ty0 : Nat → FieldType) (hty : ∀ k9, k9 < kN k → parseFieldDescriptor (T k9).2.2.1 = some (ty0 k9)) (hnm : ∀ a, a < kN k → ∀ b, b < kN k → a ≠ b → (T a).2.1 ≠ (T b).2.1) (hfin : (T i).2.2.2 = false) {ty : FieldType} (hd : parseFieldDescriptor (T i).2.2.1 = some ty) (hty9 : (∃ n, ty = .object n) ∨ ∃ t, ty = .array t) (hok : okP S b k = true) (hdg : decode cc pc = .ok (.putfield index, 3)) (kk : ∀ S1 : PS, S1 = pR S (10 * k + i) b (some x) → JW X cells slots (pW cI cO S1) (pc + 3) lv rest) : JW X cells slots (pW cI cO S) (pc) lv (.ref x :: .ref b :: rest) := by
  obtain ⟨p, l, e, R, s, m, args, below, meth, c, D, A, nL9, Q, tys⟩ := X
  obtain ⟨⟨hx, hb, hml, hown, hts⟩, rfl, hK, hA, hlk, hR⟩ := hX
  obtain rfl : tys = jTy cI cZ cO cJ := hT
  intro H locs ls hP hD hS hl
  obtain ⟨hL, hKb⟩ := okP_in hok
  obtain ⟨j, hj⟩ := pW_at (cI := cI) (cO := cO) hL
  have he : (pW cI cO S)[j]? = some (b, .inr (k, pOb S b k)) := by rw [hj, PF_ob hKb hk]
  have hlink0 := vaNw_use0 args rfl hlink
  have hnf : narrow ty (.ref x) = .ref x ∧ fits ty (.ref x) = true := by rcases hty9 with ⟨n, rfl⟩ | ⟨t, rfl⟩ <;> exact ⟨rfl, rfl⟩
  exact va_putN (D := D) (ci := k) (v := .ref x) hx hb hts hin ty0 hty hnm hown hK hP hD hS j he hc i hi hlink0 (fun x9 h9 => by rw [hfd] at h9; exact h9) hfin hd hnf.1 hnf.2 (by rw [pOb_len]; exact hi) hdg (fun H1 locs1 hP1 hD1 hS1 => by
    have h9 := pW_putR (cI := cI) (cO := cO) (v := some x) hD hL hKb hk hi hr hj
    rw [show va_rf (some x) = Value.ref x from rfl] at h9
    rw [h9] at hP1 hD1
    exact kk _ rfl H1 locs1 ls hP1 hD1 hS1 hl)
theorem jw_pputIS {X : JX} {cells slots : Nat} {S : PS} {cI cZ cO cJ : ClassId} {pc : Nat} {lv : List (Nat × Value)} {rest : List Value} {cc : ByteArray} {nL : Nat} {Ts : List Cond} {own : String} {rm : Room} (hX : jOK X cc nL Ts own rm) (hT : jT X = jTy cI cZ cO cJ) {x : Int32} (k i : Nat) {C : String} {T : u_T} (hc : vwCl[k]? = some (C, T, kN k)) (hk : k < 8) (hi : i < kN k) (hr : kR k i = false) (hin : ∀ w ∈ u_ws C T (kN k), w ∈ Ts) {index b : Nat} {ref : String} (hlink : Cond.fieldLink own index ref (T i).2.1 (T i).2.2.1 ∈ Ts) (hsm : Cond.sameField ref (T i).1 (T i).2.1 (T i).2.2.1 ∈ Ts) (ty0 : Nat → FieldType) (hty : ∀ k9, k9 < kN k → parseFieldDescriptor (T k9).2.2.1 = some (ty0 k9)) (hnm : ∀ a, a < kN k → ∀ b, b < kN k → a ≠ b → (T a).2.1 ≠ (T b).2.1) (hfin : (T i).2.2.2 = false) (hd : parseFieldDescriptor (T i).2.2.1 = some .int) (hok : okP S b k = true) (hdg : decode cc pc = .ok (.putfield index, 3)) (kk : ∀ S1 : PS, S1 = pI S (10 * k + i) b x → JW X cells slots (pW cI cO S1) (pc + 3) lv rest) : JW X cells slots (pW cI cO S) (pc) lv (.int x :: .ref b :: rest) := by
  obtain ⟨p, l, e, R, s, m, args, below, meth, c, D, A, nL9, Q, tys⟩ := X
  obtain ⟨⟨hx, hb, hml, hown, hts⟩, rfl, hK, hA, hlk, hR⟩ := hX
  obtain rfl : tys = jTy cI cZ cO cJ := hT
  intro H locs ls hP hD hS hl
  obtain ⟨hL, hKb⟩ := okP_in hok
  obtain ⟨j, hj⟩ := pW_at (cI := cI) (cO := cO) hL
  have he : (pW cI cO S)[j]? = some (b, .inr (k, pOb S b k)) := by rw [hj, PF_ob hKb hk]
  exact va_put (D := D) (ci := k) (v := .int x) hx hb hts hin ty0 hty hnm hown hK hP hD hS j he hc i hi (hts _ hlink) (fun x9 h9 => u_same (hts _ hsm) x9 h9) hfin hd rfl rfl (by rw [pOb_len]; exact hi) hdg (fun H1 locs1 hP1 hD1 hS1 => by
    rw [pW_putI hD hL hKb hk hi hr hj] at hP1 hD1
    exact kk _ rfl H1 locs1 ls hP1 hD1 hS1 hl)
theorem jw_pputRS {X : JX} {cells slots : Nat} {S : PS} {cI cZ cO cJ : ClassId} {pc : Nat} {lv : List (Nat × Value)} {rest : List Value} {cc : ByteArray} {nL : Nat} {Ts : List Cond} {own : String} {rm : Room} (hX : jOK X cc nL Ts own rm) (hT : jT X = jTy cI cZ cO cJ) {x : Nat} (k i : Nat) {C : String} {T : u_T} (hc : vwCl[k]? = some (C, T, kN k)) (hk : k < 8) (hi : i < kN k) (hr : kR k i = true) (hin : ∀ w ∈ u_ws C T (kN k), w ∈ Ts) {index b : Nat} {ref : String} (hlink : Cond.fieldLink own index ref (T i).2.1 (T i).2.2.1 ∈ Ts) (hsm : Cond.sameField ref (T i).1 (T i).2.1 (T i).2.2.1 ∈ Ts) (ty0 : Nat → FieldType) (hty : ∀ k9, k9 < kN k → parseFieldDescriptor (T k9).2.2.1 = some (ty0 k9)) (hnm : ∀ a, a < kN k → ∀ b, b < kN k → a ≠ b → (T a).2.1 ≠ (T b).2.1) (hfin : (T i).2.2.2 = false) {ty : FieldType} (hd : parseFieldDescriptor (T i).2.2.1 = some ty) (hty9 : (∃ n, ty = .object n) ∨ ∃ t, ty = .array t) (hok : okP S b k = true) (hdg : decode cc pc = .ok (.putfield index, 3)) (kk : ∀ S1 : PS, S1 = pR S (10 * k + i) b (some x) → JW X cells slots (pW cI cO S1) (pc + 3) lv rest) : JW X cells slots (pW cI cO S) (pc) lv (.ref x :: .ref b :: rest) := by
  obtain ⟨p, l, e, R, s, m, args, below, meth, c, D, A, nL9, Q, tys⟩ := X
  obtain ⟨⟨hx, hb, hml, hown, hts⟩, rfl, hK, hA, hlk, hR⟩ := hX
  obtain rfl : tys = jTy cI cZ cO cJ := hT
  intro H locs ls hP hD hS hl
  obtain ⟨hL, hKb⟩ := okP_in hok
  obtain ⟨j, hj⟩ := pW_at (cI := cI) (cO := cO) hL
  have he : (pW cI cO S)[j]? = some (b, .inr (k, pOb S b k)) := by rw [hj, PF_ob hKb hk]
  have hnf : narrow ty (.ref x) = .ref x ∧ fits ty (.ref x) = true := by rcases hty9 with ⟨n, rfl⟩ | ⟨t, rfl⟩ <;> exact ⟨rfl, rfl⟩
  exact va_put (D := D) (ci := k) (v := .ref x) hx hb hts hin ty0 hty hnm hown hK hP hD hS j he hc i hi (hts _ hlink) (fun x9 h9 => u_same (hts _ hsm) x9 h9) hfin hd hnf.1 hnf.2 (by rw [pOb_len]; exact hi) hdg (fun H1 locs1 hP1 hD1 hS1 => by
    have h9 := pW_putR (cI := cI) (cO := cO) (v := some x) hD hL hKb hk hi hr hj
    rw [show va_rf (some x) = Value.ref x from rfl] at h9
    rw [h9] at hP1 hD1
    exact kk _ rfl H1 locs1 ls hP1 hD1 hS1 hl)
theorem jw_pputIF {X : JX} {cells slots : Nat} {S : PS} {cI cZ cO cJ : ClassId} {pc : Nat} {lv : List (Nat × Value)} {rest : List Value} {cc : ByteArray} {nL : Nat} {Ts : List Cond} {own : String} {rm : Room} (hX : jOK X cc nL Ts own rm) (hT : jT X = jTy cI cZ cO cJ) {x : Int32} (k i : Nat) {C : String} {T : u_T} (hc : vwCl[k]? = some (C, T, kN k)) (hk : k < 8) (hi : i < kN k) (hr : kR k i = false) (hin : ∀ w ∈ u_ws C T (kN k), w ∈ Ts) {index b : Nat} (hfd : (T i).1 = C) (hlink : Cond.fieldLink own index C (T i).2.1 (T i).2.2.1 ∈ Ts) (ty0 : Nat → FieldType) (hty : ∀ k9, k9 < kN k → parseFieldDescriptor (T k9).2.2.1 = some (ty0 k9)) (hnm : ∀ a, a < kN k → ∀ b, b < kN k → a ≠ b → (T a).2.1 ≠ (T b).2.1) (hfin : (T i).2.2.2 = true) (hinit : jInit X) (hfo : (T i).1 = own) (hd : parseFieldDescriptor (T i).2.2.1 = some .int) (hok : okP S b k = true) (hdg : decode cc pc = .ok (.putfield index, 3)) (kk : ∀ S1 : PS, S1 = pI S (10 * k + i) b x → JW X cells slots (pW cI cO S1) (pc + 3) lv rest) : JW X cells slots (pW cI cO S) (pc) lv (.int x :: .ref b :: rest) := by
  obtain ⟨p, l, e, R, s, m, args, below, meth, c, D, A, nL9, Q, tys⟩ := X
  obtain ⟨⟨hx, hb, hml, hown, hts⟩, rfl, hK, hA, hlk, hR⟩ := hX
  obtain rfl : tys = jTy cI cZ cO cJ := hT
  intro H locs ls hP hD hS hl
  obtain ⟨hL, hKb⟩ := okP_in hok
  obtain ⟨j, hj⟩ := pW_at (cI := cI) (cO := cO) hL
  have he : (pW cI cO S)[j]? = some (b, .inr (k, pOb S b k)) := by rw [hj, PF_ob hKb hk]
  exact va_putF (D := D) (ci := k) (v := .int x) hx hb hts hin ty0 hty hnm hown hK hP hD hS j he hc i hi (hts _ hlink) (fun x9 h9 => by rw [hfd] at h9; exact h9) hfin hinit hfo hd rfl rfl (by rw [pOb_len]; exact hi) hdg (fun H1 locs1 hP1 hD1 hS1 => by
    rw [pW_putI hD hL hKb hk hi hr hj] at hP1 hD1
    exact kk _ rfl H1 locs1 ls hP1 hD1 hS1 hl)
theorem jw_pputZF {X : JX} {cells slots : Nat} {S : PS} {cI cZ cO cJ : ClassId} {pc : Nat} {lv : List (Nat × Value)} {rest : List Value} {cc : ByteArray} {nL : Nat} {Ts : List Cond} {own : String} {rm : Room} (hX : jOK X cc nL Ts own rm) (hT : jT X = jTy cI cZ cO cJ) {x : Int32} (k i : Nat) {C : String} {T : u_T} (hc : vwCl[k]? = some (C, T, kN k)) (hk : k < 8) (hi : i < kN k) (hr : kR k i = false) (hin : ∀ w ∈ u_ws C T (kN k), w ∈ Ts) {index b : Nat} (hfd : (T i).1 = C) (hlink : Cond.fieldLink own index C (T i).2.1 (T i).2.2.1 ∈ Ts) (ty0 : Nat → FieldType) (hty : ∀ k9, k9 < kN k → parseFieldDescriptor (T k9).2.2.1 = some (ty0 k9)) (hnm : ∀ a, a < kN k → ∀ b, b < kN k → a ≠ b → (T a).2.1 ≠ (T b).2.1) (hfin : (T i).2.2.2 = true) (hinit : jInit X) (hfo : (T i).1 = own) (hd : parseFieldDescriptor (T i).2.2.1 = some .boolean) (h01 : b01 x = true) (hok : okP S b k = true) (hdg : decode cc pc = .ok (.putfield index, 3)) (kk : ∀ S1 : PS, S1 = pI S (10 * k + i) b x → JW X cells slots (pW cI cO S1) (pc + 3) lv rest) : JW X cells slots (pW cI cO S) (pc) lv (.int x :: .ref b :: rest) := by
  obtain ⟨p, l, e, R, s, m, args, below, meth, c, D, A, nL9, Q, tys⟩ := X
  obtain ⟨⟨hx, hb, hml, hown, hts⟩, rfl, hK, hA, hlk, hR⟩ := hX
  obtain rfl : tys = jTy cI cZ cO cJ := hT
  intro H locs ls hP hD hS hl
  obtain ⟨hL, hKb⟩ := okP_in hok
  obtain ⟨j, hj⟩ := pW_at (cI := cI) (cO := cO) hL
  have he : (pW cI cO S)[j]? = some (b, .inr (k, pOb S b k)) := by rw [hj, PF_ob hKb hk]
  exact va_putF (D := D) (ci := k) (v := .int x) hx hb hts hin ty0 hty hnm hown hK hP hD hS j he hc i hi (hts _ hlink) (fun x9 h9 => by rw [hfd] at h9; exact h9) hfin hinit hfo hd (b01_narrow h01).1 (b01_narrow h01).2 (by rw [pOb_len]; exact hi) hdg (fun H1 locs1 hP1 hD1 hS1 => by
    rw [pW_putI hD hL hKb hk hi hr hj] at hP1 hD1
    exact kk _ rfl H1 locs1 ls hP1 hD1 hS1 hl)
theorem jw_pputRF {X : JX} {cells slots : Nat} {S : PS} {cI cZ cO cJ : ClassId} {pc : Nat} {lv : List (Nat × Value)} {rest : List Value} {cc : ByteArray} {nL : Nat} {Ts : List Cond} {own : String} {rm : Room} (hX : jOK X cc nL Ts own rm) (hT : jT X = jTy cI cZ cO cJ) {x : Nat} (k i : Nat) {C : String} {T : u_T} (hc : vwCl[k]? = some (C, T, kN k)) (hk : k < 8) (hi : i < kN k) (hr : kR k i = true) (hin : ∀ w ∈ u_ws C T (kN k), w ∈ Ts) {index b : Nat} (hfd : (T i).1 = C) (hlink : Cond.fieldLink own index C (T i).2.1 (T i).2.2.1 ∈ Ts) (ty0 : Nat → FieldType) (hty : ∀ k9, k9 < kN k → parseFieldDescriptor (T k9).2.2.1 = some (ty0 k9)) (hnm : ∀ a, a < kN k → ∀ b, b < kN k → a ≠ b → (T a).2.1 ≠ (T b).2.1) (hfin : (T i).2.2.2 = true) (hinit : jInit X) (hfo : (T i).1 = own) {ty : FieldType} (hd : parseFieldDescriptor (T i).2.2.1 = some ty) (hty9 : (∃ n, ty = .object n) ∨ ∃ t, ty = .array t) (hok : okP S b k = true) (hdg : decode cc pc = .ok (.putfield index, 3)) (kk : ∀ S1 : PS, S1 = pR S (10 * k + i) b (some x) → JW X cells slots (pW cI cO S1) (pc + 3) lv rest) : JW X cells slots (pW cI cO S) (pc) lv (.ref x :: .ref b :: rest) := by
  obtain ⟨p, l, e, R, s, m, args, below, meth, c, D, A, nL9, Q, tys⟩ := X
  obtain ⟨⟨hx, hb, hml, hown, hts⟩, rfl, hK, hA, hlk, hR⟩ := hX
  obtain rfl : tys = jTy cI cZ cO cJ := hT
  intro H locs ls hP hD hS hl
  obtain ⟨hL, hKb⟩ := okP_in hok
  obtain ⟨j, hj⟩ := pW_at (cI := cI) (cO := cO) hL
  have he : (pW cI cO S)[j]? = some (b, .inr (k, pOb S b k)) := by rw [hj, PF_ob hKb hk]
  have hnf : narrow ty (.ref x) = .ref x ∧ fits ty (.ref x) = true := by rcases hty9 with ⟨n, rfl⟩ | ⟨t, rfl⟩ <;> exact ⟨rfl, rfl⟩
  exact va_putF (D := D) (ci := k) (v := .ref x) hx hb hts hin ty0 hty hnm hown hK hP hD hS j he hc i hi (hts _ hlink) (fun x9 h9 => by rw [hfd] at h9; exact h9) hfin hinit hfo hd hnf.1 hnf.2 (by rw [pOb_len]; exact hi) hdg (fun H1 locs1 hP1 hD1 hS1 => by
    have h9 := pW_putR (cI := cI) (cO := cO) (v := some x) hD hL hKb hk hi hr hj
    rw [show va_rf (some x) = Value.ref x from rfl] at h9
    rw [h9] at hP1 hD1
    exact kk _ rfl H1 locs1 ls hP1 hD1 hS1 hl)
theorem jw_piald {X : JX} {cells slots : Nat} {S : PS} {cI cZ cO cJ : ClassId} {pc : Nat} {lv : List (Nat × Value)} {rest : List Value} {cc : ByteArray} {nL : Nat} {Ts : List Cond} {own : String} {rm : Room} (hX : jOK X cc nL Ts own rm) (hT : jT X = jTy cI cZ cO cJ) {i : Int32} {b : Nat} (hok : okP S b 8 = true) (hin : inB i (sN S b) = true) (hdg : decode cc pc = .ok (.iaload, 1)) (kk : JW X cells slots (pW cI cO S) (pc + 1) lv (.int (sA S b i.toNatClampNeg) :: rest)) : JW X cells slots (pW cI cO S) (pc) lv (.int i :: .ref b :: rest) := by
  obtain ⟨p, l, e, R, s, m, args, below, meth, c, D, A, nL9, Q, tys⟩ := X
  obtain ⟨⟨hx, hb, hml, hown, hts⟩, rfl, hK, hA, hlk, hR⟩ := hX
  obtain rfl : tys = jTy cI cZ cO cJ := hT
  intro H locs ls hP hD hS hl
  obtain ⟨hL, hKb⟩ := okP_in hok
  obtain ⟨j, hj⟩ := pW_at (cI := cI) (cO := cO) hL
  have he := hj
  rw [PF_ia hKb] at he
  exact va_iald hx hb hK hP j 0 he rfl (inB_in hin) hdg (kk H locs ls hP hD hS hl)
theorem jw_piast {X : JX} {cells slots : Nat} {S : PS} {cI cZ cO cJ : ClassId} {pc : Nat} {lv : List (Nat × Value)} {rest : List Value} {cc : ByteArray} {nL : Nat} {Ts : List Cond} {own : String} {rm : Room} (hX : jOK X cc nL Ts own rm) (hT : jT X = jTy cI cZ cO cJ) {i x : Int32} {b : Nat} (hok : okP S b 8 = true) (hin : inB i (sN S b) = true) (hdg : decode cc pc = .ok (.iastore, 1)) (kk : ∀ S1 : PS, S1 = pA S b i.toNatClampNeg x → JW X cells slots (pW cI cO S1) (pc + 1) lv rest) : JW X cells slots (pW cI cO S) (pc) lv (.int x :: .int i :: .ref b :: rest) := by
  obtain ⟨p, l, e, R, s, m, args, below, meth, c, D, A, nL9, Q, tys⟩ := X
  obtain ⟨⟨hx, hb, hml, hown, hts⟩, rfl, hK, hA, hlk, hR⟩ := hX
  obtain rfl : tys = jTy cI cZ cO cJ := hT
  intro H locs ls hP hD hS hl
  obtain ⟨hL, hKb⟩ := okP_in hok
  obtain ⟨j, hj⟩ := pW_at (cI := cI) (cO := cO) hL
  have he := hj
  rw [PF_ia hKb] at he
  exact va_iast hx hb hK hP hD hS j 0 he rfl (inB_in hin) hdg (fun H1 locs1 hP1 hD1 hS1 => by
    rw [pW_putA hD hL hKb hj] at hP1 hD1
    exact kk _ rfl H1 locs1 ls hP1 hD1 hS1 hl)
theorem jw_paald {X : JX} {cells slots : Nat} {S : PS} {cI cZ cO cJ : ClassId} {pc : Nat} {lv : List (Nat × Value)} {rest : List Value} {cc : ByteArray} {nL : Nat} {Ts : List Cond} {own : String} {rm : Room} (hX : jOK X cc nL Ts own rm) (hT : jT X = jTy cI cZ cO cJ) {i : Int32} {b v : Nat} (hok : okP S b 10 = true) (hin : inB i (sN S b) = true) (hv : sO S b i.toNatClampNeg = some v) (hdg : decode cc pc = .ok (.aaload, 1)) (kk : JW X cells slots (pW cI cO S) (pc + 1) lv (.ref v :: rest)) : JW X cells slots (pW cI cO S) (pc) lv (.int i :: .ref b :: rest) := by
  obtain ⟨p, l, e, R, s, m, args, below, meth, c, D, A, nL9, Q, tys⟩ := X
  obtain ⟨⟨hx, hb, hml, hown, hts⟩, rfl, hK, hA, hlk, hR⟩ := hX
  obtain rfl : tys = jTy cI cZ cO cJ := hT
  intro H locs ls hP hD hS hl
  obtain ⟨hL, hKb⟩ := okP_in hok
  obtain ⟨j, hj⟩ := pW_at (cI := cI) (cO := cO) hL
  have he := hj
  rw [PF_oa hKb] at he
  refine va_aldq hx hb hK hP j 2 he rfl (inB_in hin) hdg ?_
  rw [hv]
  exact kk H locs ls hP hD hS hl
theorem jw_pialen {X : JX} {cells slots : Nat} {S : PS} {cI cZ cO cJ : ClassId} {pc : Nat} {lv : List (Nat × Value)} {rest : List Value} {cc : ByteArray} {nL : Nat} {Ts : List Cond} {own : String} {rm : Room} (hX : jOK X cc nL Ts own rm) (hT : jT X = jTy cI cZ cO cJ) {b : Nat} (hok : okP S b 8 = true) (hdg : decode cc pc = .ok (.arraylength, 1)) (kk : JW X cells slots (pW cI cO S) (pc + 1) lv (.int (nI (sN S b)) :: rest)) : JW X cells slots (pW cI cO S) (pc) lv (.ref b :: rest) := by
  obtain ⟨p, l, e, R, s, m, args, below, meth, c, D, A, nL9, Q, tys⟩ := X
  obtain ⟨⟨hx, hb, hml, hown, hts⟩, rfl, hK, hA, hlk, hR⟩ := hX
  obtain rfl : tys = jTy cI cZ cO cJ := hT
  intro H locs ls hP hD hS hl
  obtain ⟨hL, hKb⟩ := okP_in hok
  obtain ⟨j, hj⟩ := pW_at (cI := cI) (cO := cO) hL
  have he := hj
  rw [PF_ia hKb] at he
  exact va_alen hx hb hK hP j 0 he rfl rfl hdg (kk H locs ls hP hD hS hl)
theorem jw_poalen {X : JX} {cells slots : Nat} {S : PS} {cI cZ cO cJ : ClassId} {pc : Nat} {lv : List (Nat × Value)} {rest : List Value} {cc : ByteArray} {nL : Nat} {Ts : List Cond} {own : String} {rm : Room} (hX : jOK X cc nL Ts own rm) (hT : jT X = jTy cI cZ cO cJ) {b : Nat} (hok : okP S b 10 = true) (hdg : decode cc pc = .ok (.arraylength, 1)) (kk : JW X cells slots (pW cI cO S) (pc + 1) lv (.int (nI (sN S b)) :: rest)) : JW X cells slots (pW cI cO S) (pc) lv (.ref b :: rest) := by
  obtain ⟨p, l, e, R, s, m, args, below, meth, c, D, A, nL9, Q, tys⟩ := X
  obtain ⟨⟨hx, hb, hml, hown, hts⟩, rfl, hK, hA, hlk, hR⟩ := hX
  obtain rfl : tys = jTy cI cZ cO cJ := hT
  intro H locs ls hP hD hS hl
  obtain ⟨hL, hKb⟩ := okP_in hok
  obtain ⟨j, hj⟩ := pW_at (cI := cI) (cO := cO) hL
  have he := hj
  rw [PF_oa hKb] at he
  exact va_alen hx hb hK hP j 2 he rfl rfl hdg (kk H locs ls hP hD hS hl)
theorem jw_pcast {X : JX} {cells slots : Nat} {S : PS} {cI cZ cO cJ : ClassId} {pc : Nat} {lv : List (Nat × Value)} {rest : List Value} {cc : ByteArray} {nL : Nat} {Ts : List Cond} {own : String} {rm : Room} (hX : jOK X cc nL Ts own rm) (hT : jT X = jTy cI cZ cO cJ) {b k : Nat} {C : String} {T : u_T} (hc : vwCl[k]? = some (C, T, kN k)) (hk : k < 8) (hok : okP S b k = true) {index : Nat} (hlink : Cond.classLink own index C ∈ Ts) (hca : jN X (Cond.castable C C)) (hdg : decode cc pc = .ok (.checkcast index, 3)) (kk : JW X cells slots (pW cI cO S) (pc + 3) lv (.ref b :: rest)) : JW X cells slots (pW cI cO S) (pc) lv (.ref b :: rest) := by
  obtain ⟨p, l, e, R, s, m, args, below, meth, c, D, A, nL9, Q, tys⟩ := X
  obtain ⟨⟨hx, hb, hml, hown, hts⟩, rfl, hK, hA, hlk, hR⟩ := hX
  obtain rfl : tys = jTy cI cZ cO cJ := hT
  intro H locs ls hP hD hS hl
  obtain ⟨hL, hKb⟩ := okP_in hok
  obtain ⟨j, hj⟩ := pW_at (cI := cI) (cO := cO) hL
  have he : (pW cI cO S)[j]? = some (b, .inr (k, pOb S b k)) := by rw [hj, PF_ob hKb hk]
  exact va_castY hx hb hown (hts _ hlink) hca (va_recv hK hP hc he) hdg (kk H locs ls hP hD hS hl)
theorem jw_pabs {X : JX} {cells slots : Nat} {S : PS} {cI cZ cO cJ : ClassId} {pc : Nat} {lv : List (Nat × Value)} {rest : List Value} {cc : ByteArray} {nL : Nat} {Ts : List Cond} {own : String} {rm : Room} (hX : jOK X cc nL Ts own rm) (hT : jT X = jTy cI cZ cO cJ) {x : Int32} {index : Nat} (hlink : Cond.methodLink own index Lib.Math.abs.name ∈ Ts) (hstat : Cond.static Lib.Math.abs.name ∈ Ts) (hini : Cond.initialized "java/lang/Math" ∈ Ts) (hcode : Cond.code Lib.Math.abs.name Lib.Math.abs.code 1 (some .int) ∈ Ts) (hframes : 1 ≤ rm.frames) (hlocals : (rest.map fun v => v.category).sum + 13 ≤ rm.locals) (hcs : cells ≤ rm.cells ∧ slots ≤ rm.slots) (hdg : decode cc pc = .ok (.invokestatic index, 3)) (kk : JW X cells slots (pW cI cO S) (pc + 3) lv (.int (if 0 ≤ x then x else 0 - x) :: rest)) : JW X cells slots (pW cI cO S) (pc) lv (.int x :: rest) := by
  obtain ⟨p, l, e, R, s, m, args, below, meth, c, D, A, nL9, Q, tys⟩ := X
  obtain ⟨⟨hx, hb, hml, hown, hts⟩, rfl, hK, hA, hlk, hR⟩ := hX
  obtain rfl : tys = jTy cI cZ cO cJ := hT
  intro H locs ls hP hD hS hl
  subst hR
  exact va_mabs hx hb (hml.trans hl.1.symm) hown (hts _ hlink) (hts _ hstat) (hts _ hini) (hts _ hcode) hframes hlocals hcs.1 hcs.2 hdg (kk H locs ls hP hD hS hl)
theorem jw_pmax {X : JX} {cells slots : Nat} {S : PS} {cI cZ cO cJ : ClassId} {pc : Nat} {lv : List (Nat × Value)} {rest : List Value} {cc : ByteArray} {nL : Nat} {Ts : List Cond} {own : String} {rm : Room} (hX : jOK X cc nL Ts own rm) (hT : jT X = jTy cI cZ cO cJ) {x y : Int32} {index : Nat} (hlink : Cond.methodLink own index Lib.Math.max.name ∈ Ts) (hstat : Cond.static Lib.Math.max.name ∈ Ts) (hini : Cond.initialized "java/lang/Math" ∈ Ts) (hcode : Cond.code Lib.Math.max.name Lib.Math.max.code 2 (some .int) ∈ Ts) (hframes : 1 ≤ rm.frames) (hlocals : (rest.map fun v => v.category).sum + 13 ≤ rm.locals) (hcs : cells ≤ rm.cells ∧ slots ≤ rm.slots) (hdg : decode cc pc = .ok (.invokestatic index, 3)) (kk : JW X cells slots (pW cI cO S) (pc + 3) lv (.int (if x < y then y else x) :: rest)) : JW X cells slots (pW cI cO S) (pc) lv (.int y :: .int x :: rest) := by
  obtain ⟨p, l, e, R, s, m, args, below, meth, c, D, A, nL9, Q, tys⟩ := X
  obtain ⟨⟨hx, hb, hml, hown, hts⟩, rfl, hK, hA, hlk, hR⟩ := hX
  obtain rfl : tys = jTy cI cZ cO cJ := hT
  intro H locs ls hP hD hS hl
  subst hR
  exact va_mmax hx hb (hml.trans hl.1.symm) hown (hts _ hlink) (hts _ hstat) (hts _ hini) (hts _ hcode) hframes hlocals hcs.1 hcs.2 hdg (kk H locs ls hP hD hS hl)
theorem jw_pnew {X : JX} {cells slots : Nat} {S : PS} {cI cZ cO cJ : ClassId} {pc : Nat} {lv : List (Nat × Value)} {rest : List Value} {cc : ByteArray} {nL : Nat} {Ts : List Cond} {own : String} {rm : Room} (hX : jOK X cc nL Ts own rm) (hT : jT X = jTy cI cZ cO cJ) (k : Nat) {C : String} {T : u_T} (hc : vwCl[k]? = some (C, T, kN k)) (hk : k < 8) (hin : ∀ w ∈ u_ws C T (kN k), w ∈ Ts) (ty0 : Nat → FieldType) (hty : ∀ k9, k9 < kN k → parseFieldDescriptor (T k9).2.2.1 = some (ty0 k9)) (hfs : ∀ j, j < kN k → defaultValue (ty0 j) = vp_V (kZ k) j) {index : Nat} (hcl : Cond.classLink own index C ∈ Ts) (hinst : Cond.instantiable C (kN k) ∈ Ts) (hini : Cond.initialized C ∈ Ts) (hcs : cells + 1 ≤ rm.cells ∧ slots + kN k ≤ rm.slots) (hdg : decode cc pc = .ok (.new index, 3)) (kk : ∀ q : Nat, q ∉ sL S → JW X (cells + 1) (slots + kN k) (pW cI cO (pNw S q k)) (pc + 3) lv (.ref q :: rest)) : JW X cells slots (pW cI cO S) (pc) lv rest := by
  obtain ⟨p, l, e, R, s, m, args, below, meth, c, D, A, nL9, Q, tys⟩ := X
  obtain ⟨⟨hx, hb, hml, hown, hts⟩, rfl, hK, hA, hlk, hR⟩ := hX
  obtain rfl : tys = jTy cI cZ cO cJ := hT
  intro H locs ls hP hD hS hl
  subst hR
  refine va_new (ci := k) (fs := kZ k) hx hb hts hin ty0 hty hown (hts _ hcl) (hts _ hinst) (hts _ hini) hK hP hD hS hA hc hfs hcs.1 hcs.2 hdg (fun q H1 hP1 hD1 hS1 => ?_)
  have hq : q ∉ sL S := pW_fresh hD1
  rw [pW_new hq hk] at hP1 hD1
  exact kk q hq H1 locs ls hP1 hD1 hS1 hl
theorem jw_pnewA {X : JX} {cells slots : Nat} {S : PS} {cI cZ cO cJ : ClassId} {pc : Nat} {lv : List (Nat × Value)} {rest : List Value} {cc : ByteArray} {nL : Nat} {Ts : List Cond} {own : String} {rm : Room} (hX : jOK X cc nL Ts own rm) (hT : jT X = jTy cI cZ cO cJ) {n : Int32} {N : Nat} (harr : Cond.arrayClass .int ∈ Ts) (hn : ¬ n < 0) (hN : n.toNatClampNeg = N) (hbig : N ≤ 1000000) (hcs : cells + 1 ≤ rm.cells ∧ slots + N ≤ rm.slots) (hdg : decode cc pc = .ok (.newarray .int, 2)) (kk : ∀ q : Nat, q ∉ sL S → JW X (cells + 1) (slots + N) (pW cI cO (pNA S q N)) (pc + 2) lv (.ref q :: rest)) : JW X cells slots (pW cI cO S) (pc) lv (.int n :: rest) := by
  obtain ⟨p, l, e, R, s, m, args, below, meth, c, D, A, nL9, Q, tys⟩ := X
  obtain ⟨⟨hx, hb, hml, hown, hts⟩, rfl, hK, hA, hlk, hR⟩ := hX
  obtain rfl : tys = jTy cI cZ cO cJ := hT
  intro H locs ls hP hD hS hl
  subst hR
  refine va_newa (atype := .int) (ty := .int) (a0 := (N, .inl (fun _ => 0))) hx hb (hts _ harr) rfl hK hP hD hS hA (fun cA => rfl) hn hN (by show N * 4 ≤ 536870912; omega) hcs.1 hcs.2 hdg (fun q cA H1 hK1 hP1 hD1 hS1 => ?_)
  have hq : q ∉ sL S := pW_fresh hD1
  have hcA : cA = cI := by
    have h1 := (hK1.2 4 (cA, .int) rfl).2
    have h2 := (hK1.2 0 (cI, .int) rfl).2
    exact Option.some.inj (h1.symm.trans h2)
  subst hcA
  rw [pW_newA hq] at hP1 hD1
  exact kk q hq H1 locs ls hP1 hD1 hS1 hl
theorem jw_pVi {X : JX} {cells slots : Nat} {S : PS} {cI cO : ClassId} {pc : Nat} {lv : List (Nat × Value)} {rest : List Value} {cc : ByteArray} {nL : Nat} {Ts : List Cond} {own : String} {rm : Room} (hX : jOK X cc nL Ts own rm) {G : JG} (hG : jGok G) (hGX : jG X G) {y : MethodName} {ws ws' : List Cond} {rm' : Room} {C : String} {index maxL b : Nat} {bytes : ByteArray} {ret : Option FieldType} {As : List Value} {w1 : va_W} {r : Int32} (n : Nat) (hC : CC (jL X) G (jD X) (jT X) y ws rm' (.ref b :: As) (pW cI cO S) (fun ov w2 => ov = some (.int r) ∧ w2 = w1)) (hgood : GoodIn Ts (wsV own index C y ws)) (hw : ws = Cond.code y bytes maxL ret :: ws')
    (hd : y.cls = C ∧ y.cls ≠ "java/lang/invoke/MethodHandle" ∧ y.cls ≠ "java/lang/invoke/VarHandle" ∧ (parseMethodDescriptor y.desc).map (fun d => d.parameters.length) = some n) (hR : rm'.frames + 1 ≤ rm.frames ∧ 8 + (maxL + 11) + rm'.locals ≤ rm.locals)
    (k : Nat) {T : u_T} (hc : vwCl[k]? = some (C, T, kN k)) (hk : k < 8) (hok : okP S b k = true) (hn : As.length = n) (hst : (rest.map fun v => v.category).sum ≤ 8) (hdg : decode cc pc = .ok (.invokevirtual index, 3)) {cells' slots' : Nat} (h1c : cells + rm'.cells = cells') (h1s : slots + rm'.slots = slots') (hcs : cells' ≤ rm.cells ∧ slots' ≤ rm.slots)
    (kk : JW X cells' slots' w1 (pc + 3) lv (.int r :: rest)) : JW X cells slots (pW cI cO S) pc lv (As.reverse ++ .ref b :: rest) := by
  subst h1c h1s
  obtain ⟨hL, hKb⟩ := okP_in hok
  obtain ⟨j, hj⟩ := pW_at (cI := cI) (cO := cO) hL
  refine jw_callV hX hG hGX n hC hgood hw hd hR j k (hj.trans (by rw [PF_ob hKb hk])) hc hn hst hdg hcs ?_
  rintro ov w' ⟨rfl, rfl⟩
  exact kk
theorem jw_pVv {X : JX} {cells slots : Nat} {S : PS} {cI cO : ClassId} {pc : Nat} {lv : List (Nat × Value)} {rest : List Value} {cc : ByteArray} {nL : Nat} {Ts : List Cond} {own : String} {rm : Room} (hX : jOK X cc nL Ts own rm) {G : JG} (hG : jGok G) (hGX : jG X G) {y : MethodName} {ws ws' : List Cond} {rm' : Room} {C : String} {index maxL b : Nat} {bytes : ByteArray} {ret : Option FieldType} {As : List Value} {w1 : va_W} (n : Nat) (hC : CC (jL X) G (jD X) (jT X) y ws rm' (.ref b :: As) (pW cI cO S) (fun ov w2 => ov = none ∧ w2 = w1)) (hgood : GoodIn Ts (wsV own index C y ws)) (hw : ws = Cond.code y bytes maxL ret :: ws')
    (hd : y.cls = C ∧ y.cls ≠ "java/lang/invoke/MethodHandle" ∧ y.cls ≠ "java/lang/invoke/VarHandle" ∧ (parseMethodDescriptor y.desc).map (fun d => d.parameters.length) = some n) (hR : rm'.frames + 1 ≤ rm.frames ∧ 8 + (maxL + 11) + rm'.locals ≤ rm.locals)
    (k : Nat) {T : u_T} (hc : vwCl[k]? = some (C, T, kN k)) (hk : k < 8) (hok : okP S b k = true) (hn : As.length = n) (hst : (rest.map fun v => v.category).sum ≤ 8) (hdg : decode cc pc = .ok (.invokevirtual index, 3)) {cells' slots' : Nat} (h1c : cells + rm'.cells = cells') (h1s : slots + rm'.slots = slots') (hcs : cells' ≤ rm.cells ∧ slots' ≤ rm.slots)
    (kk : JW X cells' slots' w1 (pc + 3) lv rest) : JW X cells slots (pW cI cO S) pc lv (As.reverse ++ .ref b :: rest) := by
  subst h1c h1s
  obtain ⟨hL, hKb⟩ := okP_in hok
  obtain ⟨j, hj⟩ := pW_at (cI := cI) (cO := cO) hL
  refine jw_callV hX hG hGX n hC hgood hw hd hR j k (hj.trans (by rw [PF_ob hKb hk])) hc hn hst hdg hcs ?_
  rintro ov w' ⟨rfl, rfl⟩
  exact kk
theorem jw_pVr {X : JX} {cells slots : Nat} {S : PS} {cI cO : ClassId} {pc : Nat} {lv : List (Nat × Value)} {rest : List Value} {cc : ByteArray} {nL : Nat} {Ts : List Cond} {own : String} {rm : Room} (hX : jOK X cc nL Ts own rm) {G : JG} (hG : jGok G) (hGX : jG X G) {y : MethodName} {ws ws' : List Cond} {rm' : Room} {C : String} {index maxL b : Nat} {bytes : ByteArray} {ret : Option FieldType} {As : List Value} {w1 : va_W} {r : Nat} (n : Nat) (hC : CC (jL X) G (jD X) (jT X) y ws rm' (.ref b :: As) (pW cI cO S) (fun ov w2 => ov = some (.ref r) ∧ w2 = w1)) (hgood : GoodIn Ts (wsV own index C y ws)) (hw : ws = Cond.code y bytes maxL ret :: ws')
    (hd : y.cls = C ∧ y.cls ≠ "java/lang/invoke/MethodHandle" ∧ y.cls ≠ "java/lang/invoke/VarHandle" ∧ (parseMethodDescriptor y.desc).map (fun d => d.parameters.length) = some n) (hR : rm'.frames + 1 ≤ rm.frames ∧ 8 + (maxL + 11) + rm'.locals ≤ rm.locals)
    (k : Nat) {T : u_T} (hc : vwCl[k]? = some (C, T, kN k)) (hk : k < 8) (hok : okP S b k = true) (hn : As.length = n) (hst : (rest.map fun v => v.category).sum ≤ 8) (hdg : decode cc pc = .ok (.invokevirtual index, 3)) {cells' slots' : Nat} (h1c : cells + rm'.cells = cells') (h1s : slots + rm'.slots = slots') (hcs : cells' ≤ rm.cells ∧ slots' ≤ rm.slots)
    (kk : JW X cells' slots' w1 (pc + 3) lv (.ref r :: rest)) : JW X cells slots (pW cI cO S) pc lv (As.reverse ++ .ref b :: rest) := by
  subst h1c h1s
  obtain ⟨hL, hKb⟩ := okP_in hok
  obtain ⟨j, hj⟩ := pW_at (cI := cI) (cO := cO) hL
  refine jw_callV hX hG hGX n hC hgood hw hd hR j k (hj.trans (by rw [PF_ob hKb hk])) hc hn hst hdg hcs ?_
  rintro ov w' ⟨rfl, rfl⟩
  exact kk
theorem jw_pSNi {X : JX} {cells slots : Nat} {w : va_W} {pc : Nat} {lv : List (Nat × Value)} {rest : List Value} {cc : ByteArray} {nL : Nat} {Ts : List Cond} {own : String} {rm : Room} (hX : jOK X cc nL Ts own rm) {G : JG} (hG : jGok G) (hGX : jG X G) {y : MethodName} {ws ws' : List Cond} {rm' : Room} {index maxL : Nat} {bytes : ByteArray} {ret : Option FieldType} {As : List Value} {w1 : va_W} {r : Int32} {host : String} (n : Nat) (hC : CC (jL X) G (jD X) (jT X) y ws rm' As w (fun ov w2 => ov = some (.int r) ∧ w2 = w1)) (hgood : GoodIn Ts ws) (hw : ws = Cond.code y bytes maxL ret :: ws')
    (hlink : jN X (Cond.methodLinkNest own index y host)) (hstat : Cond.static y ∈ Ts ∨ jN X (Cond.static y)) (hini : Cond.initialized y.cls ∈ Ts ∨ jN X (Cond.initialized y.cls))
    (hd : y.cls ≠ "java/lang/invoke/MethodHandle" ∧ y.cls ≠ "java/lang/invoke/VarHandle" ∧ (parseMethodDescriptor y.desc).map (fun d => d.parameters.length) = some n) (hR : rm'.frames + 1 ≤ rm.frames ∧ 8 + (maxL + 11) + rm'.locals ≤ rm.locals)
    (hn : As.length = n) (hst : (rest.map fun v => v.category).sum ≤ 8) (hdg : decode cc pc = .ok (.invokestatic index, 3)) {cells' slots' : Nat} (h1c : cells + rm'.cells = cells') (h1s : slots + rm'.slots = slots') (hcs : cells' ≤ rm.cells ∧ slots' ≤ rm.slots)
    (kk : JW X cells' slots' w1 (pc + 3) lv (.int r :: rest)) : JW X cells slots w pc lv (As.reverse ++ rest) := by
  subst h1c h1s
  obtain ⟨p, l, e, R, s, m, args, below, meth, c, D, A, nL9, Q, tys⟩ := X
  obtain ⟨⟨hx, hb, hml, hown, hts⟩, rfl, hK, hA, hlk, rfl⟩ := hX
  intro H locs ls hP hD hS hl
  have hF := jw_free hD hS hA
  have hst9 : (Cond.static y).before args s = true := hstat.elim (fun h => hts _ h) (fun h => vaNw_use0 args rfl h)
  have hin9 : (Cond.initialized y.cls).before args s = true := hini.elim (fun h => hts _ h) (fun h => vaNw_use0 args rfl h)
  refine jw_run (post := fun ov w2 => ov = some (.int r) ∧ w2 = w1) (va_runSN (As := As) (rest := rest) ⟨hx, hb, hml, hown, hts⟩ (hC H.size) ⟨va_cnB n hts hgood hw rfl rfl hlink hin9 hd hR, hst9, trivial⟩ ⟨jPc_blind hG, fun U hU hW => ⟨rfl, by rw [hU], by rw [hU]; exact hP, va_K.moved hW.alike hK, hD.weaken (fun _ _ _ _ => trivial), jG_at hG hGX hS hF hU hW⟩⟩ rfl hn hl.1 rfl (lv_room hst) (by exact hdg) hcs) hS hF hl ?_
  rintro ov w' ⟨rfl, rfl⟩
  exact kk
