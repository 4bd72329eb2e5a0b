/-! a call beside what it leaves alone, in any number of cells -/
theorem fr_nth {fr wc : va_W} {k : Nat} {q : Nat × va_E} (h : fr[k]? = some q) : (fr ++ wc)[k]? = some q := by
  rw [List.getElem?_append_left (List.getElem?_eq_some_iff.mp h).1]
  exact h
theorem fr_nth2 {fr wc : va_W} {k : Nat} {q : Nat × va_E} (h : wc[k]? = some q) : (fr ++ wc)[fr.length + k]? = some q := by
  rw [List.getElem?_append_right (by omega), Nat.add_sub_cancel_left]
  exact h
theorem fr_keep {A : Nat → Prop} {D : va_G} {cl : List vw_C} {fr wc w1 : va_W} {H H1 : Heap} (hPf : va_P D cl fr H) (hDf : va_D A fr) (hap : ∀ (i j : Nat) (p q : Nat × va_E), fr[i]? = some p → wc[j]? = some q → p.1 ≠ q.1)
    (hk : ∀ q : Nat, q < H.size → ¬ va_A wc H.size q → H1[q]? = H[q]?) (hF : ∀ q, va_A wc H.size q → A q) (hD1 : va_D (va_A wc H.size) w1) : va_P D cl fr H1 ∧ va_D A w1 ∧ ∀ (i j : Nat) (p q : Nat × va_E), fr[i]? = some p → w1[j]? = some q → p.1 ≠ q.1 := by
  have hnot : ∀ (k : Nat) (q : Nat × va_E), fr[k]? = some q → q.1 < H.size ∧ ¬ va_A wc H.size q.1 := by
    intro k q hq
    have hlt := (hPf k q hq).lt
    refine ⟨hlt, ?_⟩
    rintro (⟨k2, e, h2⟩ | h)
    · exact hap k k2 q _ hq h2 rfl
    · omega
  refine ⟨hPf.kept (fun k q hq => hk q.1 (hnot k q hq).1 (hnot k q hq).2), hD1.weaken (fun _ q _ h => hF q.1 h), fun i j p q hp hq he => ?_⟩
  exact (hnot i p hp).2 (by rw [he]; exact hD1.2 j q hq)
theorem fr_suf {A : Nat → Prop} {D : va_G} {cl : List vw_C} {fr wc w1 : va_W} {H H1 : Heap} (hP : va_P D cl (fr ++ wc) H) (hD : va_D A (fr ++ wc))
    (hk : ∀ q : Nat, q < H.size → ¬ va_A wc H.size q → H1[q]? = H[q]?) (hF : ∀ q, va_A wc H.size q → A q) (hP1 : va_P D cl w1 H1) (hD1 : va_D (va_A wc H.size) w1) : va_P D cl (fr ++ w1) H1 ∧ va_D A (fr ++ w1) := by
  have hPf : va_P D cl fr H := fun k q hq => hP k q (fr_nth hq)
  have hDf : va_D A fr := ⟨fun i j p q h1 h2 h3 => hD.1 i j p q (fr_nth h1) (fr_nth h2) h3, fun k q hq => hD.2 k q (fr_nth hq)⟩
  have hap : ∀ (i j : Nat) (p q : Nat × va_E), fr[i]? = some p → wc[j]? = some q → p.1 ≠ q.1 := by
    intro i j p q h1 h2 h3
    have := hD.1 i (fr.length + j) p q (fr_nth h1) (fr_nth2 h2) h3
    have := (List.getElem?_eq_some_iff.mp h1).1
    omega
  obtain ⟨a1, a2, a3⟩ := fr_keep hPf hDf hap hk hF hD1
  exact ⟨a1.app hP1, hDf.app a2 a3⟩
theorem fr_pre {A : Nat → Prop} {D : va_G} {cl : List vw_C} {fr wc w1 : va_W} {H H1 : Heap} (hP : va_P D cl (wc ++ fr) H) (hD : va_D A (wc ++ fr))
    (hk : ∀ q : Nat, q < H.size → ¬ va_A wc H.size q → H1[q]? = H[q]?) (hF : ∀ q, va_A wc H.size q → A q) (hP1 : va_P D cl w1 H1) (hD1 : va_D (va_A wc H.size) w1) : va_P D cl (w1 ++ fr) H1 ∧ va_D A (w1 ++ fr) := by
  have hPf : va_P D cl fr H := fun k q hq => hP _ q (fr_nth2 hq)
  have hDf : va_D A fr := ⟨fun i j p q h1 h2 h3 => by have := hD.1 _ _ p q (fr_nth2 h1) (fr_nth2 h2) h3; omega, fun k q hq => hD.2 _ q (fr_nth2 hq)⟩
  have hap : ∀ (i j : Nat) (p q : Nat × va_E), fr[i]? = some p → wc[j]? = some q → p.1 ≠ q.1 := by
    intro i j p q h1 h2 h3
    have := hD.1 _ j p q (fr_nth2 h1) (fr_nth h2) h3
    have := (List.getElem?_eq_some_iff.mp h2).1
    omega
  obtain ⟨a1, a2, a3⟩ := fr_keep hPf hDf hap hk hF hD1
  exact ⟨hP1.app a1, a2.app hDf (fun i j p q h1 h2 h3 => a3 j i q p h2 h1 h3.symm)⟩
/-- a call's end, beside other cells -/
theorem jw_runG {l : Launch} {p : Program} {e : Env} {R : Room} {s : State} {m : MethodId} {args : Array Value} {below : List Frame} {meth : Method} {c : Code} {D : va_G} {A : Nat → Prop} {nL : Nat} {Q : State → Prop} {tys : List (ClassId × FieldType)} {cells slots mc ms pc : Nat} {wc : va_W} (ww : va_W → va_W) {lv : List (Nat × Value)} {st0 rest : List Value} {H : Heap} {locs : List Loc} {ls : Array Slot} {post : Option Value → va_W → Prop} {a : Array Value}
    (hr : va_Run p l e R s m args below meth c H locs cells slots mc ms (F0 m pc ls st0) rest (jQc D tys wc H.size post a) (va_A wc H.size)) (hS : va_S A s.heap H locs) (hF : ∀ q, va_A wc H.size q → A q) (hl : lv_has ls nL lv)
    (hjoin : ∀ (w1 : va_W) (H1 : Heap), (∀ q : Nat, q < H.size → ¬ va_A wc H.size q → H1[q]? = H[q]?) → va_P D vwCl w1 H1 → va_D (va_A wc H.size) w1 → va_P D vwCl (ww w1) H1 ∧ va_D A (ww w1))
    (kk : ∀ (ov : Option Value) (w' : va_W), post ov w' → JW (p, l, e, R, s, m, args, below, meth, c, D, A, nL, Q, tys) (cells + mc) (slots + ms) (ww w') (pc + 3) lv (ov.toList ++ rest)) : W p l e R s m args below meth c H locs cells slots Q (F0 m pc ls st0) := by
  intro T hT X
  obtain ⟨v, st₀, t, T', L, h0, X', hL, e1, e2, ⟨⟨ov, w', hv, hp, hP1, -, hD1⟩, hz, hk⟩, st⟩ := hr T hT X
  cases hv
  rw [h0] at hz hk
  obtain ⟨hP9, hD9⟩ := hjoin w' T'.heap (fun q h1 h2 => by rw [e1]; exact hk q h1 h2) (by rw [e1]; exact hP1) hD1
  obtain ⟨t2, a1, b1⟩ := kk v w' hp T'.heap (locs ++ L) ls hP9 hD9
    ⟨Nat.le_trans hS.1 (by rw [e1]; exact hz), fun q h1 h2 => by rw [e1, hk q (Nat.lt_of_lt_of_le h1 hS.1) (fun z => h2 (hF q z))]; exact hS.2.1 q h1 h2, fun q hq => by
      rcases List.mem_append.mp hq with h | h
      · exact hS.2.2 q h
      · exact hF _ (hL q h)⟩ hl T' rfl X'
  exact ⟨t2, st t2 a1, b1⟩
theorem fr_hP {D : va_G} {fr wc : va_W} {H : Heap} (hP : va_P D vwCl (fr ++ wc) H) : va_P D vwCl wc H := fun _ q hk => hP _ q (fr_nth2 hk)
theorem fr_hD {A : Nat → Prop} {fr wc : va_W} (hD : va_D A (fr ++ wc)) : va_D A wc := ⟨fun i j p q h1 h2 h3 => by have := hD.1 _ _ p q (fr_nth2 h1) (fr_nth2 h2) h3; omega, fun _ q hk => hD.2 _ q (fr_nth2 hk)⟩
theorem fr_hP1 {D : va_G} {fr wc : va_W} {H : Heap} (hP : va_P D vwCl (wc ++ fr) H) : va_P D vwCl wc H := fun _ q hk => hP _ q (fr_nth hk)
theorem fr_hD1 {A : Nat → Prop} {fr wc : va_W} (hD : va_D A (wc ++ fr)) : va_D A wc := ⟨fun i j p q h1 h2 h3 => hD.1 i j p q (fr_nth h1) (fr_nth h2) h3, fun _ q hk => hD.2 _ q (fr_nth hk)⟩
/-- a static call of a method with a table, on the world's end -/
theorem jw_lS {X : JX} {cells slots : Nat} {fr wc : va_W} {pc : Nat} {lv : List (Nat × Value)} {rest : List Value} {cc : ByteArray} {nL : Nat} {Ts : List Cond} {own : String} {rm : Room} (hX : jOK X cc nL Ts own rm) {G : JG} (hG : jGok G) (hGX : jG X G)
    {y : MethodName} {ws ws' : List Cond} {rm' : Room} {index maxL : Nat} {bytes : ByteArray} {ret : Option FieldType} {hh : List (Nat × Nat × Nat × Nat)} {As : List Value} {post : Option Value → va_W → Prop} (n : Nat) (hC : CC (jL X) G (jD X) (jT X) y ws rm' As wc post) (hgood : GoodIn Ts (va_wsS own index y ws)) (hw : ws = Cond.codeWith y bytes maxL ret hh :: ws')
    (hd : y.cls ≠ "java/lang/invoke/MethodHandle" ∧ y.cls ≠ "java/lang/invoke/VarHandle" ∧ (parseMethodDescriptor y.desc).map (fun d => d.parameters.length) = some n) (hR : rm'.frames + 1 ≤ rm.frames ∧ 8 + (maxL + 11) + rm'.locals ≤ rm.locals)
    (hn : As.length = n) (hst : (rest.map fun v => v.category).sum ≤ 8) (hdg : decode cc pc = .ok (.invokestatic index, 3)) (hcs : cells + rm'.cells ≤ rm.cells ∧ slots + rm'.slots ≤ rm.slots)
    (kk : ∀ (ov : Option Value) (w' : va_W), post ov w' → JW X (cells + rm'.cells) (slots + rm'.slots) (fr ++ w') (pc + 3) lv (ov.toList ++ rest)) : JW X cells slots (fr ++ wc) pc lv (As.reverse ++ rest) := by
  obtain ⟨p, l, e, R, s, m, args, below, meth, c, D, A, nL9, Q, tys⟩ := X
  obtain ⟨⟨hx, hb, hml, hown, hts⟩, rfl, hK, hA, hlk, rfl⟩ := hX
  intro H locs ls hP hD hS hl
  have hPp := fr_hP hP
  have hDp := fr_hD hD
  have hF := jw_free hDp hS hA
  exact jw_runG (fun w1 => fr ++ w1) (vx_runSW (As := As) (rest := rest) ⟨hx, hb, hml, hown, hts⟩ (hC H.size) (vx_cwSW n hts hgood hw rfl rfl hd hR) ⟨jPc_blind hG, fun U hU hW => ⟨rfl, by rw [hU], by rw [hU]; exact hPp, va_K.moved hW.alike hK, hDp.weaken (fun _ _ _ _ => trivial), jG_at hG hGX hS hF hU hW⟩⟩ rfl hn hl.1 rfl (lv_room hst) (by exact hdg) hcs) hS hF hl (fun w1 H1 h1 h2 h3 => fr_suf hP hD h1 hF h2 h3) kk
/-- a call of a method of the landed program's object, on the world's end -/
theorem jw_lV {X : JX} {cells slots : Nat} {fr : va_W} {S : PS} {cI cO : ClassId} {pc : Nat} {lv : List (Nat × Value)} {rest : List Value} {cc : ByteArray} {nL : Nat} {Ts : List Cond} {own : String} {rm : Room} (hX : jOK X cc nL Ts own rm) {G : JG} (hG : jGok G) (hGX : jG X G)
    {y : MethodName} {ws ws' : List Cond} {rm' : Room} {C : String} {index maxL b : Nat} {bytes : ByteArray} {ret : Option FieldType} {As : List Value} {post : Option Value → va_W → Prop} (n : Nat) (hC : CC (jL X) G (jD X) (jT X) y ws rm' (.ref b :: As) (pW cI cO S) post) (hgood : GoodIn Ts (wsV own index C y ws)) (hw : ws = Cond.code y bytes maxL ret :: ws')
    (hd : y.cls = C ∧ y.cls ≠ "java/lang/invoke/MethodHandle" ∧ y.cls ≠ "java/lang/invoke/VarHandle" ∧ (parseMethodDescriptor y.desc).map (fun d => d.parameters.length) = some n) (hR : rm'.frames + 1 ≤ rm.frames ∧ 8 + (maxL + 11) + rm'.locals ≤ rm.locals)
    (k : Nat) {T : u_T} (hc : vwCl[k]? = some (C, T, kN k)) (hk : k < 8) (hok : okP S b k = true) (hn : As.length = n) (hst : (rest.map fun v => v.category).sum ≤ 8) (hdg : decode cc pc = .ok (.invokevirtual index, 3)) (hcs : cells + rm'.cells ≤ rm.cells ∧ slots + rm'.slots ≤ rm.slots)
    (kk : ∀ (ov : Option Value) (w' : va_W), post ov w' → JW X (cells + rm'.cells) (slots + rm'.slots) (fr ++ w') (pc + 3) lv (ov.toList ++ rest)) : JW X cells slots (fr ++ pW cI cO S) pc lv (As.reverse ++ .ref b :: rest) := by
  obtain ⟨hL, hKb⟩ := okP_in hok
  obtain ⟨j, hj⟩ := pW_at (cI := cI) (cO := cO) hL
  obtain ⟨p, l, e, R, s, m, args, below, meth, c, D, A, nL9, Q, tys⟩ := X
  obtain ⟨⟨hx, hb, hml, hown, hts⟩, rfl, hK, hA, hlk, rfl⟩ := hX
  intro H locs ls hP hD hS hl
  have hPp := fr_hP hP
  have hDp := fr_hD hD
  have hF := jw_free hDp hS hA
  exact jw_runG (fun w1 => fr ++ w1) (va_runV (As := As) (rest := rest) ⟨hx, hb, hml, hown, hts⟩ (hC H.size) (cwV n hts hgood hw rfl rfl hd hR) ⟨jPc_blind hG, va_recv hK hPp hc (hj.trans (by rw [PF_ob hKb hk])), fun U hU hW => ⟨rfl, by rw [hU], by rw [hU]; exact hPp, va_K.moved hW.alike hK, hDp.weaken (fun _ _ _ _ => trivial), jG_at hG hGX hS hF hU hW⟩⟩ rfl hn hl.1 rfl (lv_room hst) (by exact hdg) hcs) hS hF hl (fun w1 H1 h1 h2 h3 => fr_suf hP hD h1 hF h2 h3) kk
/-- a call of a method of the reference, at the world's begin -/
theorem jw_lM {X : JX} {cells slots : Nat} {fr : va_W} {w : MW} {a : Nat} {ad : Nat → Nat} {cI cZ : ClassId} {pc : Nat} {lv : List (Nat × Value)} {rest : List Value} {cc : ByteArray} {nL : Nat} {Ts : List Cond} {own : String} {rm : Room} (hX : jOK X cc nL Ts own rm)
    {y : MethodName} {ws ws' : List Cond} {rm' : Room} {index maxL : Nat} {bytes : ByteArray} {ret : Option FieldType} {As : List Value} {post : Option Value → va_W → Prop} (n : Nat) (hC : CC (jL X) jG0 (jD X) (jT X) y ws rm' (.ref a :: As) (mW a ad cI cZ w) post) (hgood : GoodIn Ts (wsV own index RX7 y ws)) (hw : ws = Cond.code y bytes maxL ret :: ws')
    (hd : y.cls = RX7 ∧ y.cls ≠ "java/lang/invoke/MethodHandle" ∧ y.cls ≠ "java/lang/invoke/VarHandle" ∧ (parseMethodDescriptor y.desc).map (fun d => d.parameters.length) = some n) (hR : rm'.frames + 1 ≤ rm.frames ∧ 8 + (maxL + 11) + rm'.locals ≤ rm.locals)
    (hn : As.length = n) (hst : (rest.map fun v => v.category).sum ≤ 8) (hdg : decode cc pc = .ok (.invokevirtual index, 3)) (hcs : cells + rm'.cells ≤ rm.cells ∧ slots + rm'.slots ≤ rm.slots)
    (kk : ∀ (ov : Option Value) (w' : va_W), post ov w' → JW X (cells + rm'.cells) (slots + rm'.slots) (w' ++ fr) (pc + 3) lv (ov.toList ++ rest)) : JW X cells slots (mW a ad cI cZ w ++ fr) pc lv (As.reverse ++ .ref a :: rest) := by
  obtain ⟨p, l, e, R, s, m, args, below, meth, c, D, A, nL9, Q, tys⟩ := X
  obtain ⟨⟨hx, hb, hml, hown, hts⟩, rfl, hK, hA, hlk, rfl⟩ := hX
  intro H locs ls hP hD hS hl
  have hPp := fr_hP1 hP
  have hDp := fr_hD1 hD
  have hF := jw_free hDp hS hA
  exact jw_runG (fun w1 => w1 ++ fr) (va_runV (As := As) (rest := rest) ⟨hx, hb, hml, hown, hts⟩ (hC H.size) (cwV n hts hgood hw rfl rfl hd hR) ⟨jPc_blind jG0_ok, va_recv (q0 := 0) (ci := 7) hK hPp rfl rfl, fun U hU hW => ⟨rfl, by rw [hU], by rw [hU]; exact hPp, va_K.moved hW.alike hK, hDp.weaken (fun _ _ _ _ => trivial), trivial⟩⟩ rfl hn hl.1 rfl (lv_room hst) (by exact hdg) hcs) hS hF hl (fun w1 H1 h1 h2 h3 => fr_pre hP hD h1 hF h2 h3) kk
/-- the script, and the answer's cell behind the reference -/
def jScr (X : JX) (b L : Nat) (xs : Nat → Int32) : Prop := match X with
  | (_, _, _, _, s, _, _, _, _, _, _, A, _, _, _) => va_X b L xs s s.heap ∧ b < s.heap.size ∧ ¬ A b
theorem jw_sld {X : JX} {cells slots : Nat} {w : va_W} {pc : Nat} {lv : List (Nat × Value)} {rest : List Value} {cc : ByteArray} {nL : Nat} {Ts : List Cond} {own : String} {rm : Room} (hX : jOK X cc nL Ts own rm) {b L : Nat} {xs : Nat → Int32} (hB : jScr X b L xs) {i : Int32} (hin : vp_in i L) (hdg : decode cc pc = .ok (.iaload, 1)) (kk : JW X cells slots w (pc + 1) lv (.int (xs i.toNatClampNeg) :: rest)) : JW X cells slots w pc lv (.int i :: .ref b :: rest) := by
  obtain ⟨p, l, e, R, s, m, args, below, meth, c, D, A, nL9, Q, tys⟩ := X
  obtain ⟨⟨hx, hb, hml, hown, hts⟩, rfl, hK, hA, hlk, hR⟩ := hX
  intro H locs ls hP hD hS hl
  exact va_sld hx hb hB.1 hB.2.1 hB.2.2 hS hin hdg (kk H locs ls hP hD hS hl)
theorem jw_slen {X : JX} {cells slots : Nat} {w : va_W} {pc : Nat} {lv : List (Nat × Value)} {rest : List Value} {cc : ByteArray} {nL : Nat} {Ts : List Cond} {own : String} {rm : Room} (hX : jOK X cc nL Ts own rm) {b L : Nat} {xs : Nat → Int32} (hB : jScr X b L xs) (hdg : decode cc pc = .ok (.arraylength, 1)) (kk : JW X cells slots w (pc + 1) lv (.int (nI L) :: rest)) : JW X cells slots w pc lv (.ref b :: rest) := by
  obtain ⟨p, l, e, R, s, m, args, below, meth, c, D, A, nL9, Q, tys⟩ := X
  obtain ⟨⟨hx, hb, hml, hown, hts⟩, rfl, hK, hA, hlk, hR⟩ := hX
  intro H locs ls hP hD hS hl
  exact va_slen hx hb hB.1 hB.2.1 hB.2.2 hS hdg (kk H locs ls hP hD hS hl)
theorem mW_len {a : Nat} {ad : Nat → Nat} {cI cZ : ClassId} {w : MW} : (mW a ad cI cZ w).length = 38 := by
  simp [mW, mKs]
theorem jw_olald {X : JX} {cells slots : Nat} {w : MW} {a : Nat} {ad : Nat → Nat} {wr : va_W} {cI cZ cO cJ : ClassId} {o : Nat} {f : Nat → Int64} {pc : Nat} {lv : List (Nat × Value)} {rest : List Value} {cc : ByteArray} {nL : Nat} {Ts : List Cond} {own : String} {rm : Room} (hX : jOK X cc nL Ts own rm) (hT : jT X = jTy cI cZ cO cJ) (hdg : decode cc pc = .ok (.laload, 1)) (kk : JW X cells slots (mW a ad cI cZ w ++ (o, oE cJ f) :: wr) (pc + 1) lv (.long (f 0) :: rest)) : JW X cells slots (mW a ad cI cZ w ++ (o, oE cJ f) :: wr) pc lv (.int 0 :: .ref o :: rest) := by
  obtain ⟨p, l, e, R, s, m, args, below, meth, c, D, A, nL9, Q, tys⟩ := X
  obtain ⟨⟨hx, hb, hml, hown, hts⟩, rfl, hK, hA, hlk, hR⟩ := hX
  obtain rfl : tys = jTy cI cZ cO cJ := hT
  intro H locs ls hP hD hS hl
  have he : (mW a ad cI cZ w ++ (o, oE cJ f) :: wr)[38]? = some (o, oE cJ f) := by
    rw [List.getElem?_append_right (by rw [mW_len]; exact Nat.le_refl _), mW_len]
    rfl
  exact va_lald hx hb hK hP 38 3 he rfl (by unfold vp_in; decide) hdg (kk H locs ls hP hD hS hl)
