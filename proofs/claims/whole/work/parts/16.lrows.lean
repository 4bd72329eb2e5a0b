/-! the law's own calls of the landed program: a cell for the answer beside the pool; what is thrown is caught -/
def jTab (X : JX) : List ExceptionTableEntry := match X with
  | (_, _, _, _, _, _, _, _, _, c, _, _, _, _, _) => c.exceptionTable.toList
def gX3 : List (String × String) := [("java/lang/IllegalArgumentException", "java/lang/IllegalStateException"), ("java/lang/IllegalArgumentException", "java/lang/IndexOutOfBoundsException"), ("java/lang/IllegalStateException", "java/lang/IllegalArgumentException"), ("java/lang/IllegalStateException", "java/lang/IndexOutOfBoundsException"), ("java/lang/IndexOutOfBoundsException", "java/lang/IllegalArgumentException"), ("java/lang/IndexOutOfBoundsException", "java/lang/IllegalStateException")]
def GL (gs : JP) : JG := fun A U H => GP gs A U H ∧ ∀ q ∈ gX3, va_Nc q.1 q.2 U
theorem GL_ok (gs : JP) : jGok (GL gs) := by
  obtain ⟨h1, h2, h3⟩ := GP_ok gs
  exact ⟨fun A u U H hW h => ⟨h1 A u U H hW h.1, fun q hq => va_Nc.moved hW.alike (h.2 q hq)⟩, fun A U H H1 hq h => ⟨h2 A U H H1 hq h.1, h.2⟩, fun A B U H hAB h => ⟨h3 A B U H hAB h.1, h.2⟩⟩
def jNc (X : JX) (C T : String) : Prop := match X with
  | (_, _, _, _, s, _, _, _, _, _, _, _, _, _, _) => va_Nc C T s
theorem gl_nc {X : JX} {gs : JP} (h : jG X (GL gs)) {C T : String} (hw : (C, T) ∈ gX3) : jNc X C T := by
  obtain ⟨p, l, e, R, s, m, args, below, meth, c, D, A, nL9, Q, tys⟩ := X
  exact h.2 (C, T) hw
theorem gl_gp {X : JX} {gs : JP} (h : jG X (GL gs)) : jG X (GP gs) := by
  obtain ⟨p, l, e, R, s, m, args, below, meth, c, D, A, nL9, Q, tys⟩ := X
  exact h.1
def oE (cJ : ClassId) (f : Nat → Int64) : va_E := .inl (cJ, 1, .inr (.inl f))
theorem Met_ofH {l : Launch} {y : MethodName} {ws ws' : List Cond} {rm : Room} {Pc : Array Value → State → Prop} {Qc : Array Value → State → Outcome → State → Prop} {mc ms : Nat} {free : Addr → Prop} {cc : ByteArray} {maxL : Nat} {ret : Option FieldType} {hh : List (Nat × Nat × Nat × Nat)}
    (hy : plainName y.cls = true) (hw : ws = Cond.codeWith y cc maxL ret hh :: ws')
    (body : ∀ p e s m args below meth c s₁, BodyLoose p l y (headSpec ws rm) cc maxL ret e s m args below meth c s₁ → c.maxLocals = maxL → Pc args s →
      W p l e (headSpec ws rm).room s m args below meth c s.heap [] 0 0 (MQ below Qc args s mc ms free) (entryFrame m args maxL)) : Met l y ws rm Pc Qc mc ms free := by
  refine MetFree.of_bodyS (code := cc) (maxLocals := maxL) (ret := ret) hy ?_ ?_
  · intro args s m h hn
    obtain ⟨m9, meth, c, hn9, h1, h2, h3, h4, -, h5, h6, -⟩ := Cond.codeWith_spec (atoms_spec (ws := ws) h _ (by rw [hw]; exact List.mem_cons_self))
    cases hn.symm.trans hn9
    exact ⟨meth, c, h1, h2, h3, h4, h5, h6⟩
  · intro p e s m args below meth c s₁ B hml hP _
    have hh0 : s₁.heap = s.heap := by rw [B.state]; rfl
    obtain ⟨t, a1, o, b1, b2, b3, b4⟩ := body p e s m args below meth c s₁ B hml hP s₁ hh0 (Stand.of_body B)
    exact ⟨t, o, a1, b1, b2, b3, b4⟩
theorem CC_ofH {l : Launch} {G : JG} {D : va_G} {tys : List (ClassId × FieldType)} {y : MethodName} {ws ws' : List Cond} {rm : Room} {av : List Value} {w : va_W} {post : Option Value → va_W → Prop} {cc : ByteArray} {maxL : Nat} {hh : List (Nat × Nat × Nat × Nat)}
    (hy : plainName y.cls = true) (hw : ws = Cond.codeWith y cc maxL (some .int) hh :: ws') (hn : (lg_sl av).length ≤ maxL)
    (body : ∀ X : JX, jD X = D → jL X = l → jT X = tys → jG X G → jOK X cc maxL ws y.cls rm → jTab X = tableOf hh → jRI X cc rm post → JW X 0 0 w 0 (lv_args 0 av) []) : CC l G D tys y ws rm av w post := by
  intro sz
  refine Met_ofH (cc := cc) (maxL := maxL) (ret := some .int) hy hw ?_
  intro p e s m args below meth c s₁ B hml hv
  obtain ⟨rfl, hsz, hP, hK, hD0, hGG⟩ := hv
  have hx := B.exec
  have hb := B.bytes
  have hr := B.returns
  have hts := atoms_spec (ws := ws) B.pre
  have hown : s.vm.findClass y.cls = some m.cls := findClass_of_methodNamed B.named
  have hlocks := B.notSynchronized
  have htab : c.exceptionTable.toList = tableOf hh := vx_table (x := y) B (hts _ (by rw [hw]; exact List.mem_cons_self))
  subst hsz
  have hD := hD0.self (sz := s.heap.size)
  have hA : ∀ q : Nat, s.heap.size ≤ q → va_A w s.heap.size q := fun q h => Or.inr h
  rw [lg_entry_eq]
  refine body (p, l, e, (headSpec ws rm).room, s, m, av.toArray, below, meth, c, D, va_A w s.heap.size, maxL, MQ below (jQc D tys w s.heap.size post) av.toArray s rm.cells rm.slots (va_A w s.heap.size), tys) rfl rfl rfl hGG ⟨⟨hx, hb, hml, hown, hts⟩, rfl, hK, hA, hlocks, rfl⟩ htab ?_ s.heap [] _ hP hD va_S.rf (lv_entry av hn)
  intro cells slots w' pc lv v hc hs hdg hpost H locs ls hP hD hS hl
  refine W.widen hc hs ?_
  exact W.iret hx hb hr (fun t ht hW => ⟨⟨_, w', rfl, hpost, by rw [ht]; exact hP, va_K.moved hW.alike hK, hD⟩, hS.F ht⟩) hS.2.2 hdg
/-- a call, beside one cell that it leaves alone -/
theorem jw_xrunF {l : Launch} {p : Program} {e : Env} {R : Room} {s : State} {m : MethodId} {args : Array Value} {below : List Frame} {meth : Method} {c : Code} {D : va_G} {A : Nat → Prop} {nL : Nat} {Q : State → Prop} {tys : List (ClassId × FieldType)} {cells slots mc ms pc : Nat} {o : Nat} {e0 : va_E} {w : va_W} {lv : List (Nat × Value)} {st0 rest : List Value} {H : Heap} {locs : List Loc} {ls : Array Slot} {post : Option Value → va_W → Prop} {px : String → va_W → Prop} {a : Array Value}
    (hr : vx_Run p l e R s m args below meth c H locs cells slots mc ms (F0 m pc ls st0) rest (jQc D tys w H.size post a) (jXC D tys w H.size px) (va_A w H.size)) (hP : va_P D vwCl ((o, e0) :: w) H) (hD : va_D A ((o, e0) :: w)) (hS : va_S A s.heap H locs) (hF : ∀ q, va_A w H.size q → A q) (hl : lv_has ls nL lv)
    (kx : ∀ (E : String) (ce : Cell) (q9 : Addr) (w' : va_W) (H1 : Heap) (locs1 : List Loc), px E w' → va_P D vwCl ((o, e0) :: w') H1 → va_D A ((o, e0) :: w') → va_S A s.heap H1 locs1 → H1[q9]? = some ce → ce.vm = .none → s.vm.findClass E = some ce.cls → vx_W p l e R s m args below meth c H1 locs1 (cells + mc) (slots + ms) Q (F0 m pc ls rest) q9)
    (kk : ∀ (ov : Option Value) (w' : va_W), post ov w' → JW (p, l, e, R, s, m, args, below, meth, c, D, A, nL, Q, tys) (cells + mc) (slots + ms) ((o, e0) :: w') (pc + 3) lv (ov.toList ++ rest)) : W p l e R s m args below meth c H locs cells slots Q (F0 m pc ls st0) := by
  intro T hT X
  rcases hr T hT X with ⟨v, st₀, t, T', L, h0, X', hL, e1, e2, ⟨⟨ov, w', hv, hp, hP1, -, hD1⟩, hF9⟩, st⟩ | ⟨q, st₀, t, T', L, E, ce, h0, X', hL, e1, e2, ⟨⟨w', hp, hP1, -, hD1⟩, hF9⟩, hce, hcv, hcl, st⟩
  · cases hv
    obtain ⟨k1, k2, k3⟩ := vx_keep h0 e1 hS (fun q _ h => hF q h) (fun q h => hF q h) hL hF9
    obtain ⟨hP9, hD9⟩ := va_joinP (X := [(o, e0)]) (cx := []) (wr := [(o, e0)]) (rx := []) (pl := w) (pl1 := w') (H1 := T'.heap) hP hD [] [0] rfl rfl rfl (fun i _ h => nomatch h) k2 hF (by rw [e1]; exact hP1) hD1
    obtain ⟨t2, a1, b1⟩ := kk v w' hp T'.heap (locs ++ L) ls hP9 hD9 k3 hl T' rfl X'
    exact ⟨t2, st t2 a1, b1⟩
  · obtain ⟨k1, k2, k3⟩ := vx_keep h0 e1 hS (fun q _ h => hF q h) (fun q h => hF q h) hL hF9
    obtain ⟨hP9, hD9⟩ := va_joinP (X := [(o, e0)]) (cx := []) (wr := [(o, e0)]) (rx := []) (pl := w) (pl1 := w') (H1 := T'.heap) hP hD [] [0] rfl rfl rfl (fun i _ h => nomatch h) k2 hF (by rw [e1]; exact hP1) hD1
    obtain ⟨t2, a1, b1⟩ := kx E ce q w' T'.heap (locs ++ L) hp hP9 hD9 k3 (by rw [e1]; exact hce) hcv hcl T' rfl X'
    exact ⟨t2, st.trans a1, b1⟩
theorem jw_xF {X : JX} {cells slots : Nat} {S : PS} {cI cO : ClassId} {o : Nat} {e0 : va_E} {pc : Nat} {lv : List (Nat × Value)} {rest : List Value} {cc : ByteArray} {nL : Nat} {Ts : List Cond} {own : String} {rm : Room} (hX : jOK X cc nL Ts own rm) {gs : JP} (hGX : jG X (GP gs))
    {y : MethodName} {ws ws' : List Cond} {rm' : Room} {C : String} {index maxL b : Nat} {bytes : ByteArray} {ret : Option FieldType} {As : List Value} {post' : Option Value → va_W → Prop} {px' : String → va_W → Prop} (n : Nat) (hC : CX (jL X) (GP gs) (jD X) (jT X) y ws rm' (.ref b :: As) (pW cI cO S) post' px') (hgood : GoodIn Ts (wsV own index C y ws)) (hw : ws = Cond.code y bytes maxL ret :: ws')
    (hd : y.cls = C ∧ y.cls ≠ "java/lang/invoke/MethodHandle" ∧ y.cls ≠ "java/lang/invoke/VarHandle" ∧ (parseMethodDescriptor y.desc).map (fun d => d.parameters.length) = some n) (hR : rm'.frames + 1 ≤ rm.frames ∧ 8 + (maxL + 11) + rm'.locals ≤ rm.locals)
    (k : Nat) {T : u_T} (hc : vwCl[k]? = some (C, T, kN k)) (hk : k < 8) (hok : okP S b k = true) (hn : As.length = n) (hst : (rest.map fun v => v.category).sum ≤ 8) (hdg : decode cc pc = .ok (.invokevirtual index, 3)) (hcs : cells + rm'.cells ≤ rm.cells ∧ slots + rm'.slots ≤ rm.slots)
    (kx : ∀ (E : String) (ce : Cell) (q9 : Addr) (w' : va_W) (H1 : Heap) (locs1 : List Loc) (ls : Array Slot), px' E w' → jAt X ((o, e0) :: w') H1 locs1 ls lv → jCell X H1 q9 E ce → jWx X (cells + rm'.cells) (slots + rm'.slots) H1 locs1 pc ls rest q9)
    (kk : ∀ (ov : Option Value) (w' : va_W), post' ov w' → JW X (cells + rm'.cells) (slots + rm'.slots) ((o, e0) :: w') (pc + 3) lv (ov.toList ++ rest)) : JW X cells slots ((o, e0) :: pW cI cO S) pc lv (As.reverse ++ .ref b :: rest) := by
  obtain ⟨hL, hKb⟩ := okP_in hok
  obtain ⟨j, hj⟩ := pW_at (cI := cI) (cO := cO) hL
  obtain ⟨p, l, e, R, s, m, args, below, meth, c, D, A, nL9, Q, tys⟩ := X
  obtain ⟨⟨hx, hb, hml, hown, hts⟩, rfl, hK, hA, hlk, rfl⟩ := hX
  intro H locs ls hP hD hS hl
  have hPp : va_P D vwCl (pW cI cO S) H := fun k q hk => hP (k + 1) q hk
  have hDp : va_D A (pW cI cO S) := ⟨fun i j p q h1 h2 h3 => by have := hD.1 (i + 1) (j + 1) p q h1 h2 h3; omega, fun k q hk => hD.2 (k + 1) q hk⟩
  have hF := jw_free hDp hS hA
  refine jw_xrunF (vx_runV (As := As) (rest := rest) ⟨hx, hb, hml, hown, hts⟩ (hC H.size) (cwV n hts hgood hw rfl rfl hd hR) ⟨jPc_blind (GP_ok gs), va_recv hK hPp hc (hj.trans (by rw [PF_ob hKb hk])), fun U hU hW => ⟨rfl, by rw [hU], by rw [hU]; exact hPp, va_K.moved hW.alike hK, hDp.weaken (fun _ _ _ _ => trivial), jG_at (GP_ok gs) hGX hS hF hU hW⟩⟩ rfl hn hl.1 rfl (lv_room hst) (by exact hdg) hcs) hP hD hS hF hl (fun E ce q9 w' H1 locs1 h1 h2 h3 h4 h5 h6 h7 => ?_) kk
  exact kx E ce q9 w' H1 locs1 ls h1 ⟨h2, h3, h4, hl⟩ ⟨h5, h6, h7⟩
/-- caught here -/
theorem jw_catch {X : JX} {cells slots : Nat} {w : va_W} {pc : Nat} {lv : List (Nat × Value)} {rest : List Value} {cc : ByteArray} {nL : Nat} {Ts : List Cond} {own : String} {rm : Room} (hX : jOK X cc nL Ts own rm) {E : String} {ce : Cell} {q9 : Addr} {H1 : Heap} {locs1 : List Loc} {ls : Array Slot} (pre : List ExceptionTableEntry) (x : ExceptionTableEntry) (suf : List ExceptionTableEntry) (hsplit : jTab X = pre ++ x :: suf)
    (hpass : ∀ z ∈ pre, covers z pc = false ∨ (z.catchType ≠ 0 ∧ ∃ nm : String, Cond.classLink own z.catchType nm ∈ Ts ∧ jNc X E nm)) (hx9 : covers x pc = true) (h0 : x.catchType ≠ 0) (hlink : Cond.classLink own x.catchType E ∈ Ts) (hca : jN X (Cond.castable E E)) (hAt : jAt X w H1 locs1 ls lv) (hce : jCell X H1 q9 E ce)
    (kk : ∀ q : Nat, JW X cells slots w x.handlerPc lv [.ref q]) : jWx X cells slots H1 locs1 pc ls rest q9 := by
  obtain ⟨p, l, e, R, s, m, args, below, meth, c, D, A, nL9, Q, tys⟩ := X
  obtain ⟨⟨hx, hb, hml, hown, hts⟩, rfl, hK, hA, hlk, hR⟩ := hX
  obtain ⟨hP, hD, hS, hl⟩ := hAt
  obtain ⟨c1, c2, c3⟩ := hce
  refine vx_catch hown pre x suf hsplit (fun z hz => ?_) hx9 h0 (hts _ hlink) (va_Nw.use rfl hca) c1 c2 c3 (kk q9 H1 locs1 ls hP hD hS hl)
  rcases hpass z hz with h | ⟨h1, nm, h2, h3⟩
  · exact Or.inl h
  · exact Or.inr ⟨h1, nm, hts _ h2, h3⟩
/-- the answer's cell -/
theorem jw_olast {X : JX} {cells slots : Nat} {w : va_W} {cI cZ cO cJ : ClassId} {o : Nat} {f : Nat → Int64} {pc : Nat} {lv : List (Nat × Value)} {rest : List Value} {cc : ByteArray} {nL : Nat} {Ts : List Cond} {own : String} {rm : Room} (hX : jOK X cc nL Ts own rm) (hT : jT X = jTy cI cZ cO cJ) {x : Int64} (hdg : decode cc pc = .ok (.lastore, 1)) (kk : JW X cells slots ((o, oE cJ (vp_updL f 0 x)) :: w) (pc + 1) lv rest) : JW X cells slots ((o, oE cJ f) :: w) pc lv (.long x :: .int 0 :: .ref o :: rest) := by
  obtain ⟨p, l, e, R, s, m, args, below, meth, c, D, A, nL9, Q, tys⟩ := X
  obtain ⟨⟨hx, hb, hml, hown, hts⟩, rfl, hK, hA, hlk, hR⟩ := hX
  obtain rfl : tys = jTy cI cZ cO cJ := hT
  intro H locs ls hP hD hS hl
  exact va_last hx hb hK hP hD hS 0 3 rfl rfl (by unfold vp_in; decide) hdg (fun H1 locs1 hP1 hD1 hS1 => kk H1 locs1 ls hP1 hD1 hS1 hl)
