/-! the premises of the start that the landed program rests on: links between nest mates, casts, texts, statics -/
def gNf : List Cond := [.fieldLinkNest "Postlint" 227 "Postlint$Entry" "typed" "LPostlint$Signs;" "Postlint", .fieldLinkNest "Postlint" 81 "Postlint$Entry" "written" "LPostlint$Signs;" "Postlint", .fieldLinkNest "Postlint" 221 "Postlint$Entry" "postings" "I" "Postlint", .fieldLinkNest "Postlint" 100 "Postlint$Entry" "isStruckOut" "Z" "Postlint", .fieldLinkNest "Postlint" 245 "Postlint$Rule" "kind" "I" "Postlint", .fieldLinkNest "Postlint" 248 "Postlint$Rule" "account" "I" "Postlint", .fieldLinkNest "Postlint" 251 "Postlint$Rule" "number" "I" "Postlint", .fieldLinkNest "Postlint" 135 "Postlint$Rule" "isTakenBack" "Z" "Postlint", .fieldLinkNest "Postlint" 236 "Postlint$Audit" "from" "I" "Postlint", .fieldLinkNest "Postlint" 239 "Postlint$Audit" "to" "I" "Postlint", .fieldLinkNest "Postlint" 242 "Postlint$Audit" "kept" "I" "Postlint", .fieldLinkNest "Postlint" 163 "Postlint$Audit" "hasEnded" "Z" "Postlint"]
def gNm : List Cond := [.methodLinkNest "Postlint" 23 ⟨"Postlint$Reader", "<init>", "()V"⟩ "Postlint", .methodLinkNest "Postlint$Reader" 41 ⟨"Postlint", "isAccount", "(I)Z"⟩ "Postlint", .methodLinkNest "Postlint$Reader" 34 ⟨"Postlint", "isDigit", "(I)Z"⟩ "Postlint", .methodLinkNest "Postlint$Writer" 22 ⟨"Postlint", "isAccount", "(I)Z"⟩ "Postlint", .methodLinkNest "Postlint$Writer" 51 ⟨"Postlint", "isDigit", "(I)Z"⟩ "Postlint", .methodLinkNest "Postlint$Entry" 45 ⟨"Postlint", "isAccount", "(I)Z"⟩ "Postlint", .methodLinkNest "Postlint$Entry" 76 ⟨"Postlint", "isDigit", "(I)Z"⟩ "Postlint"]
def gNc : List Cond := [.castable "Postlint$Entry" "Postlint$Entry", .castable "Postlint$Rule" "Postlint$Rule", .castable "Postlint$Audit" "Postlint$Audit", .castable "Postlint$Entry" "java/lang/Object", .castable "Postlint$Rule" "java/lang/Object", .castable "Postlint$Audit" "java/lang/Object", .castable "java/lang/IllegalArgumentException" "java/lang/IllegalArgumentException", .castable "java/lang/IllegalStateException" "java/lang/IllegalStateException", .castable "java/lang/IndexOutOfBoundsException" "java/lang/IndexOutOfBoundsException"]
def gNd : List Cond := [.declares ⟨"java/lang/RuntimeException", "<init>", "(Ljava/lang/String;)V"⟩, .declares ⟨"java/lang/Exception", "<init>", "(Ljava/lang/String;)V"⟩, .declares ⟨"java/lang/Throwable", "<init>", "(Ljava/lang/String;)V"⟩]
def gStr : List (Nat × String) := [(43, "the sign is out of range"), (54, "the draft is full"), (68, "the ledger is full"), (214, "the draft has a fault"), (225, "the draft counts too many postings"), (198, "there is no such entry"), (94, "the entry is frozen"), (104, "the entry is struck out or frozen"), (208, "the kind is out of range"), (210, "both accounts are the same"), (204, "the account is out of range"), (212, "the number is out of range"), (124, "there are too many rules"), (200, "there is no such rule"), (138, "the rule was taken back"), (147, "the last entry is ahead of the first one"), (149, "there are too many audits"), (202, "there is no such audit"), (166, "the audit has ended"), (174, "the place is below 0"), (206, "the form is out of range")]
abbrev JP : Type := (Nat → Nat) × Nat × Nat
def GP (gs : JP) : JG := fun A U H => (∀ w ∈ gNf, va_Nw w U) ∧ (∀ w ∈ gNm, va_Nw w U) ∧ (∀ w ∈ gNc, va_Nw w U) ∧ (∀ q ∈ gStr, vk_R "Postlint" q.1 q.2 (gs.1 q.1) U) ∧
  vx_Zq Bundle.tN "UNASSIGNED_STACK" Bundle.steD A U H ∧ vx_Zq Bundle.tN "SUPPRESSED_SENTINEL" Bundle.listD A U H ∧
  va_Z "java/util/ArrayList" "DEFAULTCAPACITY_EMPTY_ELEMENTDATA" "[Ljava/lang/Object;" (.ref gs.2.1) A U H ∧ va_T (.object "java/lang/Object") gs.2.1 0 (fun _ => .null) A U H ∧
  va_AO "java/lang/Object" U ∧ va_Mi "[Ljava/lang/Object;" gs.2.2 U ∧ va_Dc U ∧ (∀ w ∈ gNd, va_Nw w U)
theorem gNf_warm {s U : State} (hW : s.WarmedH U.vm) (h : ∀ w ∈ gNf, va_Nw w s) : ∀ w ∈ gNf, va_Nw w U := by
  intro w hw
  have h1 := h w hw
  simp only [gNf, List.mem_cons, List.not_mem_nil, or_false] at hw
  rcases hw with rfl | rfl | rfl | rfl | rfl | rfl | rfl | rfl | rfl | rfl | rfl | rfl <;> exact va_Nw.warmF hW h1
theorem gNm_warm {s U : State} (hW : s.WarmedH U.vm) (h : ∀ w ∈ gNm, va_Nw w s) : ∀ w ∈ gNm, va_Nw w U := by
  intro w hw
  have h1 := h w hw
  simp only [gNm, List.mem_cons, List.not_mem_nil, or_false] at hw
  rcases hw with rfl | rfl | rfl | rfl | rfl | rfl | rfl <;> exact va_Nw.warmM hW h1
theorem gNc_warm {s U : State} (hW : s.WarmedH U.vm) (h : ∀ w ∈ gNc, va_Nw w s) : ∀ w ∈ gNc, va_Nw w U := by
  intro w hw
  have h1 := h w hw
  simp only [gNc, List.mem_cons, List.not_mem_nil, or_false] at hw
  rcases hw with rfl | rfl | rfl | rfl | rfl | rfl | rfl | rfl | rfl <;> exact va_Nw.warmC hW h1
theorem gNd_warm {s U : State} (hW : s.WarmedH U.vm) (h : ∀ w ∈ gNd, va_Nw w s) : ∀ w ∈ gNd, va_Nw w U := by
  intro w hw
  have h1 := h w hw
  simp only [gNd, List.mem_cons, List.not_mem_nil, or_false] at hw
  rcases hw with rfl | rfl | rfl <;> exact va_Nw.warmD hW h1
theorem GP_ok (gs : JP) : jGok (GP gs) := by
  refine ⟨?_, ?_, ?_⟩
  · rintro A u U H hW ⟨h1, h2, h3, h4, h5, h6, h7, h8, h9, h10, h11, h12⟩
    exact ⟨gNf_warm hW h1, gNm_warm hW h2, gNc_warm hW h3, fun q hq => vk_R.warm hW (h4 q hq), vx_Zq.moved hW.alike h5, vx_Zq.moved hW.alike h6, va_Z.moved hW.alike h7, va_T.moved hW.alike h8, va_AO.moved hW.alike h9, va_Mi.moved hW.alike h10, va_Dc.moved hW.alike h11, gNd_warm hW h12⟩
  · rintro A U H H1 hq ⟨h1, h2, h3, h4, h5, h6, h7, h8, h9, h10, h11, h12⟩
    exact ⟨h1, h2, h3, h4, h5.kept hq, h6.kept hq, va_Z.kept h7 hq, va_T.kept h8 hq, h9, h10, h11, h12⟩
  · rintro A B U H hAB ⟨h1, h2, h3, h4, h5, h6, h7, h8, h9, h10, h11, h12⟩
    exact ⟨h1, h2, h3, h4, h5.narrow hAB, h6.narrow hAB, va_Z.narrow h7 hAB, va_T.narrow h8 hAB, h9, h10, h11, h12⟩
theorem gp_nf {X : JX} {gs : JP} (h : jG X (GP gs)) {w : Cond} (hw : w ∈ gNf) : jN X w := by
  obtain ⟨p, l, e, R, s, m, args, below, meth, c, D, A, nL9, Q, tys⟩ := X
  exact h.1 w hw
theorem gp_nm {X : JX} {gs : JP} (h : jG X (GP gs)) {w : Cond} (hw : w ∈ gNm) : jN X w := by
  obtain ⟨p, l, e, R, s, m, args, below, meth, c, D, A, nL9, Q, tys⟩ := X
  exact h.2.1 w hw
theorem gp_nc {X : JX} {gs : JP} (h : jG X (GP gs)) {w : Cond} (hw : w ∈ gNc) : jN X w := by
  obtain ⟨p, l, e, R, s, m, args, below, meth, c, D, A, nL9, Q, tys⟩ := X
  exact h.2.2.1 w hw
def exN (k : Nat) : String := ["java/lang/IllegalArgumentException", "java/lang/IllegalStateException", "java/lang/IndexOutOfBoundsException"].getD k ""
def jXC (D : va_G) (tys : List (ClassId × FieldType)) (w : va_W) (sz : Nat) (px : String → va_W → Prop) : String → State → State → Prop :=
  fun E st t => (∃ w' : va_W, px E w' ∧ va_P D vwCl w' t.heap ∧ va_K D vwCl tys t ∧ va_D (va_A w sz) w') ∧ va_F (va_A w sz) st t
/-- a contract of a method that returns or throws -/
def CX (l : Launch) (G : JG) (D : va_G) (tys : List (ClassId × FieldType)) (y : MethodName) (ws : List Cond) (rm : Room) (av : List Value) (w : va_W) (post : Option Value → va_W → Prop) (px : String → va_W → Prop) : Prop :=
  ∀ sz : Nat, vx_Met l y ws rm (jPc D tys G av w sz) (jQc D tys w sz post) (jXC D tys w sz px) rm.cells rm.slots (va_A w sz)
def jXQ (X : JX) (w0 : va_W) (rm : Room) (post : Option Value → va_W → Prop) (px : String → va_W → Prop) : Prop := match X with
  | (_, l, _, _, s, _, args, below, _, c, D, A, _, Q, tys) => A = va_A w0 s.heap.size ∧ Q = vx_MQ below (jQc D tys w0 s.heap.size post) (jXC D tys w0 s.heap.size px) args s rm.cells rm.slots A ∧ (∀ x ∈ c.exceptionTable.toList, False) ∧ l.stackTraces = false
theorem jXQ_tr {X : JX} {w0 : va_W} {rm : Room} {post : Option Value → va_W → Prop} {px : String → va_W → Prop} (h : jXQ X w0 rm post px) : (jL X).stackTraces = false := by
  obtain ⟨p, l, e, R, s, m, args, below, meth, c, D, A, nL9, Q, tys⟩ := X
  exact h.2.2.2
theorem CX_of {l : Launch} {G : JG} {D : va_G} {tys : List (ClassId × FieldType)} {y : MethodName} {ws ws' : List Cond} {rm : Room} {av : List Value} {w : va_W} {post : Option Value → va_W → Prop} {px : String → va_W → Prop} {cc : ByteArray} {maxL : Nat} {ret : Option FieldType}
    (hl : l.stackTraces = false) (hy : plainName y.cls = true) (hw : ws = Cond.code y cc maxL ret :: ws') (hn : (lg_sl av).length ≤ maxL)
    (body : ∀ X : JX, jD X = D → jL X = l → jT X = tys → jG X G → jOK X cc maxL ws y.cls rm → jXQ X w rm post px →
      (ret = some .int → jRI X cc rm post) → (ret = some .boolean → jRZ X cc rm post) → (ret = none → jRV X cc rm post) → (((∃ n, ret = some (.object n)) ∨ ∃ t, ret = some (.array t)) → jRA X cc rm post) →
      JW X 0 0 w 0 (lv_args 0 av) []) : CX l G D tys y ws rm av w post px := by
  intro sz
  refine vx_ofW (cc := cc) (maxL := maxL) (ret := ret) hy hw ?_
  intro p e s m args below meth c s₁ B hml htab hv
  obtain ⟨rfl, hsz, hP, hK, hD0, hGG⟩ := hv
  have hx := B.exec
  have hb := B.bytes
  have hr := B.returns
  have hts := atoms_spec (ws := ws) B.pre
  have hown : s.vm.findClass y.cls = some m.cls := findClass_of_methodNamed B.named
  have hlocks := B.notSynchronized
  subst hsz
  have hD := hD0.self (sz := s.heap.size)
  have hA : ∀ q : Nat, s.heap.size ≤ q → va_A w s.heap.size q := fun q h => Or.inr h
  rw [lg_entry_eq]
  refine body (p, l, e, (headSpec ws rm).room, s, m, av.toArray, below, meth, c, D, va_A w s.heap.size, maxL, vx_MQ below (jQc D tys w s.heap.size post) (jXC D tys w s.heap.size px) av.toArray s rm.cells rm.slots (va_A w s.heap.size), tys) rfl rfl rfl hGG ⟨⟨hx, hb, hml, hown, hts⟩, rfl, hK, hA, hlocks, rfl⟩ ⟨rfl, rfl, htab, hl⟩ ?_ ?_ ?_ ?_ s.heap [] _ hP hD va_S.rf (lv_entry av hn)
  · intro hret cells slots w' pc lv v hc hs hdg hpost H locs ls hP hD hS hl
    refine W.widen hc hs (vx_ret ?_)
    exact W.iret hx hb (hr.trans hret) (fun t ht hW => ⟨⟨_, w', rfl, hpost, by rw [ht]; exact hP, va_K.moved hW.alike hK, hD⟩, hS.F ht⟩) hS.2.2 hdg
  · intro hret cells slots w' pc lv v hv01 hc hs hdg hpost H locs ls hP hD hS hl
    refine W.widen hc hs (vx_ret ?_)
    exact W.zret hx hb (hr.trans hret) (by rcases hv01 with rfl | rfl <;> decide) (fun t ht hW => ⟨⟨_, w', rfl, hpost, by rw [ht]; exact hP, va_K.moved hW.alike hK, hD⟩, hS.F ht⟩) hS.2.2 hdg
  · intro hret cells slots w' pc lv hc hs hdg hpost H locs ls hP hD hS hl
    refine W.widen hc hs (vx_ret ?_)
    exact W.vret hx hb (hr.trans hret) (fun t ht hW => ⟨⟨_, w', rfl, hpost, by rw [ht]; exact hP, va_K.moved hW.alike hK, hD⟩, hS.F ht⟩) hS.2.2 hdg
  · intro hret cells slots w' pc lv a hc hs hdg hpost H locs ls hP hD hS hl
    refine W.widen hc hs (vx_ret ?_)
    rcases hret with ⟨n, hret⟩ | ⟨t9, hret⟩
    · exact W.aret hx hb (hr.trans hret) (Or.inl ⟨n, rfl⟩) (Or.inr ⟨a, rfl⟩) (fun t ht hW => ⟨⟨_, w', rfl, hpost, by rw [ht]; exact hP, va_K.moved hW.alike hK, hD⟩, hS.F ht⟩) hS.2.2 hdg
    · exact W.aret hx hb (hr.trans hret) (Or.inr ⟨t9, rfl⟩) (Or.inr ⟨a, rfl⟩) (fun t ht hW => ⟨⟨_, w', rfl, hpost, by rw [ht]; exact hP, va_K.moved hW.alike hK, hD⟩, hS.F ht⟩) hS.2.2 hdg
/-- throw new E(text) -/
theorem jw_throwS {X : JX} {cells slots : Nat} {w w0 : va_W} {pc : Nat} {lv : List (Nat × Value)} {rest : List Value} {cc : ByteArray} {nL : Nat} {Ts : List Cond} {rm : Room} (hX : jOK X cc nL Ts "Postlint" rm) {gs : JP} (hGX : jG X (GP gs)) {post : Option Value → va_W → Prop} {px : String → va_W → Prop} (hQ : jXQ X w0 rm post px)
    {ik is ic : Nat} {cls text : String} {names : List String} (hcls : Bundle.fit cls = true) (hnames : ∀ n ∈ names, Bundle.fit n = true) (hk : Cond.classLink "Postlint" ik cls ∈ Ts) (hini : Cond.initialized cls ∈ Ts) (hstr : (is, text) ∈ gStr)
    (hat : ∀ w ∈ (vx_atS "Postlint" ic cls names).filter goodWord, w ∈ Ts) (hbad : ∀ w ∈ (vx_atS "Postlint" ic cls names).filter (fun w => !goodWord w), w ∈ gNc ++ gNd) (hon : ∀ w ∈ gNc ++ gNd, w.onTables = true)
    (hgood : ∀ w ∈ Cond.classLink "Postlint" ik cls :: Cond.initialized cls :: vx_atS "Postlint" ic cls names, vx_ot w = true)
    (d0 : decode cc pc = .ok (.new ik, 3)) (d3 : decode cc (pc + 3) = .ok (.dup, 1)) (d4 : decode cc (pc + 4) = .ok (.ldc is, 2)) (d6 : decode cc (pc + 6) = .ok (.invokespecial ic, 3)) (d9 : decode cc (pc + 9) = .ok (.athrow, 1))
    (hRf : names.length + 3 < rm.frames) (hRl : (rest.map fun v => v.category).sum + (13 * (names.length + 1) + 43) ≤ rm.locals) (hc : cells + 1 ≤ rm.cells) (hs : slots + 6 ≤ rm.slots) (hpx : px cls w) : JW X cells slots w pc lv rest := by
  obtain ⟨p, l, e, R, s, m, args, below, meth, c, D, A, nL9, Q, tys⟩ := X
  obtain ⟨⟨hx, hb, hml, hown, hts⟩, rfl, hK, hA, hlk, rfl⟩ := hX
  obtain ⟨hAe, hQe, htab, htr⟩ := hQ
  subst hQe
  obtain ⟨g1, g2, g3, g4, g5, g6, g7, g8, g9, g10, g11, g12⟩ := hGX
  intro H locs ls hP hD hS hl
  refine vx_throwS hx hb htr hown hcls hnames (hts _ hk) (hts _ hini) (g4 _ hstr) ?_ hgood g5 g6 hS (hl.1.trans hml.symm) d0 d3 d4 d6 d9 (fun x hx9 => (htab x hx9).elim) hRf hRl hc hs hlk ?_ hS.2.2 hc hs
  · exact vx_hat (fun w hw => hts _ (hat w hw)) hbad (fun w hw => vaNw_use0 args (hon w hw) ((List.mem_append.mp hw).elim (g3 w) (g12 w)))
  · intro t hal hsz hkeep
    refine ⟨⟨w, hpx, hP.kept (fun k q hk9 => hkeep q.1 (hP k q hk9).lt), va_K.moved hal hK, by rw [← hAe]; exact hD⟩, ?_⟩
    rw [← hAe]
    exact ⟨Nat.le_trans hS.1 hsz, fun q h1 h2 => by rw [hkeep q (Nat.lt_of_lt_of_le h1 hS.1)]; exact hS.2.1 q h1 h2⟩
theorem gNc_on : ∀ w ∈ gNc ++ gNd, w.onTables = true := by decide +kernel
theorem tbIA : ∀ w ∈ (vx_atS "Postlint" 45 "java/lang/IllegalArgumentException" ["java/lang/RuntimeException", "java/lang/Exception"]).filter (fun w => !goodWord w), w ∈ gNc ++ gNd := by decide +kernel
theorem tgIA : ∀ w ∈ Cond.classLink "Postlint" 41 "java/lang/IllegalArgumentException" :: Cond.initialized "java/lang/IllegalArgumentException" :: vx_atS "Postlint" 45 "java/lang/IllegalArgumentException" ["java/lang/RuntimeException", "java/lang/Exception"], vx_ot w = true := by decide +kernel
theorem tbIS : ∀ w ∈ (vx_atS "Postlint" 56 "java/lang/IllegalStateException" ["java/lang/RuntimeException", "java/lang/Exception"]).filter (fun w => !goodWord w), w ∈ gNc ++ gNd := by decide +kernel
theorem tgIS : ∀ w ∈ Cond.classLink "Postlint" 52 "java/lang/IllegalStateException" :: Cond.initialized "java/lang/IllegalStateException" :: vx_atS "Postlint" 56 "java/lang/IllegalStateException" ["java/lang/RuntimeException", "java/lang/Exception"], vx_ot w = true := by decide +kernel
theorem tbIO : ∀ w ∈ (vx_atS "Postlint" 176 "java/lang/IndexOutOfBoundsException" ["java/lang/RuntimeException", "java/lang/Exception"]).filter (fun w => !goodWord w), w ∈ gNc ++ gNd := by decide +kernel
theorem tgIO : ∀ w ∈ Cond.classLink "Postlint" 172 "java/lang/IndexOutOfBoundsException" :: Cond.initialized "java/lang/IndexOutOfBoundsException" :: vx_atS "Postlint" 176 "java/lang/IndexOutOfBoundsException" ["java/lang/RuntimeException", "java/lang/Exception"], vx_ot w = true := by decide +kernel
theorem jw_xrun {l : Launch} {p : Program} {e : Env} {R : Room} {s : State} {m : MethodId} {args : Array Value} {below : List Frame} {meth : Method} {c : Code} {D : va_G} {A : Nat → Prop} {nL : Nat} {Q : State → Prop} {tys : List (ClassId × FieldType)} {cells slots mc ms pc : Nat} {w : va_W} {lv : List (Nat × Value)} {st0 rest : List Value} {H : Heap} {locs : List Loc} {ls : Array Slot} {post : Option Value → va_W → Prop} {px : String → va_W → Prop} {a : Array Value}
    (hr : vx_Run p l e R s m args below meth c H locs cells slots mc ms (F0 m pc ls st0) rest (jQc D tys w H.size post a) (jXC D tys w H.size px) (va_A w H.size)) (hS : va_S A s.heap H locs) (hF : ∀ q, va_A w H.size q → A q) (hl : lv_has ls nL lv)
    (kx : ∀ (E : String) (ce : Cell) (q9 : Addr) (w' : va_W) (H1 : Heap) (locs1 : List Loc), px E w' → va_P D vwCl w' H1 → va_D A w' → va_S A s.heap H1 locs1 → H1[q9]? = some ce → ce.vm = .none → s.vm.findClass E = some ce.cls → vx_W p l e R s m args below meth c H1 locs1 (cells + mc) (slots + ms) Q (F0 m pc ls rest) q9)
    (kk : ∀ (ov : Option Value) (w' : va_W), post ov w' → JW (p, l, e, R, s, m, args, below, meth, c, D, A, nL, Q, tys) (cells + mc) (slots + ms) w' (pc + 3) lv (ov.toList ++ rest)) : W p l e R s m args below meth c H locs cells slots Q (F0 m pc ls st0) := by
  intro T hT X
  rcases hr T hT X with ⟨v, st₀, t, T', L, h0, X', hL, e1, e2, ⟨⟨ov, w', hv, hp, hP1, -, hD1⟩, hF9⟩, st⟩ | ⟨q, st₀, t, T', L, E, ce, h0, X', hL, e1, e2, ⟨⟨w', hp, hP1, -, hD1⟩, hF9⟩, hce, hcv, hcl, st⟩
  · cases hv
    obtain ⟨k1, k2, k3⟩ := vx_keep h0 e1 hS (fun q _ h => hF q h) (fun q h => hF q h) hL hF9
    obtain ⟨t2, a1, b1⟩ := kk v w' hp T'.heap (locs ++ L) ls (by rw [e1]; exact hP1) (hD1.weaken (fun q _ _ h => hF _ h)) k3 hl T' rfl X'
    exact ⟨t2, st t2 a1, b1⟩
  · obtain ⟨k1, k2, k3⟩ := vx_keep h0 e1 hS (fun q _ h => hF q h) (fun q h => hF q h) hL hF9
    obtain ⟨t2, a1, b1⟩ := kx E ce q w' T'.heap (locs ++ L) hp (by rw [e1]; exact hP1) (hD1.weaken (fun q _ _ h => hF _ h)) k3 (by rw [e1]; exact hce) hcv hcl T' rfl X'
    exact ⟨t2, st.trans a1, b1⟩
theorem jw_null {X : JX} {cells slots : Nat} {w : va_W} {pc : Nat} {lv : List (Nat × Value)} {rest : List Value} {cc : ByteArray} {nL : Nat} {Ts : List Cond} {own : String} {rm : Room} (hX : jOK X cc nL Ts own rm) (hdg : decode cc pc = .ok (.aconst_null, 1)) (kk : JW X cells slots w (pc + 1) lv (.null :: rest)) : JW X cells slots w pc lv rest := by
  obtain ⟨p, l, e, R, s, m, args, below, meth, c, D, A, nL9, Q, tys⟩ := X
  obtain ⟨⟨hx, hb, hml, hown, hts⟩, rfl, hK, hA, hlk, hR⟩ := hX
  intro H locs ls hP hD hS hl
  exact lv_null hx hb hdg (kk H locs ls hP hD hS hl)
def jAt (X : JX) (w : va_W) (H : Heap) (locs : List Loc) (ls : Array Slot) (lv : List (Nat × Value)) : Prop := match X with
  | (_, _, _, _, s, _, _, _, _, _, D, A, nL, _, _) => va_P D vwCl w H ∧ va_D A w ∧ va_S A s.heap H locs ∧ lv_has ls nL lv
def jCell (X : JX) (H : Heap) (q : Addr) (E : String) (ce : Cell) : Prop := match X with
  | (_, _, _, _, s, _, _, _, _, _, _, _, _, _, _) => H[q]? = some ce ∧ ce.vm = .none ∧ s.vm.findClass E = some ce.cls
def jWx (X : JX) (cells slots : Nat) (H : Heap) (locs : List Loc) (pc : Nat) (ls : Array Slot) (rest : List Value) (q : Addr) : Prop := match X with
  | (p, l, e, R, s, m, args, below, meth, c, _, _, _, Q, _) => vx_W p l e R s m args below meth c H locs cells slots Q (F0 m pc ls rest) q
theorem jw_xcallV {X : JX} {cells slots : Nat} {w : va_W} {pc : Nat} {lv : List (Nat × Value)} {rest : List Value} {cc : ByteArray} {nL : Nat} {Ts : List Cond} {own : String} {rm : Room} (hX : jOK X cc nL Ts own rm) {G : JG} (hG : jGok G) (hGX : jG X G) {y : MethodName} {ws ws' : List Cond} {rm' : Room} {C : String} {index maxL b : Nat} {bytes : ByteArray} {ret : Option FieldType} {As : List Value} {post' : Option Value → va_W → Prop} {px' : String → va_W → Prop} (n : Nat) (hC : CX (jL X) G (jD X) (jT X) y ws rm' (.ref b :: As) w post' px') (hgood : GoodIn Ts (wsV own index C y ws)) (hw : ws = Cond.code y bytes maxL ret :: ws')
    (hd : y.cls = C ∧ y.cls ≠ "java/lang/invoke/MethodHandle" ∧ y.cls ≠ "java/lang/invoke/VarHandle" ∧ (parseMethodDescriptor y.desc).map (fun d => d.parameters.length) = some n) (hR : rm'.frames + 1 ≤ rm.frames ∧ 8 + (maxL + 11) + rm'.locals ≤ rm.locals)
    (q0 ci : Nat) {fs : List Value} {T : u_T} {N : Nat} (he : w[q0]? = some (b, .inr (ci, fs))) (hc : vwCl[ci]? = some (C, T, N)) (hn : As.length = n) (hst : (rest.map fun v => v.category).sum ≤ 8) (hdg : decode cc pc = .ok (.invokevirtual index, 3)) (hcs : cells + rm'.cells ≤ rm.cells ∧ slots + rm'.slots ≤ rm.slots)
    (kx : ∀ (E : String) (ce : Cell) (q9 : Addr) (w' : va_W) (H1 : Heap) (locs1 : List Loc) (ls : Array Slot), px' E w' → jAt X w' H1 locs1 ls lv → jCell X H1 q9 E ce → jWx X (cells + rm'.cells) (slots + rm'.slots) H1 locs1 pc ls rest q9) (kk : ∀ (ov : Option Value) (w' : va_W), post' ov w' → JW X (cells + rm'.cells) (slots + rm'.slots) w' (pc + 3) lv (ov.toList ++ rest)) : JW X cells slots w pc lv (As.reverse ++ .ref b :: rest) := by
  obtain ⟨p, l, e, R, s, m, args, below, meth, c, D, A, nL9, Q, tys⟩ := X
  obtain ⟨⟨hx, hb, hml, hown, hts⟩, rfl, hK, hA, hlk, rfl⟩ := hX
  intro H locs ls hP hD hS hl
  have hF := jw_free hD hS hA
  refine jw_xrun (vx_runV (As := As) (rest := rest) ⟨hx, hb, hml, hown, hts⟩ (hC H.size) (cwV n hts hgood hw rfl rfl hd hR) ⟨jPc_blind hG, va_recv hK hP hc he, fun U hU hW => ⟨rfl, by rw [hU], by rw [hU]; exact hP, va_K.moved hW.alike hK, hD.weaken (fun _ _ _ _ => trivial), jG_at hG hGX hS hF hU hW⟩⟩ rfl hn hl.1 rfl (lv_room hst) (by exact hdg) hcs) hS hF hl (fun E ce q9 w' H1 locs1 h1 h2 h3 h4 h5 h6 h7 => ?_) kk
  exact kx E ce q9 w' H1 locs1 ls h1 ⟨h2, h3, h4, hl⟩ ⟨h5, h6, h7⟩
theorem jw_xcallS {X : JX} {cells slots : Nat} {w : va_W} {pc : Nat} {lv : List (Nat × Value)} {rest : List Value} {cc : ByteArray} {nL : Nat} {Ts : List Cond} {own : String} {rm : Room} (hX : jOK X cc nL Ts own rm) {G : JG} (hG : jGok G) (hGX : jG X G) {y : MethodName} {ws ws' : List Cond} {rm' : Room} {index maxL : Nat} {bytes : ByteArray} {ret : Option FieldType} {As : List Value} {post' : Option Value → va_W → Prop} {px' : String → va_W → Prop} (n : Nat) (hC : CX (jL X) G (jD X) (jT X) y ws rm' As w post' px') (hgood : GoodIn Ts (va_wsS own index y ws)) (hw : ws = Cond.code y bytes maxL ret :: ws')
    (hd : y.cls ≠ "java/lang/invoke/MethodHandle" ∧ y.cls ≠ "java/lang/invoke/VarHandle" ∧ (parseMethodDescriptor y.desc).map (fun d => d.parameters.length) = some n) (hR : rm'.frames + 1 ≤ rm.frames ∧ 8 + (maxL + 11) + rm'.locals ≤ rm.locals)
    (hn : As.length = n) (hst : (rest.map fun v => v.category).sum ≤ 8) (hdg : decode cc pc = .ok (.invokestatic index, 3)) (hcs : cells + rm'.cells ≤ rm.cells ∧ slots + rm'.slots ≤ rm.slots)
    (kx : ∀ (E : String) (ce : Cell) (q9 : Addr) (w' : va_W) (H1 : Heap) (locs1 : List Loc) (ls : Array Slot), px' E w' → jAt X w' H1 locs1 ls lv → jCell X H1 q9 E ce → jWx X (cells + rm'.cells) (slots + rm'.slots) H1 locs1 pc ls rest q9) (kk : ∀ (ov : Option Value) (w' : va_W), post' ov w' → JW X (cells + rm'.cells) (slots + rm'.slots) w' (pc + 3) lv (ov.toList ++ rest)) : JW X cells slots w pc lv (As.reverse ++ rest) := by
  obtain ⟨p, l, e, R, s, m, args, below, meth, c, D, A, nL9, Q, tys⟩ := X
  obtain ⟨⟨hx, hb, hml, hown, hts⟩, rfl, hK, hA, hlk, rfl⟩ := hX
  intro H locs ls hP hD hS hl
  have hF := jw_free hD hS hA
  refine jw_xrun (vx_runS (As := As) (rest := rest) ⟨hx, hb, hml, hown, hts⟩ (hC H.size) (va_cwS n hts hgood hw rfl rfl hd hR) ⟨jPc_blind hG, fun U hU hW => ⟨rfl, by rw [hU], by rw [hU]; exact hP, va_K.moved hW.alike hK, hD.weaken (fun _ _ _ _ => trivial), jG_at hG hGX hS hF hU hW⟩⟩ rfl hn hl.1 rfl (lv_room hst) (by exact hdg) hcs) hS hF hl (fun E ce q9 w' H1 locs1 h1 h2 h3 h4 h5 h6 h7 => ?_) kk
  exact kx E ce q9 w' H1 locs1 ls h1 ⟨h2, h3, h4, hl⟩ ⟨h5, h6, h7⟩
/-- what a callee threw goes on to the caller -/
theorem jw_prop {X : JX} {cells slots : Nat} {w w0 : va_W} {pc : Nat} {lv : List (Nat × Value)} {rest : List Value} {cc : ByteArray} {nL : Nat} {Ts : List Cond} {own : String} {rm : Room} (hX : jOK X cc nL Ts own rm) {post : Option Value → va_W → Prop} {px : String → va_W → Prop} (hQ : jXQ X w0 rm post px) {E : String} {ce : Cell} {q9 : Addr} {H1 : Heap} {locs1 : List Loc} {ls : Array Slot} (hAt : jAt X w H1 locs1 ls lv) (hce : jCell X H1 q9 E ce) (hpx : px E w) (hcs : cells ≤ rm.cells ∧ slots ≤ rm.slots) : jWx X cells slots H1 locs1 pc ls rest q9 := by
  obtain ⟨p, l, e, R, s, m, args, below, meth, c, D, A, nL9, Q, tys⟩ := X
  obtain ⟨⟨hx, hb, hml, hown, hts⟩, rfl, hK, hA, hlk, rfl⟩ := hX
  obtain ⟨hAe, hQe, htab, htr⟩ := hQ
  subst hQe
  obtain ⟨hP, hD, hS, hl⟩ := hAt
  obtain ⟨c1, c2, c3⟩ := hce
  refine vx_out (fun x hx9 => (htab x hx9).elim) hlk c1 c2 c3 (fun t ht hal => ?_) hS.2.2 hcs.1 hcs.2
  refine ⟨⟨w, hpx, by rw [ht]; exact hP, va_K.moved hal hK, by rw [← hAe]; exact hD⟩, ?_⟩
  rw [← hAe]
  exact hS.F ht
theorem jw_pVXi {X : JX} {cells slots : Nat} {S : PS} {cI cO : ClassId} {pc : Nat} {lv : List (Nat × Value)} {rest : List Value} {cc : ByteArray} {nL : Nat} {Ts : List Cond} {own : String} {rm : Room} (hX : jOK X cc nL Ts own rm) {G : JG} (hG : jGok G) (hGX : jG X G) {y : MethodName} {ws ws' : List Cond} {rm' : Room} {C : String} {index maxL b : Nat} {bytes : ByteArray} {ret : Option FieldType} {As : List Value} {w1 : va_W} {r : Int32} (n : Nat) (hC : CX (jL X) G (jD X) (jT X) y ws rm' (.ref b :: As) (pW cI cO S) (fun ov w2 => ov = some (.int r) ∧ w2 = w1) (fun _ _ => False)) (hgood : GoodIn Ts (wsV own index C y ws)) (hw : ws = Cond.code y bytes maxL ret :: ws')
    (hd : y.cls = C ∧ y.cls ≠ "java/lang/invoke/MethodHandle" ∧ y.cls ≠ "java/lang/invoke/VarHandle" ∧ (parseMethodDescriptor y.desc).map (fun d => d.parameters.length) = some n) (hR : rm'.frames + 1 ≤ rm.frames ∧ 8 + (maxL + 11) + rm'.locals ≤ rm.locals)
    (k : Nat) {T : u_T} (hc : vwCl[k]? = some (C, T, kN k)) (hk : k < 8) (hok : okP S b k = true) (hn : As.length = n) (hst : (rest.map fun v => v.category).sum ≤ 8) (hdg : decode cc pc = .ok (.invokevirtual index, 3)) {cells' slots' : Nat} (h1c : cells + rm'.cells = cells') (h1s : slots + rm'.slots = slots') (hcs : cells' ≤ rm.cells ∧ slots' ≤ rm.slots)
    (kk : JW X cells' slots' w1 (pc + 3) lv (.int r :: rest)) : JW X cells slots (pW cI cO S) pc lv (As.reverse ++ .ref b :: rest) := by
  subst h1c h1s
  obtain ⟨hL, hKb⟩ := okP_in hok
  obtain ⟨j, hj⟩ := pW_at (cI := cI) (cO := cO) hL
  refine jw_xcallV hX hG hGX n hC hgood hw hd hR j k (hj.trans (by rw [PF_ob hKb hk])) hc hn hst hdg hcs (fun _ _ _ _ _ _ _ h9 => h9.elim) ?_
  rintro ov w' ⟨rfl, rfl⟩
  exact kk
theorem jw_pVXv {X : JX} {cells slots : Nat} {S : PS} {cI cO : ClassId} {pc : Nat} {lv : List (Nat × Value)} {rest : List Value} {cc : ByteArray} {nL : Nat} {Ts : List Cond} {own : String} {rm : Room} (hX : jOK X cc nL Ts own rm) {G : JG} (hG : jGok G) (hGX : jG X G) {y : MethodName} {ws ws' : List Cond} {rm' : Room} {C : String} {index maxL b : Nat} {bytes : ByteArray} {ret : Option FieldType} {As : List Value} {w1 : va_W} (n : Nat) (hC : CX (jL X) G (jD X) (jT X) y ws rm' (.ref b :: As) (pW cI cO S) (fun ov w2 => ov = none ∧ w2 = w1) (fun _ _ => False)) (hgood : GoodIn Ts (wsV own index C y ws)) (hw : ws = Cond.code y bytes maxL ret :: ws')
    (hd : y.cls = C ∧ y.cls ≠ "java/lang/invoke/MethodHandle" ∧ y.cls ≠ "java/lang/invoke/VarHandle" ∧ (parseMethodDescriptor y.desc).map (fun d => d.parameters.length) = some n) (hR : rm'.frames + 1 ≤ rm.frames ∧ 8 + (maxL + 11) + rm'.locals ≤ rm.locals)
    (k : Nat) {T : u_T} (hc : vwCl[k]? = some (C, T, kN k)) (hk : k < 8) (hok : okP S b k = true) (hn : As.length = n) (hst : (rest.map fun v => v.category).sum ≤ 8) (hdg : decode cc pc = .ok (.invokevirtual index, 3)) {cells' slots' : Nat} (h1c : cells + rm'.cells = cells') (h1s : slots + rm'.slots = slots') (hcs : cells' ≤ rm.cells ∧ slots' ≤ rm.slots)
    (kk : JW X cells' slots' w1 (pc + 3) lv rest) : JW X cells slots (pW cI cO S) pc lv (As.reverse ++ .ref b :: rest) := by
  subst h1c h1s
  obtain ⟨hL, hKb⟩ := okP_in hok
  obtain ⟨j, hj⟩ := pW_at (cI := cI) (cO := cO) hL
  refine jw_xcallV hX hG hGX n hC hgood hw hd hR j k (hj.trans (by rw [PF_ob hKb hk])) hc hn hst hdg hcs (fun _ _ _ _ _ _ _ h9 => h9.elim) ?_
  rintro ov w' ⟨rfl, rfl⟩
  exact kk
theorem jw_pVXr {X : JX} {cells slots : Nat} {S : PS} {cI cO : ClassId} {pc : Nat} {lv : List (Nat × Value)} {rest : List Value} {cc : ByteArray} {nL : Nat} {Ts : List Cond} {own : String} {rm : Room} (hX : jOK X cc nL Ts own rm) {G : JG} (hG : jGok G) (hGX : jG X G) {y : MethodName} {ws ws' : List Cond} {rm' : Room} {C : String} {index maxL b : Nat} {bytes : ByteArray} {ret : Option FieldType} {As : List Value} {w1 : va_W} {r : Nat} (n : Nat) (hC : CX (jL X) G (jD X) (jT X) y ws rm' (.ref b :: As) (pW cI cO S) (fun ov w2 => ov = some (.ref r) ∧ w2 = w1) (fun _ _ => False)) (hgood : GoodIn Ts (wsV own index C y ws)) (hw : ws = Cond.code y bytes maxL ret :: ws')
    (hd : y.cls = C ∧ y.cls ≠ "java/lang/invoke/MethodHandle" ∧ y.cls ≠ "java/lang/invoke/VarHandle" ∧ (parseMethodDescriptor y.desc).map (fun d => d.parameters.length) = some n) (hR : rm'.frames + 1 ≤ rm.frames ∧ 8 + (maxL + 11) + rm'.locals ≤ rm.locals)
    (k : Nat) {T : u_T} (hc : vwCl[k]? = some (C, T, kN k)) (hk : k < 8) (hok : okP S b k = true) (hn : As.length = n) (hst : (rest.map fun v => v.category).sum ≤ 8) (hdg : decode cc pc = .ok (.invokevirtual index, 3)) {cells' slots' : Nat} (h1c : cells + rm'.cells = cells') (h1s : slots + rm'.slots = slots') (hcs : cells' ≤ rm.cells ∧ slots' ≤ rm.slots)
    (kk : JW X cells' slots' w1 (pc + 3) lv (.ref r :: rest)) : JW X cells slots (pW cI cO S) pc lv (As.reverse ++ .ref b :: rest) := by
  subst h1c h1s
  obtain ⟨hL, hKb⟩ := okP_in hok
  obtain ⟨j, hj⟩ := pW_at (cI := cI) (cO := cO) hL
  refine jw_xcallV hX hG hGX n hC hgood hw hd hR j k (hj.trans (by rw [PF_ob hKb hk])) hc hn hst hdg hcs (fun _ _ _ _ _ _ _ h9 => h9.elim) ?_
  rintro ov w' ⟨rfl, rfl⟩
  exact kk
theorem jw_pVx {X : JX} {cells slots : Nat} {S : PS} {cI cO : ClassId} {pc : Nat} {lv : List (Nat × Value)} {rest : List Value} {cc : ByteArray} {nL : Nat} {Ts : List Cond} {own : String} {rm : Room} (hX : jOK X cc nL Ts own rm) {G : JG} (hG : jGok G) (hGX : jG X G) {w0 : va_W} {post : Option Value → va_W → Prop} {px : String → va_W → Prop} (hQ : jXQ X w0 rm post px) {y : MethodName} {ws ws' : List Cond} {rm' : Room} {C : String} {index maxL b : Nat} {bytes : ByteArray} {ret : Option FieldType} {As : List Value} {w1 : va_W} {E : String} (n : Nat) (hC : CX (jL X) G (jD X) (jT X) y ws rm' (.ref b :: As) (pW cI cO S) (fun _ _ => False) (fun E2 w2 => E2 = E ∧ w2 = w1)) (hgood : GoodIn Ts (wsV own index C y ws)) (hw : ws = Cond.code y bytes maxL ret :: ws')
    (hd : y.cls = C ∧ y.cls ≠ "java/lang/invoke/MethodHandle" ∧ y.cls ≠ "java/lang/invoke/VarHandle" ∧ (parseMethodDescriptor y.desc).map (fun d => d.parameters.length) = some n) (hR : rm'.frames + 1 ≤ rm.frames ∧ 8 + (maxL + 11) + rm'.locals ≤ rm.locals)
    (k : Nat) {T : u_T} (hc : vwCl[k]? = some (C, T, kN k)) (hk : k < 8) (hok : okP S b k = true) (hn : As.length = n) (hst : (rest.map fun v => v.category).sum ≤ 8) (hdg : decode cc pc = .ok (.invokevirtual index, 3)) (hcs : cells + rm'.cells ≤ rm.cells ∧ slots + rm'.slots ≤ rm.slots) (hpx : px E w1) : JW X cells slots (pW cI cO S) pc lv (As.reverse ++ .ref b :: rest) := by
  obtain ⟨hL, hKb⟩ := okP_in hok
  obtain ⟨j, hj⟩ := pW_at (cI := cI) (cO := cO) hL
  refine jw_xcallV hX hG hGX n hC hgood hw hd hR j k (hj.trans (by rw [PF_ob hKb hk])) hc hn hst hdg hcs ?_ (fun _ _ h9 => h9.elim)
  rintro E2 ce q9 w' H1 locs1 ls ⟨rfl, rfl⟩ hAt hce
  exact jw_prop hX hQ hAt hce hpx hcs
theorem jw_cSXi {X : JX} {cells slots : Nat} {w : va_W} {pc : Nat} {lv : List (Nat × Value)} {rest : List Value} {cc : ByteArray} {nL : Nat} {Ts : List Cond} {own : String} {rm : Room} (hX : jOK X cc nL Ts own rm) {G : JG} (hG : jGok G) (hGX : jG X G) {y : MethodName} {ws ws' : List Cond} {rm' : Room} {index maxL : Nat} {bytes : ByteArray} {ret : Option FieldType} {As : List Value} {w1 : va_W} {r : Int32} (n : Nat) (hC : CX (jL X) G (jD X) (jT X) y ws rm' As w (fun ov w2 => ov = some (.int r) ∧ w2 = w1) (fun _ _ => False)) (hgood : GoodIn Ts (va_wsS own index y ws)) (hw : ws = Cond.code y bytes maxL ret :: ws')
    (hd : y.cls ≠ "java/lang/invoke/MethodHandle" ∧ y.cls ≠ "java/lang/invoke/VarHandle" ∧ (parseMethodDescriptor y.desc).map (fun d => d.parameters.length) = some n) (hR : rm'.frames + 1 ≤ rm.frames ∧ 8 + (maxL + 11) + rm'.locals ≤ rm.locals)
    (hn : As.length = n) (hst : (rest.map fun v => v.category).sum ≤ 8) (hdg : decode cc pc = .ok (.invokestatic index, 3)) {cells' slots' : Nat} (h1c : cells + rm'.cells = cells') (h1s : slots + rm'.slots = slots') (hcs : cells' ≤ rm.cells ∧ slots' ≤ rm.slots)
    (kk : JW X cells' slots' w1 (pc + 3) lv (.int r :: rest)) : JW X cells slots w pc lv (As.reverse ++ rest) := by
  subst h1c h1s
  refine jw_xcallS hX hG hGX n hC hgood hw hd hR hn hst hdg hcs (fun _ _ _ _ _ _ _ h9 => h9.elim) ?_
  rintro ov w' ⟨rfl, rfl⟩
  exact kk
theorem jw_cSXv {X : JX} {cells slots : Nat} {w : va_W} {pc : Nat} {lv : List (Nat × Value)} {rest : List Value} {cc : ByteArray} {nL : Nat} {Ts : List Cond} {own : String} {rm : Room} (hX : jOK X cc nL Ts own rm) {G : JG} (hG : jGok G) (hGX : jG X G) {y : MethodName} {ws ws' : List Cond} {rm' : Room} {index maxL : Nat} {bytes : ByteArray} {ret : Option FieldType} {As : List Value} {w1 : va_W} (n : Nat) (hC : CX (jL X) G (jD X) (jT X) y ws rm' As w (fun ov w2 => ov = none ∧ w2 = w1) (fun _ _ => False)) (hgood : GoodIn Ts (va_wsS own index y ws)) (hw : ws = Cond.code y bytes maxL ret :: ws')
    (hd : y.cls ≠ "java/lang/invoke/MethodHandle" ∧ y.cls ≠ "java/lang/invoke/VarHandle" ∧ (parseMethodDescriptor y.desc).map (fun d => d.parameters.length) = some n) (hR : rm'.frames + 1 ≤ rm.frames ∧ 8 + (maxL + 11) + rm'.locals ≤ rm.locals)
    (hn : As.length = n) (hst : (rest.map fun v => v.category).sum ≤ 8) (hdg : decode cc pc = .ok (.invokestatic index, 3)) {cells' slots' : Nat} (h1c : cells + rm'.cells = cells') (h1s : slots + rm'.slots = slots') (hcs : cells' ≤ rm.cells ∧ slots' ≤ rm.slots)
    (kk : JW X cells' slots' w1 (pc + 3) lv rest) : JW X cells slots w pc lv (As.reverse ++ rest) := by
  subst h1c h1s
  refine jw_xcallS hX hG hGX n hC hgood hw hd hR hn hst hdg hcs (fun _ _ _ _ _ _ _ h9 => h9.elim) ?_
  rintro ov w' ⟨rfl, rfl⟩
  exact kk
theorem jw_cSXr {X : JX} {cells slots : Nat} {w : va_W} {pc : Nat} {lv : List (Nat × Value)} {rest : List Value} {cc : ByteArray} {nL : Nat} {Ts : List Cond} {own : String} {rm : Room} (hX : jOK X cc nL Ts own rm) {G : JG} (hG : jGok G) (hGX : jG X G) {y : MethodName} {ws ws' : List Cond} {rm' : Room} {index maxL : Nat} {bytes : ByteArray} {ret : Option FieldType} {As : List Value} {w1 : va_W} {r : Nat} (n : Nat) (hC : CX (jL X) G (jD X) (jT X) y ws rm' As w (fun ov w2 => ov = some (.ref r) ∧ w2 = w1) (fun _ _ => False)) (hgood : GoodIn Ts (va_wsS own index y ws)) (hw : ws = Cond.code y bytes maxL ret :: ws')
    (hd : y.cls ≠ "java/lang/invoke/MethodHandle" ∧ y.cls ≠ "java/lang/invoke/VarHandle" ∧ (parseMethodDescriptor y.desc).map (fun d => d.parameters.length) = some n) (hR : rm'.frames + 1 ≤ rm.frames ∧ 8 + (maxL + 11) + rm'.locals ≤ rm.locals)
    (hn : As.length = n) (hst : (rest.map fun v => v.category).sum ≤ 8) (hdg : decode cc pc = .ok (.invokestatic index, 3)) {cells' slots' : Nat} (h1c : cells + rm'.cells = cells') (h1s : slots + rm'.slots = slots') (hcs : cells' ≤ rm.cells ∧ slots' ≤ rm.slots)
    (kk : JW X cells' slots' w1 (pc + 3) lv (.ref r :: rest)) : JW X cells slots w pc lv (As.reverse ++ rest) := by
  subst h1c h1s
  refine jw_xcallS hX hG hGX n hC hgood hw hd hR hn hst hdg hcs (fun _ _ _ _ _ _ _ h9 => h9.elim) ?_
  rintro ov w' ⟨rfl, rfl⟩
  exact kk
theorem jw_cSx {X : JX} {cells slots : Nat} {w : va_W} {pc : Nat} {lv : List (Nat × Value)} {rest : List Value} {cc : ByteArray} {nL : Nat} {Ts : List Cond} {own : String} {rm : Room} (hX : jOK X cc nL Ts own rm) {G : JG} (hG : jGok G) (hGX : jG X G) {w0 : va_W} {post : Option Value → va_W → Prop} {px : String → va_W → Prop} (hQ : jXQ X w0 rm post px) {y : MethodName} {ws ws' : List Cond} {rm' : Room} {index maxL : Nat} {bytes : ByteArray} {ret : Option FieldType} {As : List Value} {w1 : va_W} {E : String} (n : Nat) (hC : CX (jL X) G (jD X) (jT X) y ws rm' As w (fun _ _ => False) (fun E2 w2 => E2 = E ∧ w2 = w1)) (hgood : GoodIn Ts (va_wsS own index y ws)) (hw : ws = Cond.code y bytes maxL ret :: ws')
    (hd : y.cls ≠ "java/lang/invoke/MethodHandle" ∧ y.cls ≠ "java/lang/invoke/VarHandle" ∧ (parseMethodDescriptor y.desc).map (fun d => d.parameters.length) = some n) (hR : rm'.frames + 1 ≤ rm.frames ∧ 8 + (maxL + 11) + rm'.locals ≤ rm.locals)
    (hn : As.length = n) (hst : (rest.map fun v => v.category).sum ≤ 8) (hdg : decode cc pc = .ok (.invokestatic index, 3)) (hcs : cells + rm'.cells ≤ rm.cells ∧ slots + rm'.slots ≤ rm.slots) (hpx : px E w1) : JW X cells slots w pc lv (As.reverse ++ rest) := by
  refine jw_xcallS hX hG hGX n hC hgood hw hd hR hn hst hdg hcs ?_ (fun _ _ h9 => h9.elim)
  rintro E2 ce q9 w' H1 locs1 ls ⟨rfl, rfl⟩ hAt hce
  exact jw_prop hX hQ hAt hce hpx hcs
