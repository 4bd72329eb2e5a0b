/-! the judgement of a walk: at a program counter, with known locals and stack, where the world w lies in the heap -/
abbrev JX : Type := Program × Launch × Env × Room × State × MethodId × Array Value × List Frame × Method × Code × va_G × (Nat → Prop) × Nat × (State → Prop) × List (ClassId × FieldType)
def JW (X : JX) (cells slots : Nat) (w : va_W) (pc : Nat) (lv : List (Nat × Value)) (st : List Value) : Prop :=
  match X with
  | (p, l, e, R, s, m, args, below, meth, c, D, A, nL, Q, _) => ∀ (H : Heap) (locs : List Loc) (ls : Array Slot), va_P D vwCl w H → va_D A w → va_S A s.heap H locs → lv_has ls nL lv → W p l e R s m args below meth c H locs cells slots Q (F0 m pc ls st)
/-- what stays fixed in a walk -/
def jOK (X : JX) (cc : ByteArray) (n : Nat) (Ts : List Cond) (own : String) (rm : Room) : Prop :=
  match X with
  | (p, _, _, R, s, m, args, _, meth, c, D, A, nL, _, tys) => CallFix p m c cc n s args Ts own ∧ nL = n ∧ va_K D vwCl tys s ∧ (∀ q, s.heap.size ≤ q → A q) ∧ meth.locks = false ∧ R = rm
def jD (X : JX) : va_G := match X with
  | (_, _, _, _, _, _, _, _, _, _, D, _, _, _, _) => D
def jL (X : JX) : Launch := match X with
  | (_, l, _, _, _, _, _, _, _, _, _, _, _, _, _) => l
def jT (X : JX) : List (ClassId × FieldType) := match X with
  | (_, _, _, _, _, _, _, _, _, _, _, _, _, _, tys) => tys
/-- premises of the start (statics, texts) that a walk carries along -/
abbrev JG : Type := (Nat → Prop) → State → Heap → Prop
def jGok (G : JG) : Prop := (∀ (A : Nat → Prop) (u U : State) (H : Heap), u.WarmedH U.vm → G A u H → G A U H) ∧ (∀ (A : Nat → Prop) (U : State) (H H1 : Heap), (∀ a : Nat, a < H.size → ¬ A a → H1[a]? = H[a]?) → G A U H → G A U H1) ∧ (∀ (A B : Nat → Prop) (U : State) (H : Heap), (∀ q, B q → A q) → G A U H → G B U H)
def jG (X : JX) (G : JG) : Prop := match X with
  | (_, _, _, _, s, _, _, _, _, _, _, A, _, _, _) => G A s s.heap
def jG0 : JG := fun _ _ _ => True
theorem jG0_ok : jGok jG0 := ⟨fun _ _ _ _ _ _ => trivial, fun _ _ _ _ _ _ => trivial, fun _ _ _ _ _ _ => trivial⟩
def jPc (D : va_G) (tys : List (ClassId × FieldType)) (G : JG) (av : List Value) (w : va_W) (sz : Nat) : Array Value → State → Prop :=
  va_Pc av (fun U => U.heap.size = sz ∧ va_P D vwCl w U.heap ∧ va_K D vwCl tys U ∧ va_D (fun _ => True) w ∧ G (va_A w sz) U U.heap)
def jQc (D : va_G) (tys : List (ClassId × FieldType)) (w : va_W) (sz : Nat) (post : Option Value → va_W → Prop) : Array Value → State → Outcome → State → Prop :=
  fun _ st oc t => (∃ (ov : Option Value) (w' : va_W), oc = .returned ov ∧ post ov w' ∧ va_P D vwCl w' t.heap ∧ va_K D vwCl tys t ∧ va_D (va_A w sz) w') ∧ va_F (va_A w sz) st t
/-- a contract: from the world w with the arguments av it returns, with an answer and a world that post tells -/
def CC (l : Launch) (G : JG) (D : va_G) (tys : List (ClassId × FieldType)) (y : MethodName) (ws : List Cond) (rm : Room) (av : List Value) (w : va_W) (post : Option Value → va_W → Prop) : Prop :=
  ∀ sz : Nat, Met l y ws rm (jPc D tys G av w sz) (jQc D tys w sz post) rm.cells rm.slots (va_A w sz)
theorem jPc_blind {D : va_G} {tys : List (ClassId × FieldType)} {G : JG} (hG : jGok G) {av : List Value} {w : va_W} {sz : Nat} : FrameBlind (jPc D tys G av w sz) := by
  intro a U g mk h
  obtain ⟨h0, h1, h2, h3, h4, h5⟩ := h
  exact ⟨h0, h1, h2, va_K.moved (u := U) (U := U.calling g mk a) (Vm.Alike.refl U.vm) h3, h4, hG.1 _ U (U.calling g mk a) _ (State.WarmedH.refl U) h5⟩
theorem CC_of {l : Launch} {G : JG} {D : va_G} {tys : List (ClassId × FieldType)} {y : MethodName} {ws ws' : List Cond} {rm : Room} {av : List Value} {w : va_W} {post : Option Value → va_W → Prop} {cc : ByteArray} {maxL : Nat} {ret : Option FieldType}
    (hy : plainName y.cls = true) (hw : ws = Cond.code y cc maxL ret :: ws') (hn : (lg_sl av).length ≤ maxL)
    (body : ∀ X : JX, jD X = D → jL X = l → jT X = tys → jG X G → jOK X cc maxL ws y.cls rm →
      (∀ (cells slots : Nat) (w' : va_W) (pc : Nat) (lv : List (Nat × Value)) (v : Int32), ret = some .int → cells ≤ rm.cells → slots ≤ rm.slots → decode cc pc = .ok (.ireturn, 1) → post (some (.int v)) w' → JW X cells slots w' pc lv [.int v]) →
      (∀ (cells slots : Nat) (w' : va_W) (pc : Nat) (lv : List (Nat × Value)) (v : Int32), ret = some .boolean → (v = 0 ∨ v = 1) → cells ≤ rm.cells → slots ≤ rm.slots → decode cc pc = .ok (.ireturn, 1) → post (some (.int v)) w' → JW X cells slots w' pc lv [.int v]) →
      (∀ (cells slots : Nat) (w' : va_W) (pc : Nat) (lv : List (Nat × Value)), ret = none → cells ≤ rm.cells → slots ≤ rm.slots → decode cc pc = .ok (.return_, 1) → post none w' → JW X cells slots w' pc lv []) →
      (∀ (cells slots : Nat) (w' : va_W) (pc : Nat) (lv : List (Nat × Value)) (a : Nat), ((∃ n, ret = some (.object n)) ∨ ∃ t, ret = some (.array t)) → cells ≤ rm.cells → slots ≤ rm.slots → decode cc pc = .ok (.areturn, 1) → post (some (.ref a)) w' → JW X cells slots w' pc lv [.ref a]) →
      JW X 0 0 w 0 (lv_args 0 av) []) : CC l G D tys y ws rm av w post := by
  intro sz
  refine Met.ofW (cc := cc) (maxL := maxL) (ret := ret) hy hw ?_
  intro p e s m args below meth c s₁ B hml hv
  obtain ⟨rfl, hsz, hP, hK, hD0, hGG⟩ := hv
  have hx := B.exec
  have hb := B.bytes
  have hr := B.returns
  have hts := atoms_spec (ws := ws) B.pre
  have hown : s.vm.findClass y.cls = some m.cls := findClass_of_methodNamed B.named
  have hlocks := B.notSynchronized
  subst hsz
  have hD := hD0.self (sz := s.heap.size)
  have hA : ∀ q : Nat, s.heap.size ≤ q → va_A w s.heap.size q := fun q h => Or.inr h
  rw [lg_entry_eq]
  refine body (p, l, e, (headSpec ws rm).room, s, m, av.toArray, below, meth, c, D, va_A w s.heap.size, maxL, MQ below (jQc D tys w s.heap.size post) av.toArray s rm.cells rm.slots (va_A w s.heap.size), tys) rfl rfl rfl hGG ⟨⟨hx, hb, hml, hown, hts⟩, rfl, hK, hA, hlocks, rfl⟩ ?_ ?_ ?_ ?_ s.heap [] _ hP hD va_S.rf (lv_entry av hn)
  · intro cells slots w' pc lv v hret hc hs hdg hpost H locs ls hP hD hS hl
    refine W.widen hc hs ?_
    exact W.iret hx hb (hr.trans hret) (fun t ht hW => ⟨⟨_, w', rfl, hpost, by rw [ht]; exact hP, va_K.moved hW.alike hK, hD⟩, hS.F ht⟩) hS.2.2 hdg
  · intro cells slots w' pc lv v hret hv01 hc hs hdg hpost H locs ls hP hD hS hl
    refine W.widen hc hs ?_
    exact W.zret hx hb (hr.trans hret) (by rcases hv01 with rfl | rfl <;> decide) (fun t ht hW => ⟨⟨_, w', rfl, hpost, by rw [ht]; exact hP, va_K.moved hW.alike hK, hD⟩, hS.F ht⟩) hS.2.2 hdg
  · intro cells slots w' pc lv hret hc hs hdg hpost H locs ls hP hD hS hl
    refine W.widen hc hs ?_
    exact W.vret hx hb (hr.trans hret) (fun t ht hW => ⟨⟨_, w', rfl, hpost, by rw [ht]; exact hP, va_K.moved hW.alike hK, hD⟩, hS.F ht⟩) hS.2.2 hdg
  · intro cells slots w' pc lv a hret hc hs hdg hpost H locs ls hP hD hS hl
    refine W.widen hc hs ?_
    rcases hret with ⟨n, hret⟩ | ⟨t9, hret⟩
    · exact W.aret hx hb (hr.trans hret) (Or.inl ⟨n, rfl⟩) (Or.inr ⟨a, rfl⟩) (fun t ht hW => ⟨⟨_, w', rfl, hpost, by rw [ht]; exact hP, va_K.moved hW.alike hK, hD⟩, hS.F ht⟩) hS.2.2 hdg
    · exact W.aret hx hb (hr.trans hret) (Or.inr ⟨t9, rfl⟩) (Or.inr ⟨a, rfl⟩) (fun t ht hW => ⟨⟨_, w', rfl, hpost, by rw [ht]; exact hP, va_K.moved hW.alike hK, hD⟩, hS.F ht⟩) hS.2.2 hdg
