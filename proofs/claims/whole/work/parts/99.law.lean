/-! the law whole: what holds at its entry, its start, its loop, its end -/
theorem tr_off {l : Launch} (h : l.flags = flags0) : l.stackTraces = false := by
  unfold Launch.stackTraces
  rw [h]
  decide +kernel
theorem li_gNf : ∀ w ∈ gNf, w ∈ lw_tbl := by decide +kernel
theorem li_gNm : ∀ w ∈ gNm, w ∈ lw_tbl := by decide +kernel
theorem li_gNc : ∀ w ∈ gNc.drop 3, w ∈ lw_tbl := by decide +kernel
theorem ca_self {s : State} {b : Nat} {C : String} {n : Nat} (h : (Cond.instantiable C n).before #[Value.ref b] s = true) : va_Nw (.castable C C) s := by
  obtain ⟨cC, hc⟩ := classAt_of h
  unfold va_Nw
  simp [Cond.before, Cond.holds, Cond.value, hc.1, va_assign hc]
theorem li_n1 : Cond.instantiable RX0 4 ∈ lw_tbl := by decide +kernel
theorem li_n2 : Cond.instantiable RX1 6 ∈ lw_tbl := by decide +kernel
theorem li_n4 : Cond.instantiable RX3 5 ∈ lw_tbl := by decide +kernel
theorem nc_start {s : State} {b : Nat} (hts : ∀ w ∈ lw_tbl, w.before #[Value.ref b] s = true) (on : ∀ w ∈ gNc, w.onTables = true) : ∀ w ∈ gNc, va_Nw w s := by
  intro w hw
  have ho := on w hw
  rcases List.mem_cons.mp hw with rfl | hw
  · exact ca_self (hts _ li_n2)
  · rcases List.mem_cons.mp hw with rfl | hw
    · exact ca_self (hts _ li_n4)
    · rcases List.mem_cons.mp hw with rfl | hw
      · exact ca_self (hts _ li_n1)
      · exact va_Nw.of ho (hts w (li_gNc w hw))
theorem li_gNd : ∀ w ∈ gNd, w ∈ lw_tbl := by decide +kernel
theorem li_gNo : ∀ w ∈ gNf ++ gNm ++ gNc ++ gNd, w.onTables = true := by decide +kernel
theorem li_gStr : ∀ q ∈ gStr, Cond.stringRef "Postlint" q.1 q.2 ∈ lw_tbl := by decide +kernel
theorem li_st1 : Cond.laysStatic Bundle.tN "UNASSIGNED_STACK" Bundle.steD ∈ lw_tbl := by decide +kernel
theorem li_st2 : Cond.laysStatic Bundle.tN "SUPPRESSED_SENTINEL" Bundle.listD ∈ lw_tbl := by decide +kernel
theorem li_st3 : Cond.laysStatic "java/util/ArrayList" "DEFAULTCAPACITY_EMPTY_ELEMENTDATA" "[Ljava/lang/Object;" ∈ lw_tbl := by decide +kernel
theorem li_in1 : Cond.initialized Bundle.tN ∈ lw_tbl := by decide +kernel
theorem li_in3 : Cond.initialized "java/util/ArrayList" ∈ lw_tbl := by decide +kernel
theorem li_ao : Cond.arrayOver (.object "java/lang/Object") ∈ lw_tbl := by decide +kernel
theorem li_dc : Cond.declares ⟨"java/lang/Object", "getClass", "()Ljava/lang/Class;"⟩ ∈ lw_tbl := by decide +kernel
theorem lf_r1 : Cond.isRef (.static Bundle.tN "UNASSIGNED_STACK" Bundle.steD) ∈ flatC (Jvm.Cond.and given_1 narrow_1) := by decide +kernel
theorem lf_r2 : Cond.isRef (.static Bundle.tN "SUPPRESSED_SENTINEL" Bundle.listD) ∈ flatC (Jvm.Cond.and given_1 narrow_1) := by decide +kernel
theorem lf_a : Cond.arrayOf (.static "java/util/ArrayList" "DEFAULTCAPACITY_EMPTY_ELEMENTDATA" "[Ljava/lang/Object;") (.object "java/lang/Object") ∈ flatC (Jvm.Cond.and given_1 narrow_1) := by decide +kernel
theorem lf_l : Cond.eq (.length (.static "java/util/ArrayList" "DEFAULTCAPACITY_EMPTY_ELEMENTDATA" "[Ljava/lang/Object;")) (.int 0) ∈ flatC (Jvm.Cond.and given_1 narrow_1) := by decide +kernel
theorem lf_m : Cond.isRef (.mirror "[Ljava/lang/Object;") ∈ flatC (Jvm.Cond.and given_1 narrow_1) := by decide +kernel
theorem lf_c : ∀ q ∈ gX3, Cond.not (.castable q.1 q.2) ∈ flatC (Jvm.Cond.and given_1 narrow_1) := by decide +kernel
theorem gl_start {s : State} {b : Nat} (hts : ∀ w ∈ lw_tbl, w.before #[Value.ref b] s = true) (hgv : (Jvm.Cond.and given_1 narrow_1).before #[Value.ref b] s = true) : ∃ gs : JP, GL gs (fun q : Nat => s.heap.size ≤ q) s s.heap := by
  have hs := flat_of_before _ hgv
  have hA : ∀ a : Nat, a < s.heap.size → ¬ (fun q : Nat => s.heap.size ≤ q) a := fun a h => Nat.not_le.mpr h
  have hlen := va_eqt (hs _ lf_l)
  obtain ⟨t, ht, hT⟩ := va_Tof (N := 0) (f := fun _ => .null) (A := fun q : Nat => s.heap.size ≤ q) (by decide) (hs _ lf_a) hlen (fun j hj => absurd hj (Nat.not_lt_zero _)) hA
  obtain ⟨mi, hmi⟩ := va_Mi.of (hs _ lf_m)
  have on : ∀ w, w ∈ gNf ∨ w ∈ gNm ∨ w ∈ gNc ∨ w ∈ gNd → w.onTables = true := fun w hw => li_gNo w (by
    rcases hw with h | h | h | h
    · exact List.mem_append_left _ (List.mem_append_left _ (List.mem_append_left _ h))
    · exact List.mem_append_left _ (List.mem_append_left _ (List.mem_append_right _ h))
    · exact List.mem_append_left _ (List.mem_append_right _ h)
    · exact List.mem_append_right _ h)
  refine ⟨(fun k => match (Term.string "Postlint" k).eval #[] s none [] s with
    | some (.ref a) => a
    | _ => 0, t, mi), ⟨fun w hw => va_Nw.of (on w (Or.inl hw)) (hts w (li_gNf w hw)), fun w hw => va_Nw.of (on w (Or.inr (Or.inl hw))) (hts w (li_gNm w hw)), nc_start hts (fun w hw => on w (Or.inr (Or.inr (Or.inl hw)))), fun q hq => ?_, vx_Zqof (hts _ li_st1) (hts _ li_in1) (hs _ lf_r1) hA, vx_Zqof (hts _ li_st2) (hts _ li_in1) (hs _ lf_r2) hA, va_Zref (hts _ li_st3) (hts _ li_in3) ht hA, hT, va_AO.of (hts _ li_ao), hmi, va_Dc.of (hts _ li_dc), fun w hw => va_Nw.of (on w (Or.inr (Or.inr (Or.inr hw)))) (hts w (li_gNd w hw))⟩, fun q hq => va_Nc.of (hs _ (lf_c q hq))⟩
  have h1 : (Cond.stringRef "Postlint" q.1 q.2).holds #[] s none s [] = true := hts _ (li_gStr q hq)
  have hcur : ∃ cur, s.vm.findClass "Postlint" = some cur := by
    have h2 := h1
    simp only [Cond.holds, Cond.value] at h2
    cases hc : s.vm.findClass "Postlint" with
    | none => simp [hc] at h2
    | some cur => exact ⟨cur, rfl⟩
  obtain ⟨cur, hcur⟩ := hcur
  obtain ⟨k, cf, i, a, -, -, -, -, -, h6⟩ := Cond.stringRef_spec hcur h1
  refine ⟨h1, ?_⟩
  show (Term.string "Postlint" q.1).eval #[] s none [] s = some (.ref (match (Term.string "Postlint" q.1).eval #[] s none [] s with
    | some (.ref a) => a
    | _ => 0))
  first
    | (rw [h6]; done)
    | simp only [h6]
theorem ka_start {s : State} {b : Nat} {ty : FieldType} (h : (Cond.arrayClass ty).holds #[Value.ref b] s none s [] = true) : ∃ cA : ClassId, ArrOfT s cA ty ∧ s.vm.findClass ("[" ++ ty.toString) = some cA := by
  obtain ⟨c, k, comp, h1, h2, h3⟩ := Cond.arrayClass_spec h
  exact ⟨c, fun n z => ⟨(fun k h => by cases h), k, h2, comp, h3⟩, h1⟩
theorem li_aI : Cond.arrayClass .int ∈ lw_tbl := by decide +kernel
theorem li_aZ : Cond.arrayClass .boolean ∈ lw_tbl := by decide +kernel
theorem li_aJ : Cond.arrayClass .long ∈ lw_tbl := by decide +kernel
theorem li_n0 : Cond.instantiable RJx4a65c 3 ∈ lw_tbl := by decide +kernel
theorem li_n3 : Cond.instantiable RX2 2 ∈ lw_tbl := by decide +kernel
theorem li_n5 : Cond.instantiable RX4 2 ∈ lw_tbl := by decide +kernel
theorem li_n6 : Cond.instantiable RX6 6 ∈ lw_tbl := by decide +kernel
theorem li_n7 : Cond.instantiable RX7 47 ∈ lw_tbl := by decide +kernel
theorem vk_start {s : State} {b : Nat} (hts : ∀ w ∈ lw_tbl, w.before #[Value.ref b] s = true) : ∃ (D : va_G) (cI cZ cO cJ : ClassId), va_K D vwCl (jTy cI cZ cO cJ) s := by
  obtain ⟨c0, i0, k0⟩ := u_known (C := RJx4a65c) (T := TJx4a65c) (N := 3) (n := 3) hts lwi_wsJx4a65c0 (hts _ li_n0)
  obtain ⟨c1, i1, k1⟩ := u_known (C := RX0) (T := TX0) (N := 4) (n := 4) hts lwi_wsX00 (hts _ li_n1)
  obtain ⟨c2, i2, k2⟩ := u_known (C := RX1) (T := TX1) (N := 6) (n := 6) hts lwi_wsX10 (hts _ li_n2)
  obtain ⟨c3, i3, k3⟩ := u_known (C := RX2) (T := TX2) (N := 2) (n := 2) hts lwi_wsX20 (hts _ li_n3)
  obtain ⟨c4, i4, k4⟩ := u_known (C := RX3) (T := TX3) (N := 5) (n := 5) hts lwi_wsX30 (hts _ li_n4)
  obtain ⟨c5, i5, k5⟩ := u_known (C := RX4) (T := TX4) (N := 2) (n := 2) hts lwi_wsX40 (hts _ li_n5)
  obtain ⟨c6, i6, k6⟩ := u_known (C := RX6) (T := TX6) (N := 6) (n := 6) hts lwi_wsX60 (hts _ li_n6)
  obtain ⟨c7, i7, k7⟩ := u_known (C := RX7) (T := TX7) (N := 47) (n := 47) hts lwi_wsX70 (hts _ li_n7)
  obtain ⟨cI, aI, fI⟩ := ka_start (b := b) (hts _ li_aI)
  obtain ⟨cZ, aZ, fZ⟩ := ka_start (b := b) (hts _ li_aZ)
  obtain ⟨cJ, aJ, fJ⟩ := ka_start (b := b) (hts _ li_aJ)
  have ho : (Cond.arrayOver (.object "java/lang/Object")).holds #[Value.ref b] s none s [] = true := hts _ li_ao
  obtain ⟨comp, cO, kO, o1, o2, o3, o4, o5⟩ := Cond.arrayOver_spec ho
  refine ⟨(fun k => match k with | 0 => c0 | 1 => c1 | 2 => c2 | 3 => c3 | 4 => c4 | 5 => c5 | 6 => c6 | _ => c7, fun k => match k with | 0 => i0 | 1 => i1 | 2 => i2 | 3 => i3 | 4 => i4 | 5 => i5 | 6 => i6 | _ => i7), cI, cZ, cO, cJ, ?_, ?_⟩
  · intro k q hq
    match k, hq with
    | 0, hq => cases hq; exact k0
    | 1, hq => cases hq; exact k1
    | 2, hq => cases hq; exact k2
    | 3, hq => cases hq; exact k3
    | 4, hq => cases hq; exact k4
    | 5, hq => cases hq; exact k5
    | 6, hq => cases hq; exact k6
    | 7, hq => cases hq; exact k7
    | k + 8, hq => simp [vwCl] at hq
  · intro k q hq
    match k, hq with
    | 0, hq => cases hq; exact ⟨aI, fI⟩
    | 1, hq => cases hq; exact ⟨aZ, fZ⟩
    | 2, hq => cases hq; exact ⟨fun N z => ⟨(fun k h => by cases h), kO, o3, comp, o4⟩, kO, comp, o3, o4, o1, o5⟩
    | 3, hq => cases hq; exact ⟨aJ, fJ⟩
    | k + 4, hq => simp [jTy] at hq
/-! rows of the start -/
theorem jw_swap {X : JX} {cells slots : Nat} {u v : va_W} {pc : Nat} {lv : List (Nat × Value)} {st : List Value} (kk : JW X cells slots (v ++ u) pc lv st) : JW X cells slots (u ++ v) pc lv st := by
  obtain ⟨p, l, e, R, s, m, args, below, meth, c, D, A, nL9, Q, tys⟩ := X
  intro H locs ls hP hD hS hl
  exact kk H locs ls ((fr_hP hP).app (fr_hP1 hP)) ((fr_hD hD).app (fr_hD1 hD) (fun i j p q h1 h2 h3 => by
    have h4 := hD.1 _ _ p q (fr_nth2 h1) (fr_nth h2) h3
    have h5 := (List.getElem?_eq_some_iff.mp h2).1
    omega)) hS hl
theorem nzero7 : ∀ j, j < 47 → defaultValue (tyX7 j) = vp_V (mPF []) j := by
  have h : ∀ j, j < 47 → (match defaultValue (tyX7 j), vp_V (mPF []) j with
    | .int x, .int y => x == y
    | .null, .null => true
    | _, _ => false) = true := by decide +kernel
  intro j hj
  have h1 := h j hj
  revert h1
  cases defaultValue (tyX7 j) <;> cases vp_V (mPF []) j <;> simp
theorem lj {w : Cond} (h : w ∈ wsL_law0_r1) : w ∈ wsL_law := List.mem_append_left _ (List.mem_append_left _ (List.mem_append_left _ (List.mem_append_left _ (List.mem_append_left _ (List.mem_append_left _ (List.mem_append_left _ (List.mem_append_left _ (List.mem_append_left _ (List.mem_append_left _ (List.mem_append_left _ (List.mem_append_left _ (List.mem_append_left _ h))))))))))))
theorem lj3 {w : Cond} (h : w ∈ wsL_law0_r3) : w ∈ wsL_law := List.mem_append_left _ (List.mem_append_left _ (List.mem_append_left _ (List.mem_append_left _ (List.mem_append_left _ (List.mem_append_left _ (List.mem_append_left _ (List.mem_append_left _ (List.mem_append_left _ (List.mem_append_left _ (List.mem_append_left _ (List.mem_append_left _ (List.mem_append_right _ (List.mem_append_right _ (List.mem_append_left _ h))))))))))))))
theorem lj_c6 : Cond.classLink RL 8 RX6 ∈ wsL_law := lj (by decide +kernel)
theorem lj_n6 : Cond.instantiable RX6 6 ∈ wsL_law := lj (by decide +kernel)
theorem lj_i6 : Cond.initialized RX6 ∈ wsL_law := lj (by decide +kernel)
theorem lj_c7 : Cond.classLink RL 76 RX7 ∈ wsL_law := lj (by decide +kernel)
theorem lj_n7 : Cond.instantiable RX7 47 ∈ wsL_law := lj (by decide +kernel)
theorem lj_i7 : Cond.initialized RX7 ∈ wsL_law := lj (by decide +kernel)
theorem lj_aJ : Cond.arrayClass .long ∈ wsL_law := lj (by decide +kernel)
theorem lj_m6 : Cond.methodLink RL 75 yX6_init ∈ wsL_law := lj (by decide +kernel)
theorem lj_s6 : Cond.instanceMethod yX6_init ∈ wsL_law := lj (by decide +kernel)
theorem lj_m7 : Cond.methodLink RL 78 yX7_init ∈ wsL_law := lj3 (by decide +kernel)
theorem lj_s7 : Cond.instanceMethod yX7_init ∈ wsL_law := lj3 (by decide +kernel)
theorem jw_mnew {X : JX} {cells slots : Nat} {wv : va_W} {cI cZ : ClassId} {pc : Nat} {lv : List (Nat × Value)} {rest : List Value} (hX : jOK X cL_law 7 wsL_law RL room_1) (hcs : cells + 1 ≤ 601024 ∧ slots + 47 ≤ 7293034) (hdg : decode cL_law pc = .ok (.new 76, 3)) (kk : ∀ q : Nat, JW X (cells + 1) (slots + 47) (wv ++ mP q cI cZ []) (pc + 3) lv (.ref q :: rest)) : JW X cells slots wv pc lv rest := by
  obtain ⟨p, l, e, R, s, m, args, below, meth, c, D, A, nL9, Q, tys⟩ := X
  obtain ⟨⟨hx, hb, hml, hown, hts⟩, rfl, hK, hA, hlk, hR⟩ := hX
  subst hR
  intro H locs ls hP hD hS hl
  exact va_new (ci := 7) (fs := mPF []) hx hb hts (fun w h => (ggL_law_X7_init_c3 w h).1) tyX7 tyX7_ok hown (hts _ lj_c7) (hts _ lj_n7) (hts _ lj_i7) hK hP hD hS hA rfl nzero7 hcs.1 hcs.2 hdg (fun q H1 hP1 hD1 hS1 => kk q H1 locs ls hP1 hD1 hS1 hl)
theorem jw_lI {X : JX} {cells slots : Nat} {fr wc : va_W} {pc : Nat} {lv : List (Nat × Value)} {rest : List Value} {cc : ByteArray} {nL : Nat} {Ts : List Cond} {own : String} {rm : Room} (hX : jOK X cc nL Ts own rm) {G : JG} (hG : jGok G) (hGX : jG X G) {y : MethodName} {ws ws' : List Cond} {rm' : Room} {index maxL b : Nat} {bytes : ByteArray} {As : List Value} {post : Option Value → va_W → Prop} (n : Nat) (hC : CC (jL X) G (jD X) (jT X) y ws rm' (.ref b :: As) wc post) (hgood : GoodIn Ts ws) (hw : ws = Cond.code y bytes maxL none :: ws')
    (hlink : Cond.methodLink own index y ∈ Ts) (hini : Cond.initialized y.cls ∈ Ts) (hin : Cond.instanceMethod y ∈ Ts) (hy1 : y.name = "<init>") (hd : y.cls ≠ "java/lang/invoke/MethodHandle" ∧ y.cls ≠ "java/lang/invoke/VarHandle" ∧ (parseMethodDescriptor y.desc).map (fun d => d.parameters.length) = some n) (hR : rm'.frames + 1 ≤ rm.frames ∧ 8 + (maxL + 11) + rm'.locals ≤ rm.locals)
    (hn : As.length = n) (hst : (rest.map fun v => v.category).sum ≤ 8) (hdg : decode cc pc = .ok (.invokespecial index, 3)) (hcs : cells + rm'.cells ≤ rm.cells ∧ slots + rm'.slots ≤ rm.slots)
    (kk : ∀ (ov : Option Value) (w' : va_W), post ov w' → JW X (cells + rm'.cells) (slots + rm'.slots) (fr ++ w') (pc + 3) lv (ov.toList ++ rest)) : JW X cells slots (fr ++ wc) pc lv (As.reverse ++ .ref b :: rest) := by
  obtain ⟨p, l, e, R, s, m, args, below, meth, c, D, A, nL9, Q, tys⟩ := X
  obtain ⟨⟨hx, hb, hml, hown, hts⟩, rfl, hK, hA, hlk, rfl⟩ := hX
  intro H locs ls hP hD hS hl
  have hPp := fr_hP hP
  have hDp := fr_hD hD
  have hF := jw_free hDp hS hA
  exact jw_runG (fun w1 => fr ++ w1) (va_runI (As := As) (rest := rest) ⟨hx, hb, hml, hown, hts⟩ (hC H.size) (cwI n hts hgood hw rfl rfl (hts _ hini) (hts _ hlink) (hts _ hin) hy1 hd hR) ⟨jPc_blind hG, fun U hU hW => ⟨rfl, by rw [hU], by rw [hU]; exact hPp, va_K.moved hW.alike hK, hDp.weaken (fun _ _ _ _ => trivial), jG_at hG hGX hS hF hU hW⟩⟩ rfl hn hl.1 rfl (lv_room hst) (by exact hdg) hcs) hS hF hl (fun w1 H1 h1 h2 h3 => fr_suf hP hD h1 hF h2 h3) kk
theorem jw_lnewJ {X : JX} {cells slots : Nat} {wv : va_W} {cI cZ cO cJ : ClassId} {pc : Nat} {lv : List (Nat × Value)} {rest : List Value} (hX : jOK X cL_law 7 wsL_law RL room_1) (hT : jT X = jTy cI cZ cO cJ) (hcs : cells + 1 ≤ 601024 ∧ slots + 1 ≤ 7293034) (hdg : decode cL_law pc = .ok (.newarray .long, 2)) (kk : ∀ q : Nat, JW X (cells + 1) (slots + 1) (wv ++ [(q, oE cJ (fun _ => 0))]) (pc + 2) lv (.ref q :: rest)) : JW X cells slots wv pc lv (.int 1 :: rest) := by
  obtain ⟨p, l, e, R, s, m, args, below, meth, c, D, A, nL9, Q, tys⟩ := X
  obtain ⟨⟨hx, hb, hml, hown, hts⟩, rfl, hK, hA, hlk, hR⟩ := hX
  obtain rfl : tys = jTy cI cZ cO cJ := hT
  subst hR
  intro H locs ls hP hD hS hl
  refine va_newa (atype := .long) (ty := .long) (a0 := (1, .inr (.inl (fun _ => 0)))) hx hb (hts _ lj_aJ) rfl hK hP hD hS hA (fun cA => rfl) (by decide) (by decide) (by decide) hcs.1 hcs.2 hdg (fun q cA H1 hK1 hP1 hD1 hS1 => ?_)
  have hcA : cA = cJ := by
    have h1 := (hK1.2 4 (cA, .long) rfl).2
    have h2 := (hK1.2 3 (cJ, .long) rfl).2
    exact Option.some.inj (h1.symm.trans h2)
  subst hcA
  exact kk q H1 locs ls hP1 hD1 hS1 hl
/-! the loop -/
def jEnd (X : JX) : Prop := ∀ (cells slots : Nat) (wv : va_W) (lv : List (Nat × Value)), cells ≤ 601024 → slots ≤ 7293034 → JW X cells slots wv 1314 lv [.int 1]
theorem law_next {X : JX} {cells slots : Nat} {wv : va_W} {i b x a o : Nat} (hX : jOK X cL_law 7 wsL_law RL room_1) (kk : JW X cells slots wv 23 (lwL (i + 5) b x a o) []) : JW X cells slots wv 1307 (lwL i b x a o) [] := by
  refine jw_iinc (v := nI (i + 5)) hX (lwL (i + 5) b x a o) dL_law_1307 0 rfl ?_ (by decide) rfl ?_
  · have h5 : Int32.ofInt 5 = nI 5 := by decide
    rw [h5]
    exact (Int32.ofNat_add i 5).symm
  · exact jw_goto (tgt := 23) hX dL_law_1310 (by decide) kk
theorem law_head {X : JX} {cells slots : Nat} {wv : va_W} {i b x a o L : Nat} {xs : Nat → Int32} (hX : jOK X cL_law 7 wsL_law RL room_1) (hB : jScr X b L xs) (hL : L ≤ 2560) (hi : i ≤ 2565) (k1 : i + 5 ≤ L → JW X cells slots wv 32 (lwL i b x a o) []) (k2 : JW X cells slots wv 1313 (lwL i b x a o) []) : JW X cells slots wv 23 (lwL i b x a o) [] := by
  refine jw_iload hX dL_law_23 0 rfl ?_
  refine jw_aload_n hX dL_law_25 rfl 1 rfl ?_
  refine jw_slen hX hB dL_law_26 ?_
  refine jw_iconst (v := (5 : Int32)) hX dL_law_27 (by decide) ?_
  refine jw_isub hX dL_law_28 ?_
  refine jw_icmp_gt (tgt := 1313) hX dL_law_29 (by decide) (fun _ => k2) (fun h => k1 ?_)
  rcases Nat.lt_or_ge L 5 with h5 | h5
  · exfalso
    apply h
    have h0 : nI L - 5 < 0 := by
      match L, h5 with
      | 0, _ => decide
      | 1, _ => decide
      | 2, _ => decide
      | 3, _ => decide
      | 4, _ => decide
      | n + 5, h => omega
    exact Int32.lt_of_lt_of_le h0 (nI_pos' (by omega))
  · obtain ⟨m, rfl⟩ : ∃ m, L = m + 5 := ⟨L - 5, by omega⟩
    have e : nI (m + 5) - 5 = nI m := by
      rw [show nI (m + 5) = nI m + 5 from Int32.ofNat_add m 5]
      exact Int32.add_sub_cancel _ _
    rw [e] at h
    have : i ≤ m := Nat.le_of_not_lt (fun z => h (nI_lt z (by omega)))
    omega
theorem law_case {X : JX} {cells slots : Nat} {cI cZ cO cJ : ClassId} {gs : JP} {S : PS} {w : MW} {i b x a o L : Nat} {ad : Nat → Nat} {xs : Nat → Int32} {f : Nat → Int64} (hX : jOK X cL_law 7 wsL_law RL room_1) (hT : jT X = jTy cI cZ cO cJ) (hl : (jL X).stackTraces = false) (hGX : jG X (GL gs)) (hB : jScr X b L xs) (hi : i + 5 ≤ L) (hL : L ≤ 2560) (hR : REL gs.2.1 x S w) (hc : cells + 10 ≤ 601024) (hs : slots + 1000 ≤ 7293034)
    (kk : ∀ (f1 : Nat → Int64) (S1 : PS) (w1 : MW), REL gs.2.1 x S1 w1 → JW X (cells + 10) (slots + 1000) (mW a ad cI cZ w1 ++ (o, oE cJ f1) :: pW cI cO S1) 1307 (lwL i b x a o) []) : JW X cells slots (mW a ad cI cZ w ++ (o, oE cJ f) :: pW cI cO S) 32 (lwL i b x a o) [] := by
  refine jw_aload_n hX dL_law_32 rfl 1 rfl ?_
  refine jw_iload hX dL_law_33 0 rfl ?_
  refine jw_sld hX hB (inB_in (inB_nI (by omega) (by omega))) dL_law_35 ?_
  refine jw_bipush (v := (31 : Int32)) hX dL_law_36 (by decide) ?_
  refine jw_iand hX dL_law_38 ?_
  generalize xs (nI i).toNatClampNeg &&& 31 = v
  by_cases h : ∃ j, j ≤ 20 ∧ v = nI j
  · obtain ⟨j, hj, hv⟩ := h
    match j, hj, hv with
    | 0, _, hv => exact jw_tableIn (tgt := 136) (off := 97) hX 0 dL_law_39 hv (by decide) (by decide) (by decide) (by decide) (ls_type hX hT hl hGX hB hi hL hR hc hs kk)
    | 1, _, hv => exact jw_tableIn (tgt := 192) (off := 153) hX 1 dL_law_39 hv (by decide) (by decide) (by decide) (by decide) (ls_clear hX hT hl hGX hB hi hL hR hc hs kk)
    | 2, _, hv => exact jw_tableIn (tgt := 205) (off := 166) hX 2 dL_law_39 hv (by decide) (by decide) (by decide) (by decide) (ls_fault hX hT hl hGX hB hi hL hR hc hs kk)
    | 3, _, hv => exact jw_tableIn (tgt := 218) (off := 179) hX 3 dL_law_39 hv (by decide) (by decide) (by decide) (by decide) (ls_post hX hT hl hGX hB hi hL hR hc hs kk)
    | 4, _, hv => exact jw_tableIn (tgt := 262) (off := 223) hX 4 dL_law_39 hv (by decide) (by decide) (by decide) (by decide) (ls_write hX hT hl hGX hB hi hL hR hc hs kk)
    | 5, _, hv => exact jw_tableIn (tgt := 325) (off := 286) hX 5 dL_law_39 hv (by decide) (by decide) (by decide) (by decide) (ls_strike hX hT hl hGX hB hi hL hR hc hs kk)
    | 6, _, hv => exact jw_tableIn (tgt := 381) (off := 342) hX 6 dL_law_39 hv (by decide) (by decide) (by decide) (by decide) (ls_rule hX hT hl hGX hB hi hL hR hc hs kk)
    | 7, _, hv => exact jw_tableIn (tgt := 473) (off := 434) hX 7 dL_law_39 hv (by decide) (by decide) (by decide) (by decide) (ls_takeBack hX hT hl hGX hB hi hL hR hc hs kk)
    | 8, _, hv => exact jw_tableIn (tgt := 529) (off := 490) hX 8 dL_law_39 hv (by decide) (by decide) (by decide) (by decide) (ls_audit hX hT hl hGX hB hi hL hR hc hs kk)
    | 9, _, hv => exact jw_tableIn (tgt := 597) (off := 558) hX 9 dL_law_39 hv (by decide) (by decide) (by decide) (by decide) (ls_end hX hT hl hGX hB hi hL hR hc hs kk)
    | 10, _, hv => exact jw_tableIn (tgt := 660) (off := 621) hX 10 dL_law_39 hv (by decide) (by decide) (by decide) (by decide) (ls_entries hX hT hl hGX hB hi hL hR hc hs kk)
    | 11, _, hv => exact jw_tableIn (tgt := 673) (off := 634) hX 11 dL_law_39 hv (by decide) (by decide) (by decide) (by decide) (ls_signAt hX hT hl hGX hB hi hL hR hc hs kk)
    | 12, _, hv => exact jw_tableIn (tgt := 753) (off := 714) hX 12 dL_law_39 hv (by decide) (by decide) (by decide) (by decide) (ls_length hX hT hl hGX hB hi hL hR hc hs kk)
    | 13, _, hv => exact jw_tableIn (tgt := 821) (off := 782) hX 13 dL_law_39 hv (by decide) (by decide) (by decide) (by decide) (ls_proof hX hT hl hGX hB hi hL hR hc hs kk)
    | 14, _, hv => exact jw_tableIn (tgt := 877) (off := 838) hX 14 dL_law_39 hv (by decide) (by decide) (by decide) (by decide) (ls_proofAnew hX hT hl hGX hB hi hL hR hc hs kk)
    | 15, _, hv => exact jw_tableIn (tgt := 933) (off := 894) hX 15 dL_law_39 hv (by decide) (by decide) (by decide) (by decide) (ls_gets hX hT hl hGX hB hi hL hR hc hs kk)
    | 16, _, hv => exact jw_tableIn (tgt := 1001) (off := 962) hX 16 dL_law_39 hv (by decide) (by decide) (by decide) (by decide) (ls_sum hX hT hl hGX hB hi hL hR hc hs kk)
    | 17, _, hv => exact jw_tableIn (tgt := 1069) (off := 1030) hX 17 dL_law_39 hv (by decide) (by decide) (by decide) (by decide) (ls_doubts hX hT hl hGX hB hi hL hR hc hs kk)
    | 18, _, hv => exact jw_tableIn (tgt := 1125) (off := 1086) hX 18 dL_law_39 hv (by decide) (by decide) (by decide) (by decide) (ls_doubted hX hT hl hGX hB hi hL hR hc hs kk)
    | 19, _, hv => exact jw_tableIn (tgt := 1181) (off := 1142) hX 19 dL_law_39 hv (by decide) (by decide) (by decide) (by decide) (ls_isFrozen hX hT hl hGX hB hi hL hR hc hs kk)
    | 20, _, hv => exact jw_tableIn (tgt := 1244) (off := 1205) hX 20 dL_law_39 hv (by decide) (by decide) (by decide) (by decide) (ls_holds hX hT hl hGX hB hi hL hR hc hs kk)
    | n + 21, hj, _ => exact absurd hj (by omega)
  · exact jw_tableOut (hi := 20) (tgt := 1307) hX (by decide) dL_law_39 (fun j hj hv => h ⟨j, hj, hv⟩) (by decide) (jw_widen (cells + 10) (slots + 1000) (by omega) (by omega) (kk f S w hR))
set_option maxRecDepth 100000 in
theorem law_loop {X : JX} {cI cZ cO cJ : ClassId} {gs : JP} {b x a o L : Nat} {ad : Nat → Nat} {xs : Nat → Int32} (hX : jOK X cL_law 7 wsL_law RL room_1) (hT : jT X = jTy cI cZ cO cJ) (hl : (jL X).stackTraces = false) (hGX : jG X (GL gs)) (hB : jScr X b L xs) (hL : L ≤ 2560) (hend : jEnd X) :
    ∀ (k i cells slots : Nat) (f : Nat → Int64) (S : PS) (w : MW), L < i + 5 * k + 5 → i ≤ 2565 → cells + 10 * k ≤ 601024 → slots + 1000 * k ≤ 7293034 → REL gs.2.1 x S w → JW X cells slots (mW a ad cI cZ w ++ (o, oE cJ f) :: pW cI cO S) 23 (lwL i b x a o) [] := by
  intro k
  induction k with
  | zero =>
    intro i cells slots f S w h1 h2 h3 h4 hR
    exact law_head hX hB hL h2 (fun h => by omega) (jw_iconst (v := (1 : Int32)) hX dL_law_1313 (by decide) (hend _ _ _ _ (by omega) (by omega)))
  | succ k ih =>
    intro i cells slots f S w h1 h2 h3 h4 hR
    refine law_head hX hB hL h2 (fun h => ?_) (jw_iconst (v := (1 : Int32)) hX dL_law_1313 (by decide) (hend _ _ _ _ (by omega) (by omega)))
    refine law_case hX hT hl hGX hB h hL hR (by omega) (by omega) (fun f1 S1 w1 hR1 => ?_)
    exact law_next hX (ih (i + 5) (cells + 10) (slots + 1000) f1 S1 w1 (by omega) (by omega) (by omega) (by omega) hR1)
set_option maxRecDepth 100000 in
theorem law_run {X : JX} {cI cZ cO cJ : ClassId} {gs : JP} {b L : Nat} {xs : Nat → Int32} (hX : jOK X cL_law 7 wsL_law RL room_1) (hT : jT X = jTy cI cZ cO cJ) (hl : (jL X).stackTraces = false) (hGX : jG X (GL gs)) (hB : jScr X b L xs) (hL : L ≤ 2560) (hend : jEnd X) : JW X 0 0 [] 0 [(0, .ref b)] [] := by
  show JW X 0 0 (pW cI cO ([], (fun _ => 0), (fun _ _ => 0), (fun _ _ => none), (fun _ => 0), (fun _ _ => 0), (fun _ _ => none))) 0 [(0, .ref b)] []
  refine jw_pnew hX hT 6 rfl (by decide) (fun w h => (ggL_law_X6_init_c4 w h).1) tyX6 tyX6_ok nzero6 lj_c6 lj_n6 lj_i6 ⟨by decide, by decide⟩ dL_law_0 (fun x hx => ?_)
  refine jw_dup hX dL_law_3 rfl ?_
  refine jw_pI (As := []) (rest := [.ref x]) (Qc := fun T => RCe gs.2.1 T x ([], [], [], [])) hX (GP_ok gs) (gl_gp hGX) 0 (kX6_init hT (c_init (pNw_new hx).1)) ggL_law_X6_init rfl lj_m6 lj_i6 lj_s6 rfl hdX6_init ⟨by decide, by decide⟩ rfl (Nat.le_of_ble_eq_true rfl) dL_law_4 rfl rfl ⟨Nat.le_of_ble_eq_true rfl, Nat.le_of_ble_eq_true rfl⟩ (fun S1 hR => ?_)
  refine jw_astore_n hX [(1, .ref x), (0, .ref b)] dL_law_7 rfl (by decide) rfl ?_
  refine jw_mnew (cI := cI) (cZ := cZ) hX ⟨Nat.le_of_ble_eq_true rfl, Nat.le_of_ble_eq_true rfl⟩ dL_law_8 (fun a => ?_)
  refine jw_dup hX dL_law_11 rfl ?_
  refine jw_lI (As := []) (rest := [.ref a]) hX (GL_ok gs) hGX 0 (kX7_init hT) ggL_law_X7_init rfl lj_m7 lj_i7 lj_s7 rfl hdX7_init ⟨by decide, by decide⟩ rfl (Nat.le_of_ble_eq_true rfl) dL_law_12 ⟨Nat.le_of_ble_eq_true rfl, Nat.le_of_ble_eq_true rfl⟩ ?_
  rintro ov w' ⟨ad, rfl, rfl⟩
  show JW X _ _ _ _ _ [.ref a]
  refine jw_astore_n hX [(2, .ref a), (1, .ref x), (0, .ref b)] dL_law_15 rfl (by decide) rfl ?_
  refine jw_iconst (v := (1 : Int32)) hX dL_law_16 (by decide) ?_
  refine jw_lnewJ hX hT ⟨Nat.le_of_ble_eq_true rfl, Nat.le_of_ble_eq_true rfl⟩ dL_law_17 (fun o => ?_)
  refine jw_astore_n hX [(3, .ref o), (2, .ref a), (1, .ref x), (0, .ref b)] dL_law_19 rfl (by decide) rfl ?_
  refine jw_iconst (v := (0 : Int32)) hX dL_law_20 (by decide) ?_
  refine jw_istore hX [(4, .int 0), (3, .ref o), (2, .ref a), (1, .ref x), (0, .ref b)] dL_law_21 (by decide) rfl ?_
  refine jw_sub [0, 4, 3, 2, 1] (lwL 0 b x a o) rfl ?_
  rw [List.append_assoc]
  refine jw_swap ?_
  rw [List.append_assoc]
  exact law_loop hX hT hl hGX hB hL hend 513 0 _ _ _ S1 mW0 (by omega) (by omega) (Nat.le_of_ble_eq_true rfl) (Nat.le_of_ble_eq_true rfl) ⟨_, hR, WF_0, RM_0⟩
