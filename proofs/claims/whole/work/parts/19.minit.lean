/-! the reference's constructor: its 37 rows one behind another -/
def mIx (k : Nat) : Nat := mKs.idxOf k
def mW0 : MW := (fun _ => 0, fun _ _ => 0)
def mV (qs : List Nat) (k : Nat) : Value := if mSc k = true then .int 0 else match qs[mIx k]? with
  | some q => .ref q
  | none => .null
def mPF (qs : List Nat) : List Value := (List.range 47).map (mV qs)
def mP (a : Nat) (cI cZ : ClassId) (qs : List Nat) : va_W := (a, .inr (7, mPF qs)) :: (List.range qs.length).map (fun j => (qs.getD j 0, mE cI cZ mW0 (mKs.getD j 0)))
theorem mIx_at0 : ∀ j, j < 37 → mIx (mKs.getD j 0) = j ∧ mSc (mKs.getD j 0) = false ∧ mKs.getD j 0 < 47 := by decide +kernel
theorem mIx_of0 : ∀ i, i < 47 → mSc i = false → mIx i < 37 ∧ mKs.getD (mIx i) 0 = i := by decide +kernel
theorem mPF_set {qs : List Nat} {q k : Nat} (hj : qs.length < 37) (hk : mKs.getD qs.length 0 = k) : (mPF qs).set k (.ref q) = mPF (qs ++ [q]) := by
  obtain ⟨h1, h2, h3⟩ := mIx_at0 qs.length hj
  rw [hk] at h1 h2 h3
  apply List.ext_getElem?
  intro i
  rw [List.getElem?_set]
  by_cases hi : k = i
  · subst hi
    have hlen : k < (mPF qs).length := by simp [mPF]; exact h3
    rw [if_pos rfl, if_pos hlen]
    simp only [mPF, List.getElem?_map, List.getElem?_range h3, Option.map_some, mV, h2, h1]
    simp
  · rw [if_neg hi]
    by_cases hi2 : i < 47
    · simp only [mPF, List.getElem?_map, List.getElem?_range hi2, Option.map_some]
      congr 1
      unfold mV
      by_cases hs : mSc i = true
      · rw [if_pos hs, if_pos hs]
      · rw [if_neg hs, if_neg hs]
        obtain ⟨g1, g2⟩ := mIx_of0 i hi2 (by simpa using hs)
        have hne : mIx i ≠ qs.length := by
          intro h
          rw [h, hk] at g2
          exact hi g2
        have : (qs ++ [q])[mIx i]? = qs[mIx i]? := by
          rcases Nat.lt_or_ge (mIx i) qs.length with h | h
          · rw [List.getElem?_append_left h]
          · rw [List.getElem?_eq_none (by simp; omega), List.getElem?_eq_none h]
        rw [this]
    · rw [List.getElem?_eq_none (by simp [mPF]; omega), List.getElem?_eq_none (by simp [mPF]; omega)]
theorem mP_push {a q k : Nat} {cI cZ : ClassId} {qs : List Nat} (hj : qs.length < 37) (hk : mKs.getD qs.length 0 = k) : (mP a cI cZ qs ++ [(q, mE cI cZ mW0 k)]).set 0 (a, .inr (7, (mPF qs).set k (.ref q))) = mP a cI cZ (qs ++ [q]) := by
  unfold mP
  rw [List.cons_append, List.set_cons_zero, mPF_set hj hk]
  congr 1
  rw [List.length_append, List.length_singleton, List.range_succ, List.map_append]
  congr 1
  · refine List.map_congr_left (fun j hj2 => ?_)
    have hlt : j < qs.length := List.mem_range.mp hj2
    simp only [List.getD_eq_getElem?_getD, List.getElem?_append_left hlt]
  · simp only [List.map_cons, List.map_nil, hk]
    simp [List.getD_eq_getElem?_getD]
theorem mP_all {a : Nat} {cI cZ : ClassId} {qs : List Nat} (hj : qs.length = 37) : mP a cI cZ qs = mW a (fun k => qs.getD (mIx k) 0) cI cZ mW0 := by
  unfold mP mW
  congr 1
  · refine congrArg (fun z => (a, (Sum.inr (7, z) : va_E))) ?_
    unfold mPF mF
    refine List.map_congr_left (fun i hi => ?_)
    have hi2 : i < 47 := List.mem_range.mp hi
    unfold mV
    by_cases hs : mSc i = true
    · rw [if_pos hs, if_pos hs]
      rfl
    · rw [if_neg hs, if_neg hs]
      obtain ⟨g1, -⟩ := mIx_of0 i hi2 (by simpa using hs)
      have hlt : mIx i < qs.length := by omega
      rw [List.getElem?_eq_getElem hlt]
      show Value.ref (qs[mIx i]) = Value.ref (qs.getD (mIx i) 0)
      rw [List.getD_eq_getElem?_getD, List.getElem?_eq_getElem hlt]
      rfl
  · rw [hj]
    have hks : mKs = (List.range 37).map (fun j => mKs.getD j 0) := by decide +kernel
    conv => rhs; rw [hks]
    rw [List.map_map]
    refine List.map_congr_left (fun j hj2 => ?_)
    have hlt : j < 37 := List.mem_range.mp hj2
    simp only [Function.comp, (mIx_at0 j hlt).1]
theorem jw_minitI {X : JX} {cells slots : Nat} {a : Nat} {cI cZ cO cJ : ClassId} {pc : Nat} {lv : List (Nat × Value)} {rest : List Value} {cc : ByteArray} {nL : Nat} {Ts : List Cond} {rm : Room} (hX : jOK X cc nL Ts RX7 rm) (hT : jT X = jTy cI cZ cO cJ) (hin0 : jInit X) {qs : List Nat} {n : Int32} {N : Nat} (j k : Nat) (hj : qs.length = j) (hj37 : j < 37) (hk : mKs.getD j 0 = k) (hk47 : k < 47) (hbo : mBo k = false) (hN : mLen k = N) (hn : n = nI N) (hbig : N ≤ 1000000) (hfin : (TX7 k).2.2.2 = true) (hpd : parseFieldDescriptor (TX7 k).2.2.1 = some (.array .int)) (harr : Cond.arrayClass .int ∈ Ts) (hin : ∀ w ∈ wsX70, w ∈ Ts) {idx : Nat} (hlink : Cond.fieldLink RX7 idx "PostlintModel" (TX7 k).2.1 (TX7 k).2.2.1 ∈ Ts) (hcs : cells + 1 ≤ rm.cells ∧ slots + N ≤ rm.slots) (d2 : decode cc pc = .ok (.newarray .int, 2)) (d3 : decode cc (pc + 2) = .ok (.putfield idx, 3))
    (kk : ∀ qs' : List Nat, qs'.length = j + 1 → JW X (cells + 1) (slots + N) (mP a cI cZ qs') (pc + 2 + 3) lv rest) : JW X cells slots (mP a cI cZ qs) pc lv (.int n :: .ref a :: rest) := by
  obtain ⟨p, l, e, R, s, m, args, below, meth, c, D, A, nL9, Q, tys⟩ := X
  obtain ⟨⟨hx, hb, hml, hown, hts⟩, rfl, hK, hA, hlk, rfl⟩ := hX
  obtain rfl : tys = jTy cI cZ cO cJ := hT
  subst hj
  intro H locs ls hP hD hS hl
  have hcl9 : (if mBo k = true then cZ else cI) = cI := by rw [hbo]; rfl
  refine va_newa (atype := .int) (ty := .int) (a0 := (N, .inl (fun _ => 0))) hx hb (hts _ harr) rfl hK hP hD hS hA (fun cA => rfl) (by rw [hn]; exact nI_pos (by omega)) (by rw [hn]; exact nI_clamp (by omega)) (by show N * _ ≤ 536870912; simp only [componentBytes]; omega) hcs.1 hcs.2 d2 (fun q cA H1 hK1 hP1 hD1 hS1 => ?_)
  have hcA : cA = cI := by
    have h1 := (hK1.2 4 (cA, .int) rfl).2
    have h2 := (hK1.2 0 (cI, .int) rfl).2
    exact Option.some.inj (h1.symm.trans h2)
  subst hcA
  have hcell : (Sum.inl (cA, N, Sum.inl (fun _ => (0 : Int32))) : va_E) = mE cA cZ mW0 k := by
    unfold mE
    rw [hcl9, hN]
    rfl
  rw [hcell] at hP1 hD1
  refine va_putF (D := D) (ci := 7) (v := .ref q) (ty := .array .int) (C := RX7) (T := TX7) (N := 47) hx hb hts hin tyX7 tyX7_ok nmX7 hown hK hP1 hD1 hS1 0 rfl rfl k hk47 (hts _ hlink) (fun x9 h9 => by rw [mTX7 hk47] at h9; exact h9) hfin hin0 (mTX7 hk47) hpd rfl rfl (by simp [mPF]; exact hk47) d3 (fun H2 locs2 hP2 hD2 hS2 => ?_)
  rw [mP_push hj37 hk] at hP2 hD2
  exact kk (qs ++ [q]) (by simp) H2 locs2 ls hP2 hD2 hS2 hl
theorem jw_minitZ {X : JX} {cells slots : Nat} {a : Nat} {cI cZ cO cJ : ClassId} {pc : Nat} {lv : List (Nat × Value)} {rest : List Value} {cc : ByteArray} {nL : Nat} {Ts : List Cond} {rm : Room} (hX : jOK X cc nL Ts RX7 rm) (hT : jT X = jTy cI cZ cO cJ) (hin0 : jInit X) {qs : List Nat} {n : Int32} {N : Nat} (j k : Nat) (hj : qs.length = j) (hj37 : j < 37) (hk : mKs.getD j 0 = k) (hk47 : k < 47) (hbo : mBo k = true) (hN : mLen k = N) (hn : n = nI N) (hbig : N ≤ 1000000) (hfin : (TX7 k).2.2.2 = true) (hpd : parseFieldDescriptor (TX7 k).2.2.1 = some (.array .boolean)) (harr : Cond.arrayClass .boolean ∈ Ts) (hin : ∀ w ∈ wsX70, w ∈ Ts) {idx : Nat} (hlink : Cond.fieldLink RX7 idx "PostlintModel" (TX7 k).2.1 (TX7 k).2.2.1 ∈ Ts) (hcs : cells + 1 ≤ rm.cells ∧ slots + N ≤ rm.slots) (d2 : decode cc pc = .ok (.newarray .boolean, 2)) (d3 : decode cc (pc + 2) = .ok (.putfield idx, 3))
    (kk : ∀ qs' : List Nat, qs'.length = j + 1 → JW X (cells + 1) (slots + N) (mP a cI cZ qs') (pc + 2 + 3) lv rest) : JW X cells slots (mP a cI cZ qs) pc lv (.int n :: .ref a :: rest) := by
  obtain ⟨p, l, e, R, s, m, args, below, meth, c, D, A, nL9, Q, tys⟩ := X
  obtain ⟨⟨hx, hb, hml, hown, hts⟩, rfl, hK, hA, hlk, rfl⟩ := hX
  obtain rfl : tys = jTy cI cZ cO cJ := hT
  subst hj
  intro H locs ls hP hD hS hl
  have hcl9 : (if mBo k = true then cZ else cI) = cZ := by rw [hbo]; rfl
  refine va_newa (atype := .boolean) (ty := .boolean) (a0 := (N, .inl (fun _ => 0))) hx hb (hts _ harr) rfl hK hP hD hS hA (fun cA => rfl) (by rw [hn]; exact nI_pos (by omega)) (by rw [hn]; exact nI_clamp (by omega)) (by show N * _ ≤ 536870912; simp only [componentBytes]; omega) hcs.1 hcs.2 d2 (fun q cA H1 hK1 hP1 hD1 hS1 => ?_)
  have hcA : cA = cZ := by
    have h1 := (hK1.2 4 (cA, .boolean) rfl).2
    have h2 := (hK1.2 1 (cZ, .boolean) rfl).2
    exact Option.some.inj (h1.symm.trans h2)
  subst hcA
  have hcell : (Sum.inl (cA, N, Sum.inl (fun _ => (0 : Int32))) : va_E) = mE cI cA mW0 k := by
    unfold mE
    rw [hcl9, hN]
    rfl
  rw [hcell] at hP1 hD1
  refine va_putF (D := D) (ci := 7) (v := .ref q) (ty := .array .boolean) (C := RX7) (T := TX7) (N := 47) hx hb hts hin tyX7 tyX7_ok nmX7 hown hK hP1 hD1 hS1 0 rfl rfl k hk47 (hts _ hlink) (fun x9 h9 => by rw [mTX7 hk47] at h9; exact h9) hfin hin0 (mTX7 hk47) hpd rfl rfl (by simp [mPF]; exact hk47) d3 (fun H2 locs2 hP2 hD2 hS2 => ?_)
  rw [mP_push hj37 hk] at hP2 hD2
  exact kk (qs ++ [q]) (by simp) H2 locs2 ls hP2 hD2 hS2 hl
abbrev rmX7_init : Room := { frames := 1, cells := 37, slots := 9980, locals := 40 }
theorem hdX7_init : yX7_init.cls ≠ "java/lang/invoke/MethodHandle" ∧ yX7_init.cls ≠ "java/lang/invoke/VarHandle" ∧ (parseMethodDescriptor yX7_init.desc).map (fun d => d.parameters.length) = some 0 := by decide +kernel
theorem inX7_init : ∀ w ∈ wsX70, w ∈ wsX7_init := fun _ h => List.mem_cons_of_mem _ (List.mem_append_right _ h)
theorem obX7_init : Cond.methodLink RX7 1 Lib.objectInit ∈ wsX7_init := by decide +kernel
theorem ocX7_init : Cond.instanceMethod Lib.objectInit ∈ wsX7_init := by decide +kernel
theorem odX7_init : Cond.code Lib.objectInit ⟨#[0xb1]⟩ 1 none ∈ wsX7_init := by decide +kernel
theorem aiX7_init : Cond.arrayClass .int ∈ wsX7_init := by decide +kernel
theorem azX7_init : Cond.arrayClass .boolean ∈ wsX7_init := by decide +kernel
theorem lkX7_init_7 : Cond.fieldLink RX7 7 "PostlintModel" (TX7 2).2.1 (TX7 2).2.2.1 ∈ wsX7_init := by decide +kernel
theorem mi0 : 0 < 37 ∧ mKs.getD 0 0 = 2 ∧ 2 < 47 ∧ mBo 2 = false ∧ mLen 2 = 60 ∧ (60 : Int32) = nI 60 ∧ 60 ≤ 1000000 ∧ (TX7 2).2.2.2 = true ∧ parseFieldDescriptor (TX7 2).2.2.1 = some (.array .int) ∧ (0 + 1 ≤ rmX7_init.cells ∧ 0 + 60 ≤ rmX7_init.slots) ∧ 0 + 1 ≤ 1 ∧ 0 + 60 ≤ 60 := by decide +kernel
theorem lkX7_init_13 : Cond.fieldLink RX7 13 "PostlintModel" (TX7 4).2.1 (TX7 4).2.2.1 ∈ wsX7_init := by decide +kernel
theorem mi1 : 1 < 37 ∧ mKs.getD 1 0 = 4 ∧ 4 < 47 ∧ mBo 4 = true ∧ mLen 4 = 24 ∧ (24 : Int32) = nI 24 ∧ 24 ≤ 1000000 ∧ (TX7 4).2.2.2 = true ∧ parseFieldDescriptor (TX7 4).2.2.1 = some (.array .boolean) ∧ (1 + 1 ≤ rmX7_init.cells ∧ 60 + 24 ≤ rmX7_init.slots) ∧ 1 + 1 ≤ 2 ∧ 60 + 24 ≤ 84 := by decide +kernel
theorem lkX7_init_17 : Cond.fieldLink RX7 17 "PostlintModel" (TX7 5).2.1 (TX7 5).2.2.1 ∈ wsX7_init := by decide +kernel
theorem mi2 : 2 < 37 ∧ mKs.getD 2 0 = 5 ∧ 5 < 47 ∧ mBo 5 = false ∧ mLen 5 = 24 ∧ (24 : Int32) = nI 24 ∧ 24 ≤ 1000000 ∧ (TX7 5).2.2.2 = true ∧ parseFieldDescriptor (TX7 5).2.2.1 = some (.array .int) ∧ (2 + 1 ≤ rmX7_init.cells ∧ 84 + 24 ≤ rmX7_init.slots) ∧ 2 + 1 ≤ 3 ∧ 84 + 24 ≤ 108 := by decide +kernel
theorem lkX7_init_20 : Cond.fieldLink RX7 20 "PostlintModel" (TX7 6).2.1 (TX7 6).2.2.1 ∈ wsX7_init := by decide +kernel
theorem mi3 : 3 < 37 ∧ mKs.getD 3 0 = 6 ∧ 6 < 47 ∧ mBo 6 = false ∧ mLen 6 = 1440 ∧ (1440 : Int32) = nI 1440 ∧ 1440 ≤ 1000000 ∧ (TX7 6).2.2.2 = true ∧ parseFieldDescriptor (TX7 6).2.2.1 = some (.array .int) ∧ (3 + 1 ≤ rmX7_init.cells ∧ 108 + 1440 ≤ rmX7_init.slots) ∧ 3 + 1 ≤ 4 ∧ 108 + 1440 ≤ 1548 := by decide +kernel
theorem lkX7_init_23 : Cond.fieldLink RX7 23 "PostlintModel" (TX7 7).2.1 (TX7 7).2.2.1 ∈ wsX7_init := by decide +kernel
theorem mi4 : 4 < 37 ∧ mKs.getD 4 0 = 7 ∧ 7 < 47 ∧ mBo 7 = false ∧ mLen 7 = 24 ∧ (24 : Int32) = nI 24 ∧ 24 ≤ 1000000 ∧ (TX7 7).2.2.2 = true ∧ parseFieldDescriptor (TX7 7).2.2.1 = some (.array .int) ∧ (4 + 1 ≤ rmX7_init.cells ∧ 1548 + 24 ≤ rmX7_init.slots) ∧ 4 + 1 ≤ 5 ∧ 1548 + 24 ≤ 1572 := by decide +kernel
theorem lkX7_init_26 : Cond.fieldLink RX7 26 "PostlintModel" (TX7 8).2.1 (TX7 8).2.2.1 ∈ wsX7_init := by decide +kernel
theorem mi5 : 5 < 37 ∧ mKs.getD 5 0 = 8 ∧ 8 < 47 ∧ mBo 8 = false ∧ mLen 8 = 1440 ∧ (1440 : Int32) = nI 1440 ∧ 1440 ≤ 1000000 ∧ (TX7 8).2.2.2 = true ∧ parseFieldDescriptor (TX7 8).2.2.1 = some (.array .int) ∧ (5 + 1 ≤ rmX7_init.cells ∧ 1572 + 1440 ≤ rmX7_init.slots) ∧ 5 + 1 ≤ 6 ∧ 1572 + 1440 ≤ 3012 := by decide +kernel
theorem lkX7_init_29 : Cond.fieldLink RX7 29 "PostlintModel" (TX7 9).2.1 (TX7 9).2.2.1 ∈ wsX7_init := by decide +kernel
theorem mi6 : 6 < 37 ∧ mKs.getD 6 0 = 9 ∧ 9 < 47 ∧ mBo 9 = false ∧ mLen 9 = 24 ∧ (24 : Int32) = nI 24 ∧ 24 ≤ 1000000 ∧ (TX7 9).2.2.2 = true ∧ parseFieldDescriptor (TX7 9).2.2.1 = some (.array .int) ∧ (6 + 1 ≤ rmX7_init.cells ∧ 3012 + 24 ≤ rmX7_init.slots) ∧ 6 + 1 ≤ 7 ∧ 3012 + 24 ≤ 3036 := by decide +kernel
theorem lkX7_init_32 : Cond.fieldLink RX7 32 "PostlintModel" (TX7 10).2.1 (TX7 10).2.2.1 ∈ wsX7_init := by decide +kernel
theorem mi7 : 7 < 37 ∧ mKs.getD 7 0 = 10 ∧ 10 < 47 ∧ mBo 10 = false ∧ mLen 10 = 384 ∧ (384 : Int32) = nI 384 ∧ 384 ≤ 1000000 ∧ (TX7 10).2.2.2 = true ∧ parseFieldDescriptor (TX7 10).2.2.1 = some (.array .int) ∧ (7 + 1 ≤ rmX7_init.cells ∧ 3036 + 384 ≤ rmX7_init.slots) ∧ 7 + 1 ≤ 8 ∧ 3036 + 384 ≤ 3420 := by decide +kernel
theorem lkX7_init_35 : Cond.fieldLink RX7 35 "PostlintModel" (TX7 11).2.1 (TX7 11).2.2.1 ∈ wsX7_init := by decide +kernel
theorem mi8 : 8 < 37 ∧ mKs.getD 8 0 = 11 ∧ 11 < 47 ∧ mBo 11 = true ∧ mLen 11 = 384 ∧ (384 : Int32) = nI 384 ∧ 384 ≤ 1000000 ∧ (TX7 11).2.2.2 = true ∧ parseFieldDescriptor (TX7 11).2.2.1 = some (.array .boolean) ∧ (8 + 1 ≤ rmX7_init.cells ∧ 3420 + 384 ≤ rmX7_init.slots) ∧ 8 + 1 ≤ 9 ∧ 3420 + 384 ≤ 3804 := by decide +kernel
theorem lkX7_init_38 : Cond.fieldLink RX7 38 "PostlintModel" (TX7 12).2.1 (TX7 12).2.2.1 ∈ wsX7_init := by decide +kernel
theorem mi9 : 9 < 37 ∧ mKs.getD 9 0 = 12 ∧ 12 < 47 ∧ mBo 12 = false ∧ mLen 12 = 384 ∧ (384 : Int32) = nI 384 ∧ 384 ≤ 1000000 ∧ (TX7 12).2.2.2 = true ∧ parseFieldDescriptor (TX7 12).2.2.1 = some (.array .int) ∧ (9 + 1 ≤ rmX7_init.cells ∧ 3804 + 384 ≤ rmX7_init.slots) ∧ 9 + 1 ≤ 10 ∧ 3804 + 384 ≤ 4188 := by decide +kernel
theorem lkX7_init_41 : Cond.fieldLink RX7 41 "PostlintModel" (TX7 13).2.1 (TX7 13).2.2.1 ∈ wsX7_init := by decide +kernel
theorem mi10 : 10 < 37 ∧ mKs.getD 10 0 = 13 ∧ 13 < 47 ∧ mBo 13 = false ∧ mLen 13 = 384 ∧ (384 : Int32) = nI 384 ∧ 384 ≤ 1000000 ∧ (TX7 13).2.2.2 = true ∧ parseFieldDescriptor (TX7 13).2.2.1 = some (.array .int) ∧ (10 + 1 ≤ rmX7_init.cells ∧ 4188 + 384 ≤ rmX7_init.slots) ∧ 10 + 1 ≤ 11 ∧ 4188 + 384 ≤ 4572 := by decide +kernel
theorem lkX7_init_44 : Cond.fieldLink RX7 44 "PostlintModel" (TX7 14).2.1 (TX7 14).2.2.1 ∈ wsX7_init := by decide +kernel
theorem mi11 : 11 < 37 ∧ mKs.getD 11 0 = 14 ∧ 14 < 47 ∧ mBo 14 = false ∧ mLen 14 = 24 ∧ (24 : Int32) = nI 24 ∧ 24 ≤ 1000000 ∧ (TX7 14).2.2.2 = true ∧ parseFieldDescriptor (TX7 14).2.2.1 = some (.array .int) ∧ (11 + 1 ≤ rmX7_init.cells ∧ 4572 + 24 ≤ rmX7_init.slots) ∧ 11 + 1 ≤ 12 ∧ 4572 + 24 ≤ 4596 := by decide +kernel
theorem lkX7_init_47 : Cond.fieldLink RX7 47 "PostlintModel" (TX7 16).2.1 (TX7 16).2.2.1 ∈ wsX7_init := by decide +kernel
theorem mi12 : 12 < 37 ∧ mKs.getD 12 0 = 16 ∧ 16 < 47 ∧ mBo 16 = false ∧ mLen 16 = 8 ∧ (8 : Int32) = nI 8 ∧ 8 ≤ 1000000 ∧ (TX7 16).2.2.2 = true ∧ parseFieldDescriptor (TX7 16).2.2.1 = some (.array .int) ∧ (12 + 1 ≤ rmX7_init.cells ∧ 4596 + 8 ≤ rmX7_init.slots) ∧ 12 + 1 ≤ 13 ∧ 4596 + 8 ≤ 4604 := by decide +kernel
theorem lkX7_init_50 : Cond.fieldLink RX7 50 "PostlintModel" (TX7 17).2.1 (TX7 17).2.2.1 ∈ wsX7_init := by decide +kernel
theorem mi13 : 13 < 37 ∧ mKs.getD 13 0 = 17 ∧ 17 < 47 ∧ mBo 17 = false ∧ mLen 17 = 8 ∧ (8 : Int32) = nI 8 ∧ 8 ≤ 1000000 ∧ (TX7 17).2.2.2 = true ∧ parseFieldDescriptor (TX7 17).2.2.1 = some (.array .int) ∧ (13 + 1 ≤ rmX7_init.cells ∧ 4604 + 8 ≤ rmX7_init.slots) ∧ 13 + 1 ≤ 14 ∧ 4604 + 8 ≤ 4612 := by decide +kernel
theorem lkX7_init_53 : Cond.fieldLink RX7 53 "PostlintModel" (TX7 18).2.1 (TX7 18).2.2.1 ∈ wsX7_init := by decide +kernel
theorem mi14 : 14 < 37 ∧ mKs.getD 14 0 = 18 ∧ 18 < 47 ∧ mBo 18 = false ∧ mLen 18 = 8 ∧ (8 : Int32) = nI 8 ∧ 8 ≤ 1000000 ∧ (TX7 18).2.2.2 = true ∧ parseFieldDescriptor (TX7 18).2.2.1 = some (.array .int) ∧ (14 + 1 ≤ rmX7_init.cells ∧ 4612 + 8 ≤ rmX7_init.slots) ∧ 14 + 1 ≤ 15 ∧ 4612 + 8 ≤ 4620 := by decide +kernel
theorem lkX7_init_56 : Cond.fieldLink RX7 56 "PostlintModel" (TX7 19).2.1 (TX7 19).2.2.1 ∈ wsX7_init := by decide +kernel
theorem mi15 : 15 < 37 ∧ mKs.getD 15 0 = 19 ∧ 19 < 47 ∧ mBo 19 = false ∧ mLen 19 = 8 ∧ (8 : Int32) = nI 8 ∧ 8 ≤ 1000000 ∧ (TX7 19).2.2.2 = true ∧ parseFieldDescriptor (TX7 19).2.2.1 = some (.array .int) ∧ (15 + 1 ≤ rmX7_init.cells ∧ 4620 + 8 ≤ rmX7_init.slots) ∧ 15 + 1 ≤ 16 ∧ 4620 + 8 ≤ 4628 := by decide +kernel
theorem lkX7_init_59 : Cond.fieldLink RX7 59 "PostlintModel" (TX7 20).2.1 (TX7 20).2.2.1 ∈ wsX7_init := by decide +kernel
theorem mi16 : 16 < 37 ∧ mKs.getD 16 0 = 20 ∧ 20 < 47 ∧ mBo 20 = true ∧ mLen 20 = 8 ∧ (8 : Int32) = nI 8 ∧ 8 ≤ 1000000 ∧ (TX7 20).2.2.2 = true ∧ parseFieldDescriptor (TX7 20).2.2.1 = some (.array .boolean) ∧ (16 + 1 ≤ rmX7_init.cells ∧ 4628 + 8 ≤ rmX7_init.slots) ∧ 16 + 1 ≤ 17 ∧ 4628 + 8 ≤ 4636 := by decide +kernel
theorem lkX7_init_62 : Cond.fieldLink RX7 62 "PostlintModel" (TX7 22).2.1 (TX7 22).2.2.1 ∈ wsX7_init := by decide +kernel
theorem mi17 : 17 < 37 ∧ mKs.getD 17 0 = 22 ∧ 22 < 47 ∧ mBo 22 = false ∧ mLen 22 = 6 ∧ (6 : Int32) = nI 6 ∧ 6 ≤ 1000000 ∧ (TX7 22).2.2.2 = true ∧ parseFieldDescriptor (TX7 22).2.2.1 = some (.array .int) ∧ (17 + 1 ≤ rmX7_init.cells ∧ 4636 + 6 ≤ rmX7_init.slots) ∧ 17 + 1 ≤ 18 ∧ 4636 + 6 ≤ 4642 := by decide +kernel
theorem lkX7_init_65 : Cond.fieldLink RX7 65 "PostlintModel" (TX7 23).2.1 (TX7 23).2.2.1 ∈ wsX7_init := by decide +kernel
theorem mi18 : 18 < 37 ∧ mKs.getD 18 0 = 23 ∧ 23 < 47 ∧ mBo 23 = false ∧ mLen 23 = 6 ∧ (6 : Int32) = nI 6 ∧ 6 ≤ 1000000 ∧ (TX7 23).2.2.2 = true ∧ parseFieldDescriptor (TX7 23).2.2.1 = some (.array .int) ∧ (18 + 1 ≤ rmX7_init.cells ∧ 4642 + 6 ≤ rmX7_init.slots) ∧ 18 + 1 ≤ 19 ∧ 4642 + 6 ≤ 4648 := by decide +kernel
theorem lkX7_init_68 : Cond.fieldLink RX7 68 "PostlintModel" (TX7 24).2.1 (TX7 24).2.2.1 ∈ wsX7_init := by decide +kernel
theorem mi19 : 19 < 37 ∧ mKs.getD 19 0 = 24 ∧ 24 < 47 ∧ mBo 24 = false ∧ mLen 24 = 6 ∧ (6 : Int32) = nI 6 ∧ 6 ≤ 1000000 ∧ (TX7 24).2.2.2 = true ∧ parseFieldDescriptor (TX7 24).2.2.1 = some (.array .int) ∧ (19 + 1 ≤ rmX7_init.cells ∧ 4648 + 6 ≤ rmX7_init.slots) ∧ 19 + 1 ≤ 20 ∧ 4648 + 6 ≤ 4654 := by decide +kernel
theorem lkX7_init_71 : Cond.fieldLink RX7 71 "PostlintModel" (TX7 25).2.1 (TX7 25).2.2.1 ∈ wsX7_init := by decide +kernel
theorem mi20 : 20 < 37 ∧ mKs.getD 20 0 = 25 ∧ 25 < 47 ∧ mBo 25 = true ∧ mLen 25 = 6 ∧ (6 : Int32) = nI 6 ∧ 6 ≤ 1000000 ∧ (TX7 25).2.2.2 = true ∧ parseFieldDescriptor (TX7 25).2.2.1 = some (.array .boolean) ∧ (20 + 1 ≤ rmX7_init.cells ∧ 4654 + 6 ≤ rmX7_init.slots) ∧ 20 + 1 ≤ 21 ∧ 4654 + 6 ≤ 4660 := by decide +kernel
theorem lkX7_init_74 : Cond.fieldLink RX7 74 "PostlintModel" (TX7 27).2.1 (TX7 27).2.2.1 ∈ wsX7_init := by decide +kernel
theorem mi21 : 21 < 37 ∧ mKs.getD 21 0 = 27 ∧ 27 < 47 ∧ mBo 27 = false ∧ mLen 27 = 16 ∧ (16 : Int32) = nI 16 ∧ 16 ≤ 1000000 ∧ (TX7 27).2.2.2 = true ∧ parseFieldDescriptor (TX7 27).2.2.1 = some (.array .int) ∧ (21 + 1 ≤ rmX7_init.cells ∧ 4660 + 16 ≤ rmX7_init.slots) ∧ 21 + 1 ≤ 22 ∧ 4660 + 16 ≤ 4676 := by decide +kernel
theorem lkX7_init_77 : Cond.fieldLink RX7 77 "PostlintModel" (TX7 28).2.1 (TX7 28).2.2.1 ∈ wsX7_init := by decide +kernel
theorem mi22 : 22 < 37 ∧ mKs.getD 22 0 = 28 ∧ 28 < 47 ∧ mBo 28 = true ∧ mLen 28 = 16 ∧ (16 : Int32) = nI 16 ∧ 16 ≤ 1000000 ∧ (TX7 28).2.2.2 = true ∧ parseFieldDescriptor (TX7 28).2.2.1 = some (.array .boolean) ∧ (22 + 1 ≤ rmX7_init.cells ∧ 4676 + 16 ≤ rmX7_init.slots) ∧ 22 + 1 ≤ 23 ∧ 4676 + 16 ≤ 4692 := by decide +kernel
theorem lkX7_init_80 : Cond.fieldLink RX7 80 "PostlintModel" (TX7 29).2.1 (TX7 29).2.2.1 ∈ wsX7_init := by decide +kernel
theorem mi23 : 23 < 37 ∧ mKs.getD 23 0 = 29 ∧ 29 < 47 ∧ mBo 29 = false ∧ mLen 29 = 16 ∧ (16 : Int32) = nI 16 ∧ 16 ≤ 1000000 ∧ (TX7 29).2.2.2 = true ∧ parseFieldDescriptor (TX7 29).2.2.1 = some (.array .int) ∧ (23 + 1 ≤ rmX7_init.cells ∧ 4692 + 16 ≤ rmX7_init.slots) ∧ 23 + 1 ≤ 24 ∧ 4692 + 16 ≤ 4708 := by decide +kernel
theorem lkX7_init_83 : Cond.fieldLink RX7 83 "PostlintModel" (TX7 30).2.1 (TX7 30).2.2.1 ∈ wsX7_init := by decide +kernel
theorem mi24 : 24 < 37 ∧ mKs.getD 24 0 = 30 ∧ 30 < 47 ∧ mBo 30 = false ∧ mLen 30 = 16 ∧ (16 : Int32) = nI 16 ∧ 16 ≤ 1000000 ∧ (TX7 30).2.2.2 = true ∧ parseFieldDescriptor (TX7 30).2.2.1 = some (.array .int) ∧ (24 + 1 ≤ rmX7_init.cells ∧ 4708 + 16 ≤ rmX7_init.slots) ∧ 24 + 1 ≤ 25 ∧ 4708 + 16 ≤ 4724 := by decide +kernel
theorem lkX7_init_86 : Cond.fieldLink RX7 86 "PostlintModel" (TX7 32).2.1 (TX7 32).2.2.1 ∈ wsX7_init := by decide +kernel
theorem mi25 : 25 < 37 ∧ mKs.getD 25 0 = 32 ∧ 32 < 47 ∧ mBo 32 = true ∧ mLen 32 = 64 ∧ (64 : Int32) = nI 64 ∧ 64 ≤ 1000000 ∧ (TX7 32).2.2.2 = true ∧ parseFieldDescriptor (TX7 32).2.2.1 = some (.array .boolean) ∧ (25 + 1 ≤ rmX7_init.cells ∧ 4724 + 64 ≤ rmX7_init.slots) ∧ 25 + 1 ≤ 26 ∧ 4724 + 64 ≤ 4788 := by decide +kernel
theorem lkX7_init_89 : Cond.fieldLink RX7 89 "PostlintModel" (TX7 33).2.1 (TX7 33).2.2.1 ∈ wsX7_init := by decide +kernel
theorem mi26 : 26 < 37 ∧ mKs.getD 26 0 = 33 ∧ 33 < 47 ∧ mBo 33 = false ∧ mLen 33 = 64 ∧ (64 : Int32) = nI 64 ∧ 64 ≤ 1000000 ∧ (TX7 33).2.2.2 = true ∧ parseFieldDescriptor (TX7 33).2.2.1 = some (.array .int) ∧ (26 + 1 ≤ rmX7_init.cells ∧ 4788 + 64 ≤ rmX7_init.slots) ∧ 26 + 1 ≤ 27 ∧ 4788 + 64 ≤ 4852 := by decide +kernel
theorem lkX7_init_92 : Cond.fieldLink RX7 92 "PostlintModel" (TX7 34).2.1 (TX7 34).2.2.1 ∈ wsX7_init := by decide +kernel
theorem mi27 : 27 < 37 ∧ mKs.getD 27 0 = 34 ∧ 34 < 47 ∧ mBo 34 = false ∧ mLen 34 = 64 ∧ (64 : Int32) = nI 64 ∧ 64 ≤ 1000000 ∧ (TX7 34).2.2.2 = true ∧ parseFieldDescriptor (TX7 34).2.2.1 = some (.array .int) ∧ (27 + 1 ≤ rmX7_init.cells ∧ 4852 + 64 ≤ rmX7_init.slots) ∧ 27 + 1 ≤ 28 ∧ 4852 + 64 ≤ 4916 := by decide +kernel
theorem lkX7_init_95 : Cond.fieldLink RX7 95 "PostlintModel" (TX7 35).2.1 (TX7 35).2.2.1 ∈ wsX7_init := by decide +kernel
theorem mi28 : 28 < 37 ∧ mKs.getD 28 0 = 35 ∧ 35 < 47 ∧ mBo 35 = false ∧ mLen 35 = 64 ∧ (64 : Int32) = nI 64 ∧ 64 ≤ 1000000 ∧ (TX7 35).2.2.2 = true ∧ parseFieldDescriptor (TX7 35).2.2.1 = some (.array .int) ∧ (28 + 1 ≤ rmX7_init.cells ∧ 4916 + 64 ≤ rmX7_init.slots) ∧ 28 + 1 ≤ 29 ∧ 4916 + 64 ≤ 4980 := by decide +kernel
theorem lkX7_init_98 : Cond.fieldLink RX7 98 "PostlintModel" (TX7 36).2.1 (TX7 36).2.2.1 ∈ wsX7_init := by decide +kernel
theorem mi29 : 29 < 37 ∧ mKs.getD 29 0 = 36 ∧ 36 < 47 ∧ mBo 36 = false ∧ mLen 36 = 64 ∧ (64 : Int32) = nI 64 ∧ 64 ≤ 1000000 ∧ (TX7 36).2.2.2 = true ∧ parseFieldDescriptor (TX7 36).2.2.1 = some (.array .int) ∧ (29 + 1 ≤ rmX7_init.cells ∧ 4980 + 64 ≤ rmX7_init.slots) ∧ 29 + 1 ≤ 30 ∧ 4980 + 64 ≤ 5044 := by decide +kernel
theorem lkX7_init_101 : Cond.fieldLink RX7 101 "PostlintModel" (TX7 37).2.1 (TX7 37).2.2.1 ∈ wsX7_init := by decide +kernel
theorem mi30 : 30 < 37 ∧ mKs.getD 30 0 = 37 ∧ 37 < 47 ∧ mBo 37 = false ∧ mLen 37 = 64 ∧ (64 : Int32) = nI 64 ∧ 64 ≤ 1000000 ∧ (TX7 37).2.2.2 = true ∧ parseFieldDescriptor (TX7 37).2.2.1 = some (.array .int) ∧ (30 + 1 ≤ rmX7_init.cells ∧ 5044 + 64 ≤ rmX7_init.slots) ∧ 30 + 1 ≤ 31 ∧ 5044 + 64 ≤ 5108 := by decide +kernel
theorem lkX7_init_104 : Cond.fieldLink RX7 104 "PostlintModel" (TX7 39).2.1 (TX7 39).2.2.1 ∈ wsX7_init := by decide +kernel
theorem mi31 : 31 < 37 ∧ mKs.getD 31 0 = 39 ∧ 39 < 47 ∧ mBo 39 = false ∧ mLen 39 = 512 ∧ (512 : Int32) = nI 512 ∧ 512 ≤ 1000000 ∧ (TX7 39).2.2.2 = true ∧ parseFieldDescriptor (TX7 39).2.2.1 = some (.array .int) ∧ (31 + 1 ≤ rmX7_init.cells ∧ 5108 + 512 ≤ rmX7_init.slots) ∧ 31 + 1 ≤ 32 ∧ 5108 + 512 ≤ 5620 := by decide +kernel
theorem lkX7_init_107 : Cond.fieldLink RX7 107 "PostlintModel" (TX7 41).2.1 (TX7 41).2.2.1 ∈ wsX7_init := by decide +kernel
theorem mi32 : 32 < 37 ∧ mKs.getD 32 0 = 41 ∧ 41 < 47 ∧ mBo 41 = false ∧ mLen 41 = 4096 ∧ (4096 : Int32) = nI 4096 ∧ 4096 ≤ 1000000 ∧ (TX7 41).2.2.2 = true ∧ parseFieldDescriptor (TX7 41).2.2.1 = some (.array .int) ∧ (32 + 1 ≤ rmX7_init.cells ∧ 5620 + 4096 ≤ rmX7_init.slots) ∧ 32 + 1 ≤ 33 ∧ 5620 + 4096 ≤ 9716 := by decide +kernel
theorem lkX7_init_110 : Cond.fieldLink RX7 110 "PostlintModel" (TX7 42).2.1 (TX7 42).2.2.1 ∈ wsX7_init := by decide +kernel
theorem mi33 : 33 < 37 ∧ mKs.getD 33 0 = 42 ∧ 42 < 47 ∧ mBo 42 = false ∧ mLen 42 = 6 ∧ (6 : Int32) = nI 6 ∧ 6 ≤ 1000000 ∧ (TX7 42).2.2.2 = true ∧ parseFieldDescriptor (TX7 42).2.2.1 = some (.array .int) ∧ (33 + 1 ≤ rmX7_init.cells ∧ 9716 + 6 ≤ rmX7_init.slots) ∧ 33 + 1 ≤ 34 ∧ 9716 + 6 ≤ 9722 := by decide +kernel
theorem lkX7_init_113 : Cond.fieldLink RX7 113 "PostlintModel" (TX7 43).2.1 (TX7 43).2.2.1 ∈ wsX7_init := by decide +kernel
theorem mi34 : 34 < 37 ∧ mKs.getD 34 0 = 43 ∧ 43 < 47 ∧ mBo 43 = false ∧ mLen 43 = 192 ∧ (192 : Int32) = nI 192 ∧ 192 ≤ 1000000 ∧ (TX7 43).2.2.2 = true ∧ parseFieldDescriptor (TX7 43).2.2.1 = some (.array .int) ∧ (34 + 1 ≤ rmX7_init.cells ∧ 9722 + 192 ≤ rmX7_init.slots) ∧ 34 + 1 ≤ 35 ∧ 9722 + 192 ≤ 9914 := by decide +kernel
theorem lkX7_init_116 : Cond.fieldLink RX7 116 "PostlintModel" (TX7 44).2.1 (TX7 44).2.2.1 ∈ wsX7_init := by decide +kernel
theorem mi35 : 35 < 37 ∧ mKs.getD 35 0 = 44 ∧ 44 < 47 ∧ mBo 44 = false ∧ mLen 44 = 6 ∧ (6 : Int32) = nI 6 ∧ 6 ≤ 1000000 ∧ (TX7 44).2.2.2 = true ∧ parseFieldDescriptor (TX7 44).2.2.1 = some (.array .int) ∧ (35 + 1 ≤ rmX7_init.cells ∧ 9914 + 6 ≤ rmX7_init.slots) ∧ 35 + 1 ≤ 36 ∧ 9914 + 6 ≤ 9920 := by decide +kernel
theorem lkX7_init_119 : Cond.fieldLink RX7 119 "PostlintModel" (TX7 46).2.1 (TX7 46).2.2.1 ∈ wsX7_init := by decide +kernel
theorem mi36 : 36 < 37 ∧ mKs.getD 36 0 = 46 ∧ 46 < 47 ∧ mBo 46 = false ∧ mLen 46 = 60 ∧ (60 : Int32) = nI 60 ∧ 60 ≤ 1000000 ∧ (TX7 46).2.2.2 = true ∧ parseFieldDescriptor (TX7 46).2.2.1 = some (.array .int) ∧ (36 + 1 ≤ rmX7_init.cells ∧ 9920 + 60 ≤ rmX7_init.slots) ∧ 36 + 1 ≤ 37 ∧ 9920 + 60 ≤ 9980 := by decide +kernel
set_option maxRecDepth 100000 in
set_option maxHeartbeats 40000000 in
theorem kX7_init {l : Launch} {G : JG} {D : va_G} {tys : List (ClassId × FieldType)} {a : Nat} {cI cZ cO cJ : ClassId} (hT : tys = jTy cI cZ cO cJ) : CC l G D tys yX7_init wsX7_init rmX7_init [.ref a] (mP a cI cZ []) (fun ov w2 => ∃ ad : Nat → Nat, ov = none ∧ w2 = mW a ad cI cZ mW0) := by
  refine CC_ofI (cc := cX7_init) (maxL := 1) rfl (by decide) rfl (Nat.le_of_ble_eq_true rfl) ?_
  intro X hD hL hT0 hGX hX hin0 hret
  have hT := hT0.trans hT
  refine jw_aload_n hX dX7_init_0 rfl 0 rfl ?_
  refine jw_objInit hX obX7_init ocX7_init odX7_init (by decide) (Nat.le_of_ble_eq_true rfl) dX7_init_1 ?_
  refine jw_aload_n hX dX7_init_4 rfl 0 rfl ?_
  refine jw_bipush (v := (60 : Int32)) hX dX7_init_5 (by decide) ?_
  refine jw_minitI hX hT hin0 (N := 60) 0 2 rfl mi0.1 mi0.2.1 mi0.2.2.1 mi0.2.2.2.1 mi0.2.2.2.2.1 mi0.2.2.2.2.2.1 mi0.2.2.2.2.2.2.1 mi0.2.2.2.2.2.2.2.1 mi0.2.2.2.2.2.2.2.2.1 aiX7_init inX7_init lkX7_init_7 mi0.2.2.2.2.2.2.2.2.2.1 dX7_init_7 dX7_init_9 (fun qs0 hq0 => ?_)
  refine jw_widen 1 60 mi0.2.2.2.2.2.2.2.2.2.2.1 mi0.2.2.2.2.2.2.2.2.2.2.2 ?_
  refine jw_aload_n hX dX7_init_12 rfl 0 rfl ?_
  refine jw_bipush (v := (24 : Int32)) hX dX7_init_13 (by decide) ?_
  refine jw_minitZ hX hT hin0 (N := 24) 1 4 hq0 mi1.1 mi1.2.1 mi1.2.2.1 mi1.2.2.2.1 mi1.2.2.2.2.1 mi1.2.2.2.2.2.1 mi1.2.2.2.2.2.2.1 mi1.2.2.2.2.2.2.2.1 mi1.2.2.2.2.2.2.2.2.1 azX7_init inX7_init lkX7_init_13 mi1.2.2.2.2.2.2.2.2.2.1 dX7_init_15 dX7_init_17 (fun qs1 hq1 => ?_)
  refine jw_widen 2 84 mi1.2.2.2.2.2.2.2.2.2.2.1 mi1.2.2.2.2.2.2.2.2.2.2.2 ?_
  refine jw_aload_n hX dX7_init_20 rfl 0 rfl ?_
  refine jw_bipush (v := (24 : Int32)) hX dX7_init_21 (by decide) ?_
  refine jw_minitI hX hT hin0 (N := 24) 2 5 hq1 mi2.1 mi2.2.1 mi2.2.2.1 mi2.2.2.2.1 mi2.2.2.2.2.1 mi2.2.2.2.2.2.1 mi2.2.2.2.2.2.2.1 mi2.2.2.2.2.2.2.2.1 mi2.2.2.2.2.2.2.2.2.1 aiX7_init inX7_init lkX7_init_17 mi2.2.2.2.2.2.2.2.2.2.1 dX7_init_23 dX7_init_25 (fun qs2 hq2 => ?_)
  refine jw_widen 3 108 mi2.2.2.2.2.2.2.2.2.2.2.1 mi2.2.2.2.2.2.2.2.2.2.2.2 ?_
  refine jw_aload_n hX dX7_init_28 rfl 0 rfl ?_
  refine jw_sipush (v := (1440 : Int32)) hX dX7_init_29 (by decide) ?_
  refine jw_minitI hX hT hin0 (N := 1440) 3 6 hq2 mi3.1 mi3.2.1 mi3.2.2.1 mi3.2.2.2.1 mi3.2.2.2.2.1 mi3.2.2.2.2.2.1 mi3.2.2.2.2.2.2.1 mi3.2.2.2.2.2.2.2.1 mi3.2.2.2.2.2.2.2.2.1 aiX7_init inX7_init lkX7_init_20 mi3.2.2.2.2.2.2.2.2.2.1 dX7_init_32 dX7_init_34 (fun qs3 hq3 => ?_)
  refine jw_widen 4 1548 mi3.2.2.2.2.2.2.2.2.2.2.1 mi3.2.2.2.2.2.2.2.2.2.2.2 ?_
  refine jw_aload_n hX dX7_init_37 rfl 0 rfl ?_
  refine jw_bipush (v := (24 : Int32)) hX dX7_init_38 (by decide) ?_
  refine jw_minitI hX hT hin0 (N := 24) 4 7 hq3 mi4.1 mi4.2.1 mi4.2.2.1 mi4.2.2.2.1 mi4.2.2.2.2.1 mi4.2.2.2.2.2.1 mi4.2.2.2.2.2.2.1 mi4.2.2.2.2.2.2.2.1 mi4.2.2.2.2.2.2.2.2.1 aiX7_init inX7_init lkX7_init_23 mi4.2.2.2.2.2.2.2.2.2.1 dX7_init_40 dX7_init_42 (fun qs4 hq4 => ?_)
  refine jw_widen 5 1572 mi4.2.2.2.2.2.2.2.2.2.2.1 mi4.2.2.2.2.2.2.2.2.2.2.2 ?_
  refine jw_aload_n hX dX7_init_45 rfl 0 rfl ?_
  refine jw_sipush (v := (1440 : Int32)) hX dX7_init_46 (by decide) ?_
  refine jw_minitI hX hT hin0 (N := 1440) 5 8 hq4 mi5.1 mi5.2.1 mi5.2.2.1 mi5.2.2.2.1 mi5.2.2.2.2.1 mi5.2.2.2.2.2.1 mi5.2.2.2.2.2.2.1 mi5.2.2.2.2.2.2.2.1 mi5.2.2.2.2.2.2.2.2.1 aiX7_init inX7_init lkX7_init_26 mi5.2.2.2.2.2.2.2.2.2.1 dX7_init_49 dX7_init_51 (fun qs5 hq5 => ?_)
  refine jw_widen 6 3012 mi5.2.2.2.2.2.2.2.2.2.2.1 mi5.2.2.2.2.2.2.2.2.2.2.2 ?_
  refine jw_aload_n hX dX7_init_54 rfl 0 rfl ?_
  refine jw_bipush (v := (24 : Int32)) hX dX7_init_55 (by decide) ?_
  refine jw_minitI hX hT hin0 (N := 24) 6 9 hq5 mi6.1 mi6.2.1 mi6.2.2.1 mi6.2.2.2.1 mi6.2.2.2.2.1 mi6.2.2.2.2.2.1 mi6.2.2.2.2.2.2.1 mi6.2.2.2.2.2.2.2.1 mi6.2.2.2.2.2.2.2.2.1 aiX7_init inX7_init lkX7_init_29 mi6.2.2.2.2.2.2.2.2.2.1 dX7_init_57 dX7_init_59 (fun qs6 hq6 => ?_)
  refine jw_widen 7 3036 mi6.2.2.2.2.2.2.2.2.2.2.1 mi6.2.2.2.2.2.2.2.2.2.2.2 ?_
  refine jw_aload_n hX dX7_init_62 rfl 0 rfl ?_
  refine jw_sipush (v := (384 : Int32)) hX dX7_init_63 (by decide) ?_
  refine jw_minitI hX hT hin0 (N := 384) 7 10 hq6 mi7.1 mi7.2.1 mi7.2.2.1 mi7.2.2.2.1 mi7.2.2.2.2.1 mi7.2.2.2.2.2.1 mi7.2.2.2.2.2.2.1 mi7.2.2.2.2.2.2.2.1 mi7.2.2.2.2.2.2.2.2.1 aiX7_init inX7_init lkX7_init_32 mi7.2.2.2.2.2.2.2.2.2.1 dX7_init_66 dX7_init_68 (fun qs7 hq7 => ?_)
  refine jw_widen 8 3420 mi7.2.2.2.2.2.2.2.2.2.2.1 mi7.2.2.2.2.2.2.2.2.2.2.2 ?_
  refine jw_aload_n hX dX7_init_71 rfl 0 rfl ?_
  refine jw_sipush (v := (384 : Int32)) hX dX7_init_72 (by decide) ?_
  refine jw_minitZ hX hT hin0 (N := 384) 8 11 hq7 mi8.1 mi8.2.1 mi8.2.2.1 mi8.2.2.2.1 mi8.2.2.2.2.1 mi8.2.2.2.2.2.1 mi8.2.2.2.2.2.2.1 mi8.2.2.2.2.2.2.2.1 mi8.2.2.2.2.2.2.2.2.1 azX7_init inX7_init lkX7_init_35 mi8.2.2.2.2.2.2.2.2.2.1 dX7_init_75 dX7_init_77 (fun qs8 hq8 => ?_)
  refine jw_widen 9 3804 mi8.2.2.2.2.2.2.2.2.2.2.1 mi8.2.2.2.2.2.2.2.2.2.2.2 ?_
  refine jw_aload_n hX dX7_init_80 rfl 0 rfl ?_
  refine jw_sipush (v := (384 : Int32)) hX dX7_init_81 (by decide) ?_
  refine jw_minitI hX hT hin0 (N := 384) 9 12 hq8 mi9.1 mi9.2.1 mi9.2.2.1 mi9.2.2.2.1 mi9.2.2.2.2.1 mi9.2.2.2.2.2.1 mi9.2.2.2.2.2.2.1 mi9.2.2.2.2.2.2.2.1 mi9.2.2.2.2.2.2.2.2.1 aiX7_init inX7_init lkX7_init_38 mi9.2.2.2.2.2.2.2.2.2.1 dX7_init_84 dX7_init_86 (fun qs9 hq9 => ?_)
  refine jw_widen 10 4188 mi9.2.2.2.2.2.2.2.2.2.2.1 mi9.2.2.2.2.2.2.2.2.2.2.2 ?_
  refine jw_aload_n hX dX7_init_89 rfl 0 rfl ?_
  refine jw_sipush (v := (384 : Int32)) hX dX7_init_90 (by decide) ?_
  refine jw_minitI hX hT hin0 (N := 384) 10 13 hq9 mi10.1 mi10.2.1 mi10.2.2.1 mi10.2.2.2.1 mi10.2.2.2.2.1 mi10.2.2.2.2.2.1 mi10.2.2.2.2.2.2.1 mi10.2.2.2.2.2.2.2.1 mi10.2.2.2.2.2.2.2.2.1 aiX7_init inX7_init lkX7_init_41 mi10.2.2.2.2.2.2.2.2.2.1 dX7_init_93 dX7_init_95 (fun qs10 hq10 => ?_)
  refine jw_widen 11 4572 mi10.2.2.2.2.2.2.2.2.2.2.1 mi10.2.2.2.2.2.2.2.2.2.2.2 ?_
  refine jw_aload_n hX dX7_init_98 rfl 0 rfl ?_
  refine jw_bipush (v := (24 : Int32)) hX dX7_init_99 (by decide) ?_
  refine jw_minitI hX hT hin0 (N := 24) 11 14 hq10 mi11.1 mi11.2.1 mi11.2.2.1 mi11.2.2.2.1 mi11.2.2.2.2.1 mi11.2.2.2.2.2.1 mi11.2.2.2.2.2.2.1 mi11.2.2.2.2.2.2.2.1 mi11.2.2.2.2.2.2.2.2.1 aiX7_init inX7_init lkX7_init_44 mi11.2.2.2.2.2.2.2.2.2.1 dX7_init_101 dX7_init_103 (fun qs11 hq11 => ?_)
  refine jw_widen 12 4596 mi11.2.2.2.2.2.2.2.2.2.2.1 mi11.2.2.2.2.2.2.2.2.2.2.2 ?_
  refine jw_aload_n hX dX7_init_106 rfl 0 rfl ?_
  refine jw_bipush (v := (8 : Int32)) hX dX7_init_107 (by decide) ?_
  refine jw_minitI hX hT hin0 (N := 8) 12 16 hq11 mi12.1 mi12.2.1 mi12.2.2.1 mi12.2.2.2.1 mi12.2.2.2.2.1 mi12.2.2.2.2.2.1 mi12.2.2.2.2.2.2.1 mi12.2.2.2.2.2.2.2.1 mi12.2.2.2.2.2.2.2.2.1 aiX7_init inX7_init lkX7_init_47 mi12.2.2.2.2.2.2.2.2.2.1 dX7_init_109 dX7_init_111 (fun qs12 hq12 => ?_)
  refine jw_widen 13 4604 mi12.2.2.2.2.2.2.2.2.2.2.1 mi12.2.2.2.2.2.2.2.2.2.2.2 ?_
  refine jw_aload_n hX dX7_init_114 rfl 0 rfl ?_
  refine jw_bipush (v := (8 : Int32)) hX dX7_init_115 (by decide) ?_
  refine jw_minitI hX hT hin0 (N := 8) 13 17 hq12 mi13.1 mi13.2.1 mi13.2.2.1 mi13.2.2.2.1 mi13.2.2.2.2.1 mi13.2.2.2.2.2.1 mi13.2.2.2.2.2.2.1 mi13.2.2.2.2.2.2.2.1 mi13.2.2.2.2.2.2.2.2.1 aiX7_init inX7_init lkX7_init_50 mi13.2.2.2.2.2.2.2.2.2.1 dX7_init_117 dX7_init_119 (fun qs13 hq13 => ?_)
  refine jw_widen 14 4612 mi13.2.2.2.2.2.2.2.2.2.2.1 mi13.2.2.2.2.2.2.2.2.2.2.2 ?_
  refine jw_aload_n hX dX7_init_122 rfl 0 rfl ?_
  refine jw_bipush (v := (8 : Int32)) hX dX7_init_123 (by decide) ?_
  refine jw_minitI hX hT hin0 (N := 8) 14 18 hq13 mi14.1 mi14.2.1 mi14.2.2.1 mi14.2.2.2.1 mi14.2.2.2.2.1 mi14.2.2.2.2.2.1 mi14.2.2.2.2.2.2.1 mi14.2.2.2.2.2.2.2.1 mi14.2.2.2.2.2.2.2.2.1 aiX7_init inX7_init lkX7_init_53 mi14.2.2.2.2.2.2.2.2.2.1 dX7_init_125 dX7_init_127 (fun qs14 hq14 => ?_)
  refine jw_widen 15 4620 mi14.2.2.2.2.2.2.2.2.2.2.1 mi14.2.2.2.2.2.2.2.2.2.2.2 ?_
  refine jw_aload_n hX dX7_init_130 rfl 0 rfl ?_
  refine jw_bipush (v := (8 : Int32)) hX dX7_init_131 (by decide) ?_
  refine jw_minitI hX hT hin0 (N := 8) 15 19 hq14 mi15.1 mi15.2.1 mi15.2.2.1 mi15.2.2.2.1 mi15.2.2.2.2.1 mi15.2.2.2.2.2.1 mi15.2.2.2.2.2.2.1 mi15.2.2.2.2.2.2.2.1 mi15.2.2.2.2.2.2.2.2.1 aiX7_init inX7_init lkX7_init_56 mi15.2.2.2.2.2.2.2.2.2.1 dX7_init_133 dX7_init_135 (fun qs15 hq15 => ?_)
  refine jw_widen 16 4628 mi15.2.2.2.2.2.2.2.2.2.2.1 mi15.2.2.2.2.2.2.2.2.2.2.2 ?_
  refine jw_aload_n hX dX7_init_138 rfl 0 rfl ?_
  refine jw_bipush (v := (8 : Int32)) hX dX7_init_139 (by decide) ?_
  refine jw_minitZ hX hT hin0 (N := 8) 16 20 hq15 mi16.1 mi16.2.1 mi16.2.2.1 mi16.2.2.2.1 mi16.2.2.2.2.1 mi16.2.2.2.2.2.1 mi16.2.2.2.2.2.2.1 mi16.2.2.2.2.2.2.2.1 mi16.2.2.2.2.2.2.2.2.1 azX7_init inX7_init lkX7_init_59 mi16.2.2.2.2.2.2.2.2.2.1 dX7_init_141 dX7_init_143 (fun qs16 hq16 => ?_)
  refine jw_widen 17 4636 mi16.2.2.2.2.2.2.2.2.2.2.1 mi16.2.2.2.2.2.2.2.2.2.2.2 ?_
  refine jw_aload_n hX dX7_init_146 rfl 0 rfl ?_
  refine jw_bipush (v := (6 : Int32)) hX dX7_init_147 (by decide) ?_
  refine jw_minitI hX hT hin0 (N := 6) 17 22 hq16 mi17.1 mi17.2.1 mi17.2.2.1 mi17.2.2.2.1 mi17.2.2.2.2.1 mi17.2.2.2.2.2.1 mi17.2.2.2.2.2.2.1 mi17.2.2.2.2.2.2.2.1 mi17.2.2.2.2.2.2.2.2.1 aiX7_init inX7_init lkX7_init_62 mi17.2.2.2.2.2.2.2.2.2.1 dX7_init_149 dX7_init_151 (fun qs17 hq17 => ?_)
  refine jw_widen 18 4642 mi17.2.2.2.2.2.2.2.2.2.2.1 mi17.2.2.2.2.2.2.2.2.2.2.2 ?_
  refine jw_aload_n hX dX7_init_154 rfl 0 rfl ?_
  refine jw_bipush (v := (6 : Int32)) hX dX7_init_155 (by decide) ?_
  refine jw_minitI hX hT hin0 (N := 6) 18 23 hq17 mi18.1 mi18.2.1 mi18.2.2.1 mi18.2.2.2.1 mi18.2.2.2.2.1 mi18.2.2.2.2.2.1 mi18.2.2.2.2.2.2.1 mi18.2.2.2.2.2.2.2.1 mi18.2.2.2.2.2.2.2.2.1 aiX7_init inX7_init lkX7_init_65 mi18.2.2.2.2.2.2.2.2.2.1 dX7_init_157 dX7_init_159 (fun qs18 hq18 => ?_)
  refine jw_widen 19 4648 mi18.2.2.2.2.2.2.2.2.2.2.1 mi18.2.2.2.2.2.2.2.2.2.2.2 ?_
  refine jw_aload_n hX dX7_init_162 rfl 0 rfl ?_
  refine jw_bipush (v := (6 : Int32)) hX dX7_init_163 (by decide) ?_
  refine jw_minitI hX hT hin0 (N := 6) 19 24 hq18 mi19.1 mi19.2.1 mi19.2.2.1 mi19.2.2.2.1 mi19.2.2.2.2.1 mi19.2.2.2.2.2.1 mi19.2.2.2.2.2.2.1 mi19.2.2.2.2.2.2.2.1 mi19.2.2.2.2.2.2.2.2.1 aiX7_init inX7_init lkX7_init_68 mi19.2.2.2.2.2.2.2.2.2.1 dX7_init_165 dX7_init_167 (fun qs19 hq19 => ?_)
  refine jw_widen 20 4654 mi19.2.2.2.2.2.2.2.2.2.2.1 mi19.2.2.2.2.2.2.2.2.2.2.2 ?_
  refine jw_aload_n hX dX7_init_170 rfl 0 rfl ?_
  refine jw_bipush (v := (6 : Int32)) hX dX7_init_171 (by decide) ?_
  refine jw_minitZ hX hT hin0 (N := 6) 20 25 hq19 mi20.1 mi20.2.1 mi20.2.2.1 mi20.2.2.2.1 mi20.2.2.2.2.1 mi20.2.2.2.2.2.1 mi20.2.2.2.2.2.2.1 mi20.2.2.2.2.2.2.2.1 mi20.2.2.2.2.2.2.2.2.1 azX7_init inX7_init lkX7_init_71 mi20.2.2.2.2.2.2.2.2.2.1 dX7_init_173 dX7_init_175 (fun qs20 hq20 => ?_)
  refine jw_widen 21 4660 mi20.2.2.2.2.2.2.2.2.2.2.1 mi20.2.2.2.2.2.2.2.2.2.2.2 ?_
  refine jw_aload_n hX dX7_init_178 rfl 0 rfl ?_
  refine jw_bipush (v := (16 : Int32)) hX dX7_init_179 (by decide) ?_
  refine jw_minitI hX hT hin0 (N := 16) 21 27 hq20 mi21.1 mi21.2.1 mi21.2.2.1 mi21.2.2.2.1 mi21.2.2.2.2.1 mi21.2.2.2.2.2.1 mi21.2.2.2.2.2.2.1 mi21.2.2.2.2.2.2.2.1 mi21.2.2.2.2.2.2.2.2.1 aiX7_init inX7_init lkX7_init_74 mi21.2.2.2.2.2.2.2.2.2.1 dX7_init_181 dX7_init_183 (fun qs21 hq21 => ?_)
  refine jw_widen 22 4676 mi21.2.2.2.2.2.2.2.2.2.2.1 mi21.2.2.2.2.2.2.2.2.2.2.2 ?_
  refine jw_aload_n hX dX7_init_186 rfl 0 rfl ?_
  refine jw_bipush (v := (16 : Int32)) hX dX7_init_187 (by decide) ?_
  refine jw_minitZ hX hT hin0 (N := 16) 22 28 hq21 mi22.1 mi22.2.1 mi22.2.2.1 mi22.2.2.2.1 mi22.2.2.2.2.1 mi22.2.2.2.2.2.1 mi22.2.2.2.2.2.2.1 mi22.2.2.2.2.2.2.2.1 mi22.2.2.2.2.2.2.2.2.1 azX7_init inX7_init lkX7_init_77 mi22.2.2.2.2.2.2.2.2.2.1 dX7_init_189 dX7_init_191 (fun qs22 hq22 => ?_)
  refine jw_widen 23 4692 mi22.2.2.2.2.2.2.2.2.2.2.1 mi22.2.2.2.2.2.2.2.2.2.2.2 ?_
  refine jw_aload_n hX dX7_init_194 rfl 0 rfl ?_
  refine jw_bipush (v := (16 : Int32)) hX dX7_init_195 (by decide) ?_
  refine jw_minitI hX hT hin0 (N := 16) 23 29 hq22 mi23.1 mi23.2.1 mi23.2.2.1 mi23.2.2.2.1 mi23.2.2.2.2.1 mi23.2.2.2.2.2.1 mi23.2.2.2.2.2.2.1 mi23.2.2.2.2.2.2.2.1 mi23.2.2.2.2.2.2.2.2.1 aiX7_init inX7_init lkX7_init_80 mi23.2.2.2.2.2.2.2.2.2.1 dX7_init_197 dX7_init_199 (fun qs23 hq23 => ?_)
  refine jw_widen 24 4708 mi23.2.2.2.2.2.2.2.2.2.2.1 mi23.2.2.2.2.2.2.2.2.2.2.2 ?_
  refine jw_aload_n hX dX7_init_202 rfl 0 rfl ?_
  refine jw_bipush (v := (16 : Int32)) hX dX7_init_203 (by decide) ?_
  refine jw_minitI hX hT hin0 (N := 16) 24 30 hq23 mi24.1 mi24.2.1 mi24.2.2.1 mi24.2.2.2.1 mi24.2.2.2.2.1 mi24.2.2.2.2.2.1 mi24.2.2.2.2.2.2.1 mi24.2.2.2.2.2.2.2.1 mi24.2.2.2.2.2.2.2.2.1 aiX7_init inX7_init lkX7_init_83 mi24.2.2.2.2.2.2.2.2.2.1 dX7_init_205 dX7_init_207 (fun qs24 hq24 => ?_)
  refine jw_widen 25 4724 mi24.2.2.2.2.2.2.2.2.2.2.1 mi24.2.2.2.2.2.2.2.2.2.2.2 ?_
  refine jw_aload_n hX dX7_init_210 rfl 0 rfl ?_
  refine jw_bipush (v := (64 : Int32)) hX dX7_init_211 (by decide) ?_
  refine jw_minitZ hX hT hin0 (N := 64) 25 32 hq24 mi25.1 mi25.2.1 mi25.2.2.1 mi25.2.2.2.1 mi25.2.2.2.2.1 mi25.2.2.2.2.2.1 mi25.2.2.2.2.2.2.1 mi25.2.2.2.2.2.2.2.1 mi25.2.2.2.2.2.2.2.2.1 azX7_init inX7_init lkX7_init_86 mi25.2.2.2.2.2.2.2.2.2.1 dX7_init_213 dX7_init_215 (fun qs25 hq25 => ?_)
  refine jw_widen 26 4788 mi25.2.2.2.2.2.2.2.2.2.2.1 mi25.2.2.2.2.2.2.2.2.2.2.2 ?_
  refine jw_aload_n hX dX7_init_218 rfl 0 rfl ?_
  refine jw_bipush (v := (64 : Int32)) hX dX7_init_219 (by decide) ?_
  refine jw_minitI hX hT hin0 (N := 64) 26 33 hq25 mi26.1 mi26.2.1 mi26.2.2.1 mi26.2.2.2.1 mi26.2.2.2.2.1 mi26.2.2.2.2.2.1 mi26.2.2.2.2.2.2.1 mi26.2.2.2.2.2.2.2.1 mi26.2.2.2.2.2.2.2.2.1 aiX7_init inX7_init lkX7_init_89 mi26.2.2.2.2.2.2.2.2.2.1 dX7_init_221 dX7_init_223 (fun qs26 hq26 => ?_)
  refine jw_widen 27 4852 mi26.2.2.2.2.2.2.2.2.2.2.1 mi26.2.2.2.2.2.2.2.2.2.2.2 ?_
  refine jw_aload_n hX dX7_init_226 rfl 0 rfl ?_
  refine jw_bipush (v := (64 : Int32)) hX dX7_init_227 (by decide) ?_
  refine jw_minitI hX hT hin0 (N := 64) 27 34 hq26 mi27.1 mi27.2.1 mi27.2.2.1 mi27.2.2.2.1 mi27.2.2.2.2.1 mi27.2.2.2.2.2.1 mi27.2.2.2.2.2.2.1 mi27.2.2.2.2.2.2.2.1 mi27.2.2.2.2.2.2.2.2.1 aiX7_init inX7_init lkX7_init_92 mi27.2.2.2.2.2.2.2.2.2.1 dX7_init_229 dX7_init_231 (fun qs27 hq27 => ?_)
  refine jw_widen 28 4916 mi27.2.2.2.2.2.2.2.2.2.2.1 mi27.2.2.2.2.2.2.2.2.2.2.2 ?_
  refine jw_aload_n hX dX7_init_234 rfl 0 rfl ?_
  refine jw_bipush (v := (64 : Int32)) hX dX7_init_235 (by decide) ?_
  refine jw_minitI hX hT hin0 (N := 64) 28 35 hq27 mi28.1 mi28.2.1 mi28.2.2.1 mi28.2.2.2.1 mi28.2.2.2.2.1 mi28.2.2.2.2.2.1 mi28.2.2.2.2.2.2.1 mi28.2.2.2.2.2.2.2.1 mi28.2.2.2.2.2.2.2.2.1 aiX7_init inX7_init lkX7_init_95 mi28.2.2.2.2.2.2.2.2.2.1 dX7_init_237 dX7_init_239 (fun qs28 hq28 => ?_)
  refine jw_widen 29 4980 mi28.2.2.2.2.2.2.2.2.2.2.1 mi28.2.2.2.2.2.2.2.2.2.2.2 ?_
  refine jw_aload_n hX dX7_init_242 rfl 0 rfl ?_
  refine jw_bipush (v := (64 : Int32)) hX dX7_init_243 (by decide) ?_
  refine jw_minitI hX hT hin0 (N := 64) 29 36 hq28 mi29.1 mi29.2.1 mi29.2.2.1 mi29.2.2.2.1 mi29.2.2.2.2.1 mi29.2.2.2.2.2.1 mi29.2.2.2.2.2.2.1 mi29.2.2.2.2.2.2.2.1 mi29.2.2.2.2.2.2.2.2.1 aiX7_init inX7_init lkX7_init_98 mi29.2.2.2.2.2.2.2.2.2.1 dX7_init_245 dX7_init_247 (fun qs29 hq29 => ?_)
  refine jw_widen 30 5044 mi29.2.2.2.2.2.2.2.2.2.2.1 mi29.2.2.2.2.2.2.2.2.2.2.2 ?_
  refine jw_aload_n hX dX7_init_250 rfl 0 rfl ?_
  refine jw_bipush (v := (64 : Int32)) hX dX7_init_251 (by decide) ?_
  refine jw_minitI hX hT hin0 (N := 64) 30 37 hq29 mi30.1 mi30.2.1 mi30.2.2.1 mi30.2.2.2.1 mi30.2.2.2.2.1 mi30.2.2.2.2.2.1 mi30.2.2.2.2.2.2.1 mi30.2.2.2.2.2.2.2.1 mi30.2.2.2.2.2.2.2.2.1 aiX7_init inX7_init lkX7_init_101 mi30.2.2.2.2.2.2.2.2.2.1 dX7_init_253 dX7_init_255 (fun qs30 hq30 => ?_)
  refine jw_widen 31 5108 mi30.2.2.2.2.2.2.2.2.2.2.1 mi30.2.2.2.2.2.2.2.2.2.2.2 ?_
  refine jw_aload_n hX dX7_init_258 rfl 0 rfl ?_
  refine jw_sipush (v := (512 : Int32)) hX dX7_init_259 (by decide) ?_
  refine jw_minitI hX hT hin0 (N := 512) 31 39 hq30 mi31.1 mi31.2.1 mi31.2.2.1 mi31.2.2.2.1 mi31.2.2.2.2.1 mi31.2.2.2.2.2.1 mi31.2.2.2.2.2.2.1 mi31.2.2.2.2.2.2.2.1 mi31.2.2.2.2.2.2.2.2.1 aiX7_init inX7_init lkX7_init_104 mi31.2.2.2.2.2.2.2.2.2.1 dX7_init_262 dX7_init_264 (fun qs31 hq31 => ?_)
  refine jw_widen 32 5620 mi31.2.2.2.2.2.2.2.2.2.2.1 mi31.2.2.2.2.2.2.2.2.2.2.2 ?_
  refine jw_aload_n hX dX7_init_267 rfl 0 rfl ?_
  refine jw_sipush (v := (4096 : Int32)) hX dX7_init_268 (by decide) ?_
  refine jw_minitI hX hT hin0 (N := 4096) 32 41 hq31 mi32.1 mi32.2.1 mi32.2.2.1 mi32.2.2.2.1 mi32.2.2.2.2.1 mi32.2.2.2.2.2.1 mi32.2.2.2.2.2.2.1 mi32.2.2.2.2.2.2.2.1 mi32.2.2.2.2.2.2.2.2.1 aiX7_init inX7_init lkX7_init_107 mi32.2.2.2.2.2.2.2.2.2.1 dX7_init_271 dX7_init_273 (fun qs32 hq32 => ?_)
  refine jw_widen 33 9716 mi32.2.2.2.2.2.2.2.2.2.2.1 mi32.2.2.2.2.2.2.2.2.2.2.2 ?_
  refine jw_aload_n hX dX7_init_276 rfl 0 rfl ?_
  refine jw_bipush (v := (6 : Int32)) hX dX7_init_277 (by decide) ?_
  refine jw_minitI hX hT hin0 (N := 6) 33 42 hq32 mi33.1 mi33.2.1 mi33.2.2.1 mi33.2.2.2.1 mi33.2.2.2.2.1 mi33.2.2.2.2.2.1 mi33.2.2.2.2.2.2.1 mi33.2.2.2.2.2.2.2.1 mi33.2.2.2.2.2.2.2.2.1 aiX7_init inX7_init lkX7_init_110 mi33.2.2.2.2.2.2.2.2.2.1 dX7_init_279 dX7_init_281 (fun qs33 hq33 => ?_)
  refine jw_widen 34 9722 mi33.2.2.2.2.2.2.2.2.2.2.1 mi33.2.2.2.2.2.2.2.2.2.2.2 ?_
  refine jw_aload_n hX dX7_init_284 rfl 0 rfl ?_
  refine jw_sipush (v := (192 : Int32)) hX dX7_init_285 (by decide) ?_
  refine jw_minitI hX hT hin0 (N := 192) 34 43 hq33 mi34.1 mi34.2.1 mi34.2.2.1 mi34.2.2.2.1 mi34.2.2.2.2.1 mi34.2.2.2.2.2.1 mi34.2.2.2.2.2.2.1 mi34.2.2.2.2.2.2.2.1 mi34.2.2.2.2.2.2.2.2.1 aiX7_init inX7_init lkX7_init_113 mi34.2.2.2.2.2.2.2.2.2.1 dX7_init_288 dX7_init_290 (fun qs34 hq34 => ?_)
  refine jw_widen 35 9914 mi34.2.2.2.2.2.2.2.2.2.2.1 mi34.2.2.2.2.2.2.2.2.2.2.2 ?_
  refine jw_aload_n hX dX7_init_293 rfl 0 rfl ?_
  refine jw_bipush (v := (6 : Int32)) hX dX7_init_294 (by decide) ?_
  refine jw_minitI hX hT hin0 (N := 6) 35 44 hq34 mi35.1 mi35.2.1 mi35.2.2.1 mi35.2.2.2.1 mi35.2.2.2.2.1 mi35.2.2.2.2.2.1 mi35.2.2.2.2.2.2.1 mi35.2.2.2.2.2.2.2.1 mi35.2.2.2.2.2.2.2.2.1 aiX7_init inX7_init lkX7_init_116 mi35.2.2.2.2.2.2.2.2.2.1 dX7_init_296 dX7_init_298 (fun qs35 hq35 => ?_)
  refine jw_widen 36 9920 mi35.2.2.2.2.2.2.2.2.2.2.1 mi35.2.2.2.2.2.2.2.2.2.2.2 ?_
  refine jw_aload_n hX dX7_init_301 rfl 0 rfl ?_
  refine jw_bipush (v := (60 : Int32)) hX dX7_init_302 (by decide) ?_
  refine jw_minitI hX hT hin0 (N := 60) 36 46 hq35 mi36.1 mi36.2.1 mi36.2.2.1 mi36.2.2.2.1 mi36.2.2.2.2.1 mi36.2.2.2.2.2.1 mi36.2.2.2.2.2.2.1 mi36.2.2.2.2.2.2.2.1 mi36.2.2.2.2.2.2.2.2.1 aiX7_init inX7_init lkX7_init_119 mi36.2.2.2.2.2.2.2.2.2.1 dX7_init_304 dX7_init_306 (fun qs36 hq36 => ?_)
  refine jw_widen 37 9980 mi36.2.2.2.2.2.2.2.2.2.2.1 mi36.2.2.2.2.2.2.2.2.2.2.2 ?_
  exact hret _ _ _ _ _ (Nat.le_of_ble_eq_true rfl) (Nat.le_of_ble_eq_true rfl) dX7_init_309 ⟨_, rfl, mP_all hq36⟩
