/-! the reference's constructor: its 37 rows one behind another -/
def mIx (k : Nat) : Nat := mKs.idxOf k
def mW0 : MW := (fun _ => 0, fun _ _ => 0)
def mV (qs : List Nat) (k : Nat) : Value := if mSc k = true then .int 0 else match qs[mIx k]? with
  | some q => .ref q
  | none => .null
def mPF (qs : List Nat) : List Value := (List.range 47).map (mV qs)
def mP (a : Nat) (cI cZ : ClassId) (qs : List Nat) : va_W := (a, .inr (7, mPF qs)) :: (List.range qs.length).map (fun j => (qs.getD j 0, mE cI cZ mW0 (mKs.getD j 0)))
theorem mIx_at0 : ∀ j, j < 37 → mIx (mKs.getD j 0) = j ∧ mSc (mKs.getD j 0) = false ∧ mKs.getD j 0 < 47 := by decide +kernel
theorem mIx_of0 : ∀ i, i < 47 → mSc i = false → mIx i < 37 ∧ mKs.getD (mIx i) 0 = i := by decide +kernel
theorem mPF_set {qs : List Nat} {q k : Nat} (hj : qs.length < 37) (hk : mKs.getD qs.length 0 = k) : (mPF qs).set k (.ref q) = mPF (qs ++ [q]) := by
  obtain ⟨h1, h2, h3⟩ := mIx_at0 qs.length hj
  rw [hk] at h1 h2 h3
  apply List.ext_getElem?
  intro i
  rw [List.getElem?_set]
  by_cases hi : k = i
  · subst hi
    have hlen : k < (mPF qs).length := by simp [mPF]; exact h3
    rw [if_pos rfl, if_pos hlen]
    simp only [mPF, List.getElem?_map, List.getElem?_range h3, Option.map_some, mV, h2, h1]
    simp
  · rw [if_neg hi]
    by_cases hi2 : i < 47
    · simp only [mPF, List.getElem?_map, List.getElem?_range hi2, Option.map_some]
      congr 1
      unfold mV
      by_cases hs : mSc i = true
      · rw [if_pos hs, if_pos hs]
      · rw [if_neg hs, if_neg hs]
        obtain ⟨g1, g2⟩ := mIx_of0 i hi2 (by simpa using hs)
        have hne : mIx i ≠ qs.length := by
          intro h
          rw [h, hk] at g2
          exact hi g2
        have : (qs ++ [q])[mIx i]? = qs[mIx i]? := by
          rcases Nat.lt_or_ge (mIx i) qs.length with h | h
          · rw [List.getElem?_append_left h]
          · rw [List.getElem?_eq_none (by simp; omega), List.getElem?_eq_none h]
        rw [this]
    · rw [List.getElem?_eq_none (by simp [mPF]; omega), List.getElem?_eq_none (by simp [mPF]; omega)]
theorem mP_push {a q k : Nat} {cI cZ : ClassId} {qs : List Nat} (hj : qs.length < 37) (hk : mKs.getD qs.length 0 = k) : (mP a cI cZ qs ++ [(q, mE cI cZ mW0 k)]).set 0 (a, .inr (7, (mPF qs).set k (.ref q))) = mP a cI cZ (qs ++ [q]) := by
  unfold mP
  rw [List.cons_append, List.set_cons_zero, mPF_set hj hk]
  congr 1
  rw [List.length_append, List.length_singleton, List.range_succ, List.map_append]
  congr 1
  · refine List.map_congr_left (fun j hj2 => ?_)
    have hlt : j < qs.length := List.mem_range.mp hj2
    simp only [List.getD_eq_getElem?_getD, List.getElem?_append_left hlt]
  · simp only [List.map_cons, List.map_nil, hk]
    simp [List.getD_eq_getElem?_getD]
theorem mP_all {a : Nat} {cI cZ : ClassId} {qs : List Nat} (hj : qs.length = 37) : mP a cI cZ qs = mW a (fun k => qs.getD (mIx k) 0) cI cZ mW0 := by
  unfold mP mW
  congr 1
  · refine congrArg (fun z => (a, (Sum.inr (7, z) : va_E))) ?_
    unfold mPF mF
    refine List.map_congr_left (fun i hi => ?_)
    have hi2 : i < 47 := List.mem_range.mp hi
    unfold mV
    by_cases hs : mSc i = true
    · rw [if_pos hs, if_pos hs]
      rfl
    · rw [if_neg hs, if_neg hs]
      obtain ⟨g1, -⟩ := mIx_of0 i hi2 (by simpa using hs)
      have hlt : mIx i < qs.length := by omega
      rw [List.getElem?_eq_getElem hlt, List.getD_eq_getElem?_getD, List.getElem?_eq_getElem hlt]
      rfl
  · rw [hj]
    have hks : mKs = (List.range 37).map (fun j => mKs.getD j 0) := by decide +kernel
    conv => rhs; rw [hks]
    rw [List.map_map]
    refine List.map_congr_left (fun j hj2 => ?_)
    have hlt : j < 37 := List.mem_range.mp hj2
    simp only [Function.comp, (mIx_at0 j hlt).1]
theorem jw_minitI {X : JX} {cells slots : Nat} {a : Nat} {cI cZ cO cJ : ClassId} {pc : Nat} {lv : List (Nat × Value)} {rest : List Value} {cc : ByteArray} {nL : Nat} {Ts : List Cond} {rm : Room} (hX : jOK X cc nL Ts RX7 rm) (hT : jT X = jTy cI cZ cO cJ) (hin0 : jInit X) {qs : List Nat} {n : Int32} {N : Nat} (j k : Nat) (hj : qs.length = j) (hj37 : j < 37) (hk : mKs.getD j 0 = k) (hk47 : k < 47) (hbo : mBo k = false) (hN : mLen k = N) (hn : n = nI N) (hbig : N ≤ 1000000) (hfin : (TX7 k).2.2.2 = true) (hpd : parseFieldDescriptor (TX7 k).2.2.1 = some (.array .int)) (harr : Cond.arrayClass .int ∈ Ts) (hin : ∀ w ∈ wsX70, w ∈ Ts) {idx : Nat} (hlink : Cond.fieldLink RX7 idx "PostlintModel" (TX7 k).2.1 (TX7 k).2.2.1 ∈ Ts) (hcs : cells + 1 ≤ rm.cells ∧ slots + N ≤ rm.slots) (d2 : decode cc pc = .ok (.newarray .int, 2)) (d3 : decode cc (pc + 2) = .ok (.putfield idx, 3))
    (kk : ∀ q : Nat, JW X (cells + 1) (slots + N) (mP a cI cZ (qs ++ [q])) (pc + 2 + 3) lv rest) : JW X cells slots (mP a cI cZ qs) pc lv (.int n :: .ref a :: rest) := by
  obtain ⟨p, l, e, R, s, m, args, below, meth, c, D, A, nL9, Q, tys⟩ := X
  obtain ⟨⟨hx, hb, hml, hown, hts⟩, rfl, hK, hA, hlk, rfl⟩ := hX
  obtain rfl : tys = jTy cI cZ cO cJ := hT
  subst hj
  intro H locs ls hP hD hS hl
  have hcl9 : (if mBo k = true then cZ else cI) = cI := by rw [hbo]; rfl
  refine va_newa (atype := .int) (ty := .int) (a0 := (N, .inl (fun _ => 0))) hx hb (hts _ harr) rfl hK hP hD hS hA (fun cA => rfl) (by rw [hn]; exact nI_pos (by omega)) (by rw [hn]; exact nI_clamp (by omega)) (by show N * _ ≤ 536870912; simp only [componentBytes]; omega) hcs.1 hcs.2 d2 (fun q cA H1 hK1 hP1 hD1 hS1 => ?_)
  have hcA : cA = cI := by
    have h1 := (hK1.2 4 (cA, .int) rfl).2
    have h2 := (hK1.2 0 (cI, .int) rfl).2
    exact Option.some.inj (h1.symm.trans h2)
  subst hcA
  have hcell : (Sum.inl (cA, N, Sum.inl (fun _ => (0 : Int32))) : va_E) = mE cA cZ mW0 k := by
    unfold mE
    rw [hcl9, hN]
    rfl
  rw [hcell] at hP1 hD1
  refine va_putF (D := D) (ci := 7) (v := .ref q) (ty := .array .int) (C := RX7) (T := TX7) (N := 47) hx hb hts hin tyX7 tyX7_ok nmX7 hown hK hP1 hD1 hS1 0 rfl rfl k hk47 (hts _ hlink) (fun x9 h9 => by rw [mTX7 hk47] at h9; exact h9) hfin hin0 (mTX7 hk47) hpd rfl rfl (by simp [mPF]; exact hk47) d3 (fun H2 locs2 hP2 hD2 hS2 => ?_)
  rw [mP_push hj37 hk] at hP2 hD2
  exact kk q H2 locs2 ls hP2 hD2 hS2 hl
theorem jw_minitZ {X : JX} {cells slots : Nat} {a : Nat} {cI cZ cO cJ : ClassId} {pc : Nat} {lv : List (Nat × Value)} {rest : List Value} {cc : ByteArray} {nL : Nat} {Ts : List Cond} {rm : Room} (hX : jOK X cc nL Ts RX7 rm) (hT : jT X = jTy cI cZ cO cJ) (hin0 : jInit X) {qs : List Nat} {n : Int32} {N : Nat} (j k : Nat) (hj : qs.length = j) (hj37 : j < 37) (hk : mKs.getD j 0 = k) (hk47 : k < 47) (hbo : mBo k = true) (hN : mLen k = N) (hn : n = nI N) (hbig : N ≤ 1000000) (hfin : (TX7 k).2.2.2 = true) (hpd : parseFieldDescriptor (TX7 k).2.2.1 = some (.array .boolean)) (harr : Cond.arrayClass .boolean ∈ Ts) (hin : ∀ w ∈ wsX70, w ∈ Ts) {idx : Nat} (hlink : Cond.fieldLink RX7 idx "PostlintModel" (TX7 k).2.1 (TX7 k).2.2.1 ∈ Ts) (hcs : cells + 1 ≤ rm.cells ∧ slots + N ≤ rm.slots) (d2 : decode cc pc = .ok (.newarray .boolean, 2)) (d3 : decode cc (pc + 2) = .ok (.putfield idx, 3))
    (kk : ∀ q : Nat, JW X (cells + 1) (slots + N) (mP a cI cZ (qs ++ [q])) (pc + 2 + 3) lv rest) : JW X cells slots (mP a cI cZ qs) pc lv (.int n :: .ref a :: rest) := by
  obtain ⟨p, l, e, R, s, m, args, below, meth, c, D, A, nL9, Q, tys⟩ := X
  obtain ⟨⟨hx, hb, hml, hown, hts⟩, rfl, hK, hA, hlk, rfl⟩ := hX
  obtain rfl : tys = jTy cI cZ cO cJ := hT
  subst hj
  intro H locs ls hP hD hS hl
  have hcl9 : (if mBo k = true then cZ else cI) = cZ := by rw [hbo]; rfl
  refine va_newa (atype := .boolean) (ty := .boolean) (a0 := (N, .inl (fun _ => 0))) hx hb (hts _ harr) rfl hK hP hD hS hA (fun cA => rfl) (by rw [hn]; exact nI_pos (by omega)) (by rw [hn]; exact nI_clamp (by omega)) (by show N * _ ≤ 536870912; simp only [componentBytes]; omega) hcs.1 hcs.2 d2 (fun q cA H1 hK1 hP1 hD1 hS1 => ?_)
  have hcA : cA = cZ := by
    have h1 := (hK1.2 4 (cA, .boolean) rfl).2
    have h2 := (hK1.2 1 (cZ, .boolean) rfl).2
    exact Option.some.inj (h1.symm.trans h2)
  subst hcA
  have hcell : (Sum.inl (cA, N, Sum.inl (fun _ => (0 : Int32))) : va_E) = mE cI cA mW0 k := by
    unfold mE
    rw [hcl9, hN]
    rfl
  rw [hcell] at hP1 hD1
  refine va_putF (D := D) (ci := 7) (v := .ref q) (ty := .array .boolean) (C := RX7) (T := TX7) (N := 47) hx hb hts hin tyX7 tyX7_ok nmX7 hown hK hP1 hD1 hS1 0 rfl rfl k hk47 (hts _ hlink) (fun x9 h9 => by rw [mTX7 hk47] at h9; exact h9) hfin hin0 (mTX7 hk47) hpd rfl rfl (by simp [mPF]; exact hk47) d3 (fun H2 locs2 hP2 hD2 hS2 => ?_)
  rw [mP_push hj37 hk] at hP2 hD2
  exact kk q H2 locs2 ls hP2 hD2 hS2 hl
abbrev rmX7_init : Room := { frames := 1, cells := 37, slots := 9980, locals := 40 }
theorem hdX7_init : yX7_init.cls ≠ "java/lang/invoke/MethodHandle" ∧ yX7_init.cls ≠ "java/lang/invoke/VarHandle" ∧ (parseMethodDescriptor yX7_init.desc).map (fun d => d.parameters.length) = some 0 := by decide +kernel
theorem inX7_init : ∀ w ∈ wsX70, w ∈ wsX7_init := fun _ h => List.mem_cons_of_mem _ (List.mem_append_right _ h)
theorem obX7_init : Cond.methodLink RX7 1 Lib.objectInit ∈ wsX7_init := by decide +kernel
theorem ocX7_init : Cond.instanceMethod Lib.objectInit ∈ wsX7_init := by decide +kernel
theorem odX7_init : Cond.code Lib.objectInit ⟨#[0xb1]⟩ 1 none ∈ wsX7_init := by decide +kernel
theorem aiX7_init : Cond.arrayClass .int ∈ wsX7_init := by decide +kernel
theorem azX7_init : Cond.arrayClass .boolean ∈ wsX7_init := by decide +kernel
theorem lkX7_init_7 : Cond.fieldLink RX7 7 "PostlintModel" (TX7 2).2.1 (TX7 2).2.2.1 ∈ wsX7_init := by decide +kernel
theorem mi0 : 0 < 37 ∧ mKs.getD 0 0 = 2 ∧ 2 < 47 ∧ mBo 2 = false ∧ mLen 2 = 60 ∧ (60 : Int32) = nI 60 ∧ 60 ≤ 1000000 ∧ (TX7 2).2.2.2 = true ∧ parseFieldDescriptor (TX7 2).2.2.1 = some (.array .int) ∧ (0 + 1 ≤ rmX7_init.cells ∧ 0 + 60 ≤ rmX7_init.slots) ∧ 0 + 1 ≤ 1 ∧ 0 + 60 ≤ 60 := by decide +kernel
theorem lkX7_init_13 : Cond.fieldLink RX7 13 "PostlintModel" (TX7 4).2.1 (TX7 4).2.2.1 ∈ wsX7_init := by decide +kernel
theorem mi1 : 1 < 37 ∧ mKs.getD 1 0 = 4 ∧ 4 < 47 ∧ mBo 4 = true ∧ mLen 4 = 24 ∧ (24 : Int32) = nI 24 ∧ 24 ≤ 1000000 ∧ (TX7 4).2.2.2 = true ∧ parseFieldDescriptor (TX7 4).2.2.1 = some (.array .boolean) ∧ (1 + 1 ≤ rmX7_init.cells ∧ 60 + 24 ≤ rmX7_init.slots) ∧ 1 + 1 ≤ 2 ∧ 60 + 24 ≤ 84 := by decide +kernel
theorem lkX7_init_17 : Cond.fieldLink RX7 17 "PostlintModel" (TX7 5).2.1 (TX7 5).2.2.1 ∈ wsX7_init := by decide +kernel
theorem mi2 : 2 < 37 ∧ mKs.getD 2 0 = 5 ∧ 5 < 47 ∧ mBo 5 = false ∧ mLen 5 = 24 ∧ (24 : Int32) = nI 24 ∧ 24 ≤ 1000000 ∧ (TX7 5).2.2.2 = true ∧ parseFieldDescriptor (TX7 5).2.2.1 = some (.array .int) ∧ (2 + 1 ≤ rmX7_init.cells ∧ 84 + 24 ≤ rmX7_init.slots) ∧ 2 + 1 ≤ 3 ∧ 84 + 24 ≤ 108 := by decide +kernel
theorem lkX7_init_20 : Cond.fieldLink RX7 20 "PostlintModel" (TX7 6).2.1 (TX7 6).2.2.1 ∈ wsX7_init := by decide +kernel
theorem mi3 : 3 < 37 ∧ mKs.getD 3 0 = 6 ∧ 6 < 47 ∧ mBo 6 = false ∧ mLen 6 = 1440 ∧ (1440 : Int32) = nI 1440 ∧ 1440 ≤ 1000000 ∧ (TX7 6).2.2.2 = true ∧ parseFieldDescriptor (TX7 6).2.2.1 = some (.array .int) ∧ (3 + 1 ≤ rmX7_init.cells ∧ 108 + 1440 ≤ rmX7_init.slots) ∧ 3 + 1 ≤ 4 ∧ 108 + 1440 ≤ 1548 := by decide +kernel
theorem lkX7_init_23 : Cond.fieldLink RX7 23 "PostlintModel" (TX7 7).2.1 (TX7 7).2.2.1 ∈ wsX7_init := by decide +kernel
theorem mi4 : 4 < 37 ∧ mKs.getD 4 0 = 7 ∧ 7 < 47 ∧ mBo 7 = false ∧ mLen 7 = 24 ∧ (24 : Int32) = nI 24 ∧ 24 ≤ 1000000 ∧ (TX7 7).2.2.2 = true ∧ parseFieldDescriptor (TX7 7).2.2.1 = some (.array .int) ∧ (4 + 1 ≤ rmX7_init.cells ∧ 1548 + 24 ≤ rmX7_init.slots) ∧ 4 + 1 ≤ 5 ∧ 1548 + 24 ≤ 1572 := by decide +kernel
theorem lkX7_init_26 : Cond.fieldLink RX7 26 "PostlintModel" (TX7 8).2.1 (TX7 8).2.2.1 ∈ wsX7_init := by decide +kernel
theorem mi5 : 5 < 37 ∧ mKs.getD 5 0 = 8 ∧ 8 < 47 ∧ mBo 8 = false ∧ mLen 8 = 1440 ∧ (1440 : Int32) = nI 1440 ∧ 1440 ≤ 1000000 ∧ (TX7 8).2.2.2 = true ∧ parseFieldDescriptor (TX7 8).2.2.1 = some (.array .int) ∧ (5 + 1 ≤ rmX7_init.cells ∧ 1572 + 1440 ≤ rmX7_init.slots) ∧ 5 + 1 ≤ 6 ∧ 1572 + 1440 ≤ 3012 := by decide +kernel
theorem lkX7_init_29 : Cond.fieldLink RX7 29 "PostlintModel" (TX7 9).2.1 (TX7 9).2.2.1 ∈ wsX7_init := by decide +kernel
theorem mi6 : 6 < 37 ∧ mKs.getD 6 0 = 9 ∧ 9 < 47 ∧ mBo 9 = false ∧ mLen 9 = 24 ∧ (24 : Int32) = nI 24 ∧ 24 ≤ 1000000 ∧ (TX7 9).2.2.2 = true ∧ parseFieldDescriptor (TX7 9).2.2.1 = some (.array .int) ∧ (6 + 1 ≤ rmX7_init.cells ∧ 3012 + 24 ≤ rmX7_init.slots) ∧ 6 + 1 ≤ 7 ∧ 3012 + 24 ≤ 3036 := by decide +kernel
theorem lkX7_init_32 : Cond.fieldLink RX7 32 "PostlintModel" (TX7 10).2.1 (TX7 10).2.2.1 ∈ wsX7_init := by decide +kernel
theorem mi7 : 7 < 37 ∧ mKs.getD 7 0 = 10 ∧ 10 < 47 ∧ mBo 10 = false ∧ mLen 10 = 384 ∧ (384 : Int32) = nI 384 ∧ 384 ≤ 1000000 ∧ (TX7 10).2.2.2 = true ∧ parseFieldDescriptor (TX7 10).2.2.1 = some (.array .int) ∧ (7 + 1 ≤ rmX7_init.cells ∧ 3036 + 384 ≤ rmX7_init.slots) ∧ 7 + 1 ≤ 8 ∧ 3036 + 384 ≤ 3420 := by decide +kernel
theorem lkX7_init_35 : Cond.fieldLink RX7 35 "PostlintModel" (TX7 11).2.1 (TX7 11).2.2.1 ∈ wsX7_init := by decide +kernel
theorem mi8 : 8 < 37 ∧ mKs.getD 8 0 = 11 ∧ 11 < 47 ∧ mBo 11 = true ∧ mLen 11 = 384 ∧ (384 : Int32) = nI 384 ∧ 384 ≤ 1000000 ∧ (TX7 11).2.2.2 = true ∧ parseFieldDescriptor (TX7 11).2.2.1 = some (.array .boolean) ∧ (8 + 1 ≤ rmX7_init.cells ∧ 3420 + 384 ≤ rmX7_init.slots) ∧ 8 + 1 ≤ 9 ∧ 3420 + 384 ≤ 3804 := by decide +kernel
theorem lkX7_init_38 : Cond.fieldLink RX7 38 "PostlintModel" (TX7 12).2.1 (TX7 12).2.2.1 ∈ wsX7_init := by decide +kernel
theorem mi9 : 9 < 37 ∧ mKs.getD 9 0 = 12 ∧ 12 < 47 ∧ mBo 12 = false ∧ mLen 12 = 384 ∧ (384 : Int32) = nI 384 ∧ 384 ≤ 1000000 ∧ (TX7 12).2.2.2 = true ∧ parseFieldDescriptor (TX7 12).2.2.1 = some (.array .int) ∧ (9 + 1 ≤ rmX7_init.cells ∧ 3804 + 384 ≤ rmX7_init.slots) ∧ 9 + 1 ≤ 10 ∧ 3804 + 384 ≤ 4188 := by decide +kernel
theorem lkX7_init_41 : Cond.fieldLink RX7 41 "PostlintModel" (TX7 13).2.1 (TX7 13).2.2.1 ∈ wsX7_init := by decide +kernel
theorem mi10 : 10 < 37 ∧ mKs.getD 10 0 = 13 ∧ 13 < 47 ∧ mBo 13 = false ∧ mLen 13 = 384 ∧ (384 : Int32) = nI 384 ∧ 384 ≤ 1000000 ∧ (TX7 13).2.2.2 = true ∧ parseFieldDescriptor (TX7 13).2.2.1 = some (.array .int) ∧ (10 + 1 ≤ rmX7_init.cells ∧ 4188 + 384 ≤ rmX7_init.slots) ∧ 10 + 1 ≤ 11 ∧ 4188 + 384 ≤ 4572 := by decide +kernel
theorem lkX7_init_44 : Cond.fieldLink RX7 44 "PostlintModel" (TX7 14).2.1 (TX7 14).2.2.1 ∈ wsX7_init := by decide +kernel
theorem mi11 : 11 < 37 ∧ mKs.getD 11 0 = 14 ∧ 14 < 47 ∧ mBo 14 = false ∧ mLen 14 = 24 ∧ (24 : Int32) = nI 24 ∧ 24 ≤ 1000000 ∧ (TX7 14).2.2.2 = true ∧ parseFieldDescriptor (TX7 14).2.2.1 = some (.array .int) ∧ (11 + 1 ≤ rmX7_init.cells ∧ 4572 + 24 ≤ rmX7_init.slots) ∧ 11 + 1 ≤ 12 ∧ 4572 + 24 ≤ 4596 := by decide +kernel
theorem lkX7_init_47 : Cond.fieldLink RX7 47 "PostlintModel" (TX7 16).2.1 (TX7 16).2.2.1 ∈ wsX7_init := by decide +kernel
theorem mi12 : 12 < 37 ∧ mKs.getD 12 0 = 16 ∧ 16 < 47 ∧ mBo 16 = false ∧ mLen 16 = 8 ∧ (8 : Int32) = nI 8 ∧ 8 ≤ 1000000 ∧ (TX7 16).2.2.2 = true ∧ parseFieldDescriptor (TX7 16).2.2.1 = some (.array .int) ∧ (12 + 1 ≤ rmX7_init.cells ∧ 4596 + 8 ≤ rmX7_init.slots) ∧ 12 + 1 ≤ 13 ∧ 4596 + 8 ≤ 4604 := by decide +kernel
theorem lkX7_init_50 : Cond.fieldLink RX7 50 "PostlintModel" (TX7 17).2.1 (TX7 17).2.2.1 ∈ wsX7_init := by decide +kernel
theorem mi13 : 13 < 37 ∧ mKs.getD 13 0 = 17 ∧ 17 < 47 ∧ mBo 17 = false ∧ mLen 17 = 8 ∧ (8 : Int32) = nI 8 ∧ 8 ≤ 1000000 ∧ (TX7 17).2.2.2 = true ∧ parseFieldDescriptor (TX7 17).2.2.1 = some (.array .int) ∧ (13 + 1 ≤ rmX7_init.cells ∧ 4604 + 8 ≤ rmX7_init.slots) ∧ 13 + 1 ≤ 14 ∧ 4604 + 8 ≤ 4612 := by decide +kernel
theorem lkX7_init_53 : Cond.fieldLink RX7 53 "PostlintModel" (TX7 18).2.1 (TX7 18).2.2.1 ∈ wsX7_init := by decide +kernel
theorem mi14 : 14 < 37 ∧ mKs.getD 14 0 = 18 ∧ 18 < 47 ∧ mBo 18 = false ∧ mLen 18 = 8 ∧ (8 : Int32) = nI 8 ∧ 8 ≤ 1000000 ∧ (TX7 18).2.2.2 = true ∧ parseFieldDescriptor (TX7 18).2.2.1 = some (.array .int) ∧ (14 + 1 ≤ rmX7_init.cells ∧ 4612 + 8 ≤ rmX7_init.slots) ∧ 14 + 1 ≤ 15 ∧ 4612 + 8 ≤ 4620 := by decide +kernel
theorem lkX7_init_56 : Cond.fieldLink RX7 56 "PostlintModel" (TX7 19).2.1 (TX7 19).2.2.1 ∈ wsX7_init := by decide +kernel
theorem mi15 : 15 < 37 ∧ mKs.getD 15 0 = 19 ∧ 19 < 47 ∧ mBo 19 = false ∧ mLen 19 = 8 ∧ (8 : Int32) = nI 8 ∧ 8 ≤ 1000000 ∧ (TX7 19).2.2.2 = true ∧ parseFieldDescriptor (TX7 19).2.2.1 = some (.array .int) ∧ (15 + 1 ≤ rmX7_init.cells ∧ 4620 + 8 ≤ rmX7_init.slots) ∧ 15 + 1 ≤ 16 ∧ 4620 + 8 ≤ 4628 := by decide +kernel
theorem lkX7_init_59 : Cond.fieldLink RX7 59 "PostlintModel" (TX7 20).2.1 (TX7 20).2.2.1 ∈ wsX7_init := by decide +kernel
theorem mi16 : 16 < 37 ∧ mKs.getD 16 0 = 20 ∧ 20 < 47 ∧ mBo 20 = true ∧ mLen 20 = 8 ∧ (8 : Int32) = nI 8 ∧ 8 ≤ 1000000 ∧ (TX7 20).2.2.2 = true ∧ parseFieldDescriptor (TX7 20).2.2.1 = some (.array .boolean) ∧ (16 + 1 ≤ rmX7_init.cells ∧ 4628 + 8 ≤ rmX7_init.slots) ∧ 16 + 1 ≤ 17 ∧ 4628 + 8 ≤ 4636 := by decide +kernel
theorem lkX7_init_62 : Cond.fieldLink RX7 62 "PostlintModel" (TX7 22).2.1 (TX7 22).2.2.1 ∈ wsX7_init := by decide +kernel
theorem mi17 : 17 < 37 ∧ mKs.getD 17 0 = 22 ∧ 22 < 47 ∧ mBo 22 = false ∧ mLen 22 = 6 ∧ (6 : Int32) = nI 6 ∧ 6 ≤ 1000000 ∧ (TX7 22).2.2.2 = true ∧ parseFieldDescriptor (TX7 22).2.2.1 = some (.array .int) ∧ (17 + 1 ≤ rmX7_init.cells ∧ 4636 + 6 ≤ rmX7_init.slots) ∧ 17 + 1 ≤ 18 ∧ 4636 + 6 ≤ 4642 := by decide +kernel
theorem lkX7_init_65 : Cond.fieldLink RX7 65 "PostlintModel" (TX7 23).2.1 (TX7 23).2.2.1 ∈ wsX7_init := by decide +kernel
theorem mi18 : 18 < 37 ∧ mKs.getD 18 0 = 23 ∧ 23 < 47 ∧ mBo 23 = false ∧ mLen 23 = 6 ∧ (6 : Int32) = nI 6 ∧ 6 ≤ 1000000 ∧ (TX7 23).2.2.2 = true ∧ parseFieldDescriptor (TX7 23).2.2.1 = some (.array .int) ∧ (18 + 1 ≤ rmX7_init.cells ∧ 4642 + 6 ≤ rmX7_init.slots) ∧ 18 + 1 ≤ 19 ∧ 4642 + 6 ≤ 4648 := by decide +kernel
theorem lkX7_init_68 : Cond.fieldLink RX7 68 "PostlintModel" (TX7 24).2.1 (TX7 24).2.2.1 ∈ wsX7_init := by decide +kernel
theorem mi19 : 19 < 37 ∧ mKs.getD 19 0 = 24 ∧ 24 < 47 ∧ mBo 24 = false ∧ mLen 24 = 6 ∧ (6 : Int32) = nI 6 ∧ 6 ≤ 1000000 ∧ (TX7 24).2.2.2 = true ∧ parseFieldDescriptor (TX7 24).2.2.1 = some (.array .int) ∧ (19 + 1 ≤ rmX7_init.cells ∧ 4648 + 6 ≤ rmX7_init.slots) ∧ 19 + 1 ≤ 20 ∧ 4648 + 6 ≤ 4654 := by decide +kernel
theorem lkX7_init_71 : Cond.fieldLink RX7 71 "PostlintModel" (TX7 25).2.1 (TX7 25).2.2.1 ∈ wsX7_init := by decide +kernel
theorem mi20 : 20 < 37 ∧ mKs.getD 20 0 = 25 ∧ 25 < 47 ∧ mBo 25 = true ∧ mLen 25 = 6 ∧ (6 : Int32) = nI 6 ∧ 6 ≤ 1000000 ∧ (TX7 25).2.2.2 = true ∧ parseFieldDescriptor (TX7 25).2.2.1 = some (.array .boolean) ∧ (20 + 1 ≤ rmX7_init.cells ∧ 4654 + 6 ≤ rmX7_init.slots) ∧ 20 + 1 ≤ 21 ∧ 4654 + 6 ≤ 4660 := by decide +kernel
theorem lkX7_init_74 : Cond.fieldLink RX7 74 "PostlintModel" (TX7 27).2.1 (TX7 27).2.2.1 ∈ wsX7_init := by decide +kernel
theorem mi21 : 21 < 37 ∧ mKs.getD 21 0 = 27 ∧ 27 < 47 ∧ mBo 27 = false ∧ mLen 27 = 16 ∧ (16 : Int32) = nI 16 ∧ 16 ≤ 1000000 ∧ (TX7 27).2.2.2 = true ∧ parseFieldDescriptor (TX7 27).2.2.1 = some (.array .int) ∧ (21 + 1 ≤ rmX7_init.cells ∧ 4660 + 16 ≤ rmX7_init.slots) ∧ 21 + 1 ≤ 22 ∧ 4660 + 16 ≤ 4676 := by decide +kernel
theorem lkX7_init_77 : Cond.fieldLink RX7 77 "PostlintModel" (TX7 28).2.1 (TX7 28).2.2.1 ∈ wsX7_init := by decide +kernel
theorem mi22 : 22 < 37 ∧ mKs.getD 22 0 = 28 ∧ 28 < 47 ∧ mBo 28 = true ∧ mLen 28 = 16 ∧ (16 : Int32) = nI 16 ∧ 16 ≤ 1000000 ∧ (TX7 28).2.2.2 = true ∧ parseFieldDescriptor (TX7 28).2.2.1 = some (.array .boolean) ∧ (22 + 1 ≤ rmX7_init.cells ∧ 4676 + 16 ≤ rmX7_init.slots) ∧ 22 + 1 ≤ 23 ∧ 4676 + 16 ≤ 4692 := by decide +kernel
theorem lkX7_init_80 : Cond.fieldLink RX7 80 "PostlintModel" (TX7 29).2.1 (TX7 29).2.2.1 ∈ wsX7_init := by decide +kernel
theorem mi23 : 23 < 37 ∧ mKs.getD 23 0 = 29 ∧ 29 < 47 ∧ mBo 29 = false ∧ mLen 29 = 16 ∧ (16 : Int32) = nI 16 ∧ 16 ≤ 1000000 ∧ (TX7 29).2.2.2 = true ∧ parseFieldDescriptor (TX7 29).2.2.1 = some (.array .int) ∧ (23 + 1 ≤ rmX7_init.cells ∧ 4692 + 16 ≤ rmX7_init.slots) ∧ 23 + 1 ≤ 24 ∧ 4692 + 16 ≤ 4708 := by decide +kernel
theorem lkX7_init_83 : Cond.fieldLink RX7 83 "PostlintModel" (TX7 30).2.1 (TX7 30).2.2.1 ∈ wsX7_init := by decide +kernel
theorem mi24 : 24 < 37 ∧ mKs.getD 24 0 = 30 ∧ 30 < 47 ∧ mBo 30 = false ∧ mLen 30 = 16 ∧ (16 : Int32) = nI 16 ∧ 16 ≤ 1000000 ∧ (TX7 30).2.2.2 = true ∧ parseFieldDescriptor (TX7 30).2.2.1 = some (.array .int) ∧ (24 + 1 ≤ rmX7_init.cells ∧ 4708 + 16 ≤ rmX7_init.slots) ∧ 24 + 1 ≤ 25 ∧ 4708 + 16 ≤ 4724 := by decide +kernel
theorem lkX7_init_86 : Cond.fieldLink RX7 86 "PostlintModel" (TX7 32).2.1 (TX7 32).2.2.1 ∈ wsX7_init := by decide +kernel
theorem mi25 : 25 < 37 ∧ mKs.getD 25 0 = 32 ∧ 32 < 47 ∧ mBo 32 = true ∧ mLen 32 = 64 ∧ (64 : Int32) = nI 64 ∧ 64 ≤ 1000000 ∧ (TX7 32).2.2.2 = true ∧ parseFieldDescriptor (TX7 32).2.2.1 = some (.array .boolean) ∧ (25 + 1 ≤ rmX7_init.cells ∧ 4724 + 64 ≤ rmX7_init.slots) ∧ 25 + 1 ≤ 26 ∧ 4724 + 64 ≤ 4788 := by decide +kernel
theorem lkX7_init_89 : Cond.fieldLink RX7 89 "PostlintModel" (TX7 33).2.1 (TX7 33).2.2.1 ∈ wsX7_init := by decide +kernel
theorem mi26 : 26 < 37 ∧ mKs.getD 26 0 = 33 ∧ 33 < 47 ∧ mBo 33 = false ∧ mLen 33 = 64 ∧ (64 : Int32) = nI 64 ∧ 64 ≤ 1000000 ∧ (TX7 33).2.2.2 = true ∧ parseFieldDescriptor (TX7 33).2.2.1 = some (.array .int) ∧ (26 + 1 ≤ rmX7_init.cells ∧ 4788 + 64 ≤ rmX7_init.slots) ∧ 26 + 1 ≤ 27 ∧ 4788 + 64 ≤ 4852 := by decide +kernel
theorem lkX7_init_92 : Cond.fieldLink RX7 92 "PostlintModel" (TX7 34).2.1 (TX7 34).2.2.1 ∈ wsX7_init := by decide +kernel
theorem mi27 : 27 < 37 ∧ mKs.getD 27 0 = 34 ∧ 34 < 47 ∧ mBo 34 = false ∧ mLen 34 = 64 ∧ (64 : Int32) = nI 64 ∧ 64 ≤ 1000000 ∧ (TX7 34).2.2.2 = true ∧ parseFieldDescriptor (TX7 34).2.2.1 = some (.array .int) ∧ (27 + 1 ≤ rmX7_init.cells ∧ 4852 + 64 ≤ rmX7_init.slots) ∧ 27 + 1 ≤ 28 ∧ 4852 + 64 ≤ 4916 := by decide +kernel
theorem lkX7_init_95 : Cond.fieldLink RX7 95 "PostlintModel" (TX7 35).2.1 (TX7 35).2.2.1 ∈ wsX7_init := by decide +kernel
theorem mi28 : 28 < 37 ∧ mKs.getD 28 0 = 35 ∧ 35 < 47 ∧ mBo 35 = false ∧ mLen 35 = 64 ∧ (64 : Int32) = nI 64 ∧ 64 ≤ 1000000 ∧ (TX7 35).2.2.2 = true ∧ parseFieldDescriptor (TX7 35).2.2.1 = some (.array .int) ∧ (28 + 1 ≤ rmX7_init.cells ∧ 4916 + 64 ≤ rmX7_init.slots) ∧ 28 + 1 ≤ 29 ∧ 4916 + 64 ≤ 4980 := by decide +kernel
theorem lkX7_init_98 : Cond.fieldLink RX7 98 "PostlintModel" (TX7 36).2.1 (TX7 36).2.2.1 ∈ wsX7_init := by decide +kernel
theorem mi29 : 29 < 37 ∧ mKs.getD 29 0 = 36 ∧ 36 < 47 ∧ mBo 36 = false ∧ mLen 36 = 64 ∧ (64 : Int32) = nI 64 ∧ 64 ≤ 1000000 ∧ (TX7 36).2.2.2 = true ∧ parseFieldDescriptor (TX7 36).2.2.1 = some (.array .int) ∧ (29 + 1 ≤ rmX7_init.cells ∧ 4980 + 64 ≤ rmX7_init.slots) ∧ 29 + 1 ≤ 30 ∧ 4980 + 64 ≤ 5044 := by decide +kernel
theorem lkX7_init_101 : Cond.fieldLink RX7 101 "PostlintModel" (TX7 37).2.1 (TX7 37).2.2.1 ∈ wsX7_init := by decide +kernel
theorem mi30 : 30 < 37 ∧ mKs.getD 30 0 = 37 ∧ 37 < 47 ∧ mBo 37 = false ∧ mLen 37 = 64 ∧ (64 : Int32) = nI 64 ∧ 64 ≤ 1000000 ∧ (TX7 37).2.2.2 = true ∧ parseFieldDescriptor (TX7 37).2.2.1 = some (.array .int) ∧ (30 + 1 ≤ rmX7_init.cells ∧ 5044 + 64 ≤ rmX7_init.slots) ∧ 30 + 1 ≤ 31 ∧ 5044 + 64 ≤ 5108 := by decide +kernel
theorem lkX7_init_104 : Cond.fieldLink RX7 104 "PostlintModel" (TX7 39).2.1 (TX7 39).2.2.1 ∈ wsX7_init := by decide +kernel
theorem mi31 : 31 < 37 ∧ mKs.getD 31 0 = 39 ∧ 39 < 47 ∧ mBo 39 = false ∧ mLen 39 = 512 ∧ (512 : Int32) = nI 512 ∧ 512 ≤ 1000000 ∧ (TX7 39).2.2.2 = true ∧ parseFieldDescriptor (TX7 39).2.2.1 = some (.array .int) ∧ (31 + 1 ≤ rmX7_init.cells ∧ 5108 + 512 ≤ rmX7_init.slots) ∧ 31 + 1 ≤ 32 ∧ 5108 + 512 ≤ 5620 := by decide +kernel
theorem lkX7_init_107 : Cond.fieldLink RX7 107 "PostlintModel" (TX7 41).2.1 (TX7 41).2.2.1 ∈ wsX7_init := by decide +kernel
theorem mi32 : 32 < 37 ∧ mKs.getD 32 0 = 41 ∧ 41 < 47 ∧ mBo 41 = false ∧ mLen 41 = 4096 ∧ (4096 : Int32) = nI 4096 ∧ 4096 ≤ 1000000 ∧ (TX7 41).2.2.2 = true ∧ parseFieldDescriptor (TX7 41).2.2.1 = some (.array .int) ∧ (32 + 1 ≤ rmX7_init.cells ∧ 5620 + 4096 ≤ rmX7_init.slots) ∧ 32 + 1 ≤ 33 ∧ 5620 + 4096 ≤ 9716 := by decide +kernel
theorem lkX7_init_110 : Cond.fieldLink RX7 110 "PostlintModel" (TX7 42).2.1 (TX7 42).2.2.1 ∈ wsX7_init := by decide +kernel
theorem mi33 : 33 < 37 ∧ mKs.getD 33 0 = 42 ∧ 42 < 47 ∧ mBo 42 = false ∧ mLen 42 = 6 ∧ (6 : Int32) = nI 6 ∧ 6 ≤ 1000000 ∧ (TX7 42).2.2.2 = true ∧ parseFieldDescriptor (TX7 42).2.2.1 = some (.array .int) ∧ (33 + 1 ≤ rmX7_init.cells ∧ 9716 + 6 ≤ rmX7_init.slots) ∧ 33 + 1 ≤ 34 ∧ 9716 + 6 ≤ 9722 := by decide +kernel
theorem lkX7_init_113 : Cond.fieldLink RX7 113 "PostlintModel" (TX7 43).2.1 (TX7 43).2.2.1 ∈ wsX7_init := by decide +kernel
theorem mi34 : 34 < 37 ∧ mKs.getD 34 0 = 43 ∧ 43 < 47 ∧ mBo 43 = false ∧ mLen 43 = 192 ∧ (192 : Int32) = nI 192 ∧ 192 ≤ 1000000 ∧ (TX7 43).2.2.2 = true ∧ parseFieldDescriptor (TX7 43).2.2.1 = some (.array .int) ∧ (34 + 1 ≤ rmX7_init.cells ∧ 9722 + 192 ≤ rmX7_init.slots) ∧ 34 + 1 ≤ 35 ∧ 9722 + 192 ≤ 9914 := by decide +kernel
theorem lkX7_init_116 : Cond.fieldLink RX7 116 "PostlintModel" (TX7 44).2.1 (TX7 44).2.2.1 ∈ wsX7_init := by decide +kernel
theorem mi35 : 35 < 37 ∧ mKs.getD 35 0 = 44 ∧ 44 < 47 ∧ mBo 44 = false ∧ mLen 44 = 6 ∧ (6 : Int32) = nI 6 ∧ 6 ≤ 1000000 ∧ (TX7 44).2.2.2 = true ∧ parseFieldDescriptor (TX7 44).2.2.1 = some (.array .int) ∧ (35 + 1 ≤ rmX7_init.cells ∧ 9914 + 6 ≤ rmX7_init.slots) ∧ 35 + 1 ≤ 36 ∧ 9914 + 6 ≤ 9920 := by decide +kernel
theorem lkX7_init_119 : Cond.fieldLink RX7 119 "PostlintModel" (TX7 46).2.1 (TX7 46).2.2.1 ∈ wsX7_init := by decide +kernel
theorem mi36 : 36 < 37 ∧ mKs.getD 36 0 = 46 ∧ 46 < 47 ∧ mBo 46 = false ∧ mLen 46 = 60 ∧ (60 : Int32) = nI 60 ∧ 60 ≤ 1000000 ∧ (TX7 46).2.2.2 = true ∧ parseFieldDescriptor (TX7 46).2.2.1 = some (.array .int) ∧ (36 + 1 ≤ rmX7_init.cells ∧ 9920 + 60 ≤ rmX7_init.slots) ∧ 36 + 1 ≤ 37 ∧ 9920 + 60 ≤ 9980 := by decide +kernel
set_option maxRecDepth 100000 in
set_option maxHeartbeats 40000000 in
theorem kX7_init {l : Launch} {G : JG} {D : va_G} {tys : List (ClassId × FieldType)} {a : Nat} {cI cZ cO cJ : ClassId} (hT : tys = jTy cI cZ cO cJ) : CC l G D tys yX7_init wsX7_init rmX7_init [.ref a] (mP a cI cZ []) (fun ov w2 => ∃ ad : Nat → Nat, ov = none ∧ w2 = mW a ad cI cZ mW0) := by
  refine CC_ofI (cc := cX7_init) (maxL := 1) rfl (by decide) rfl (Nat.le_of_ble_eq_true rfl) ?_
  intro X hD hL hT0 hGX hX hin0 hret
  have hT := hT0.trans hT
  refine jw_aload_n hX dX7_init_0 rfl 0 rfl ?_
  refine jw_objInit hX obX7_init ocX7_init odX7_init (by decide) (Nat.le_of_ble_eq_true rfl) dX7_init_1 ?_
  refine jw_aload_n hX dX7_init_4 rfl 0 rfl ?_
  refine jw_bipush (v := (60 : Int32)) hX dX7_init_5 (by decide) ?_
  refine jw_minitI hX hT hin0 (N := 60) 0 2 rfl mi0.1 mi0.2.1 mi0.2.2.1 mi0.2.2.2.1 mi0.2.2.2.2.1 mi0.2.2.2.2.2.1 mi0.2.2.2.2.2.2.1 mi0.2.2.2.2.2.2.2.1 mi0.2.2.2.2.2.2.2.2.1 aiX7_init inX7_init lkX7_init_7 mi0.2.2.2.2.2.2.2.2.2.1 dX7_init_7 dX7_init_9 (fun q0 => ?_)
  refine jw_widen 1 60 mi0.2.2.2.2.2.2.2.2.2.2.1 mi0.2.2.2.2.2.2.2.2.2.2.2 ?_
  refine jw_aload_n hX dX7_init_12 rfl 0 rfl ?_
  refine jw_bipush (v := (24 : Int32)) hX dX7_init_13 (by decide) ?_
  refine jw_minitZ hX hT hin0 (N := 24) 1 4 rfl mi1.1 mi1.2.1 mi1.2.2.1 mi1.2.2.2.1 mi1.2.2.2.2.1 mi1.2.2.2.2.2.1 mi1.2.2.2.2.2.2.1 mi1.2.2.2.2.2.2.2.1 mi1.2.2.2.2.2.2.2.2.1 azX7_init inX7_init lkX7_init_13 mi1.2.2.2.2.2.2.2.2.2.1 dX7_init_15 dX7_init_17 (fun q1 => ?_)
  refine jw_widen 2 84 mi1.2.2.2.2.2.2.2.2.2.2.1 mi1.2.2.2.2.2.2.2.2.2.2.2 ?_
  refine jw_aload_n hX dX7_init_20 rfl 0 rfl ?_
  refine jw_bipush (v := (24 : Int32)) hX dX7_init_21 (by decide) ?_
  refine jw_minitI hX hT hin0 (N := 24) 2 5 rfl mi2.1 mi2.2.1 mi2.2.2.1 mi2.2.2.2.1 mi2.2.2.2.2.1 mi2.2.2.2.2.2.1 mi2.2.2.2.2.2.2.1 mi2.2.2.2.2.2.2.2.1 mi2.2.2.2.2.2.2.2.2.1 aiX7_init inX7_init lkX7_init_17 mi2.2.2.2.2.2.2.2.2.2.1 dX7_init_23 dX7_init_25 (fun q2 => ?_)
  refine jw_widen 3 108 mi2.2.2.2.2.2.2.2.2.2.2.1 mi2.2.2.2.2.2.2.2.2.2.2.2 ?_
  refine jw_aload_n hX dX7_init_28 rfl 0 rfl ?_
  refine jw_sipush (v := (1440 : Int32)) hX dX7_init_29 (by decide) ?_
  refine jw_minitI hX hT hin0 (N := 1440) 3 6 rfl mi3.1 mi3.2.1 mi3.2.2.1 mi3.2.2.2.1 mi3.2.2.2.2.1 mi3.2.2.2.2.2.1 mi3.2.2.2.2.2.2.1 mi3.2.2.2.2.2.2.2.1 mi3.2.2.2.2.2.2.2.2.1 aiX7_init inX7_init lkX7_init_20 mi3.2.2.2.2.2.2.2.2.2.1 dX7_init_32 dX7_init_34 (fun q3 => ?_)
  sorry
