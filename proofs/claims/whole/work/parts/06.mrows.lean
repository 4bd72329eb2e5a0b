theorem mTX7 {k : Nat} (hk : k < 47) : (TX7 k).1 = "PostlintModel" := by
  have h : ∀ k, k < 47 → (TX7 k).1 = "PostlintModel" := by decide +kernel
  exact h k hk
theorem mScI {k : Nat} (hk : k < 47) (hs : mSc k = true) : (TX7 k).2.2.2 = false ∧ parseFieldDescriptor (TX7 k).2.2.1 = some .int := by
  have h : ∀ k, k < 47 → mSc k = true → (TX7 k).2.2.2 = false ∧ parseFieldDescriptor (TX7 k).2.2.1 = some .int := by decide +kernel
  exact h k hk hs
theorem jw_mgetI {X : JX} {cells slots : Nat} {w : MW} {a : Nat} {ad : Nat → Nat} {cI cZ cO cJ : ClassId} {pc : Nat} {lv : List (Nat × Value)} {rest : List Value} {cc : ByteArray} {nL : Nat} {Ts : List Cond} {own : String} {rm : Room} (hX : jOK X cc nL Ts own rm) (hT : jT X = jTy cI cZ cO cJ) (hin : ∀ w ∈ wsX70, w ∈ Ts) (k : Nat) (hk : k < 47) {index : Nat} (hlink : Cond.fieldLink own index "PostlintModel" (TX7 k).2.1 (TX7 k).2.2.1 ∈ Ts) (hs : mSc k = true) (hdg : decode cc pc = .ok (.getfield index, 3)) (kk : JW X cells slots (mW a ad cI cZ w) (pc + 3) lv (.int (w.1 k) :: rest)) : JW X cells slots (mW a ad cI cZ w) (pc) lv (.ref a :: rest) := by
  obtain ⟨p, l, e, R, s, m, args, below, meth, c, D, A, nL9, Q, tys⟩ := X
  obtain ⟨⟨hx, hb, hml, hown, hts⟩, rfl, hK, hA, hlk, hR⟩ := hX
  obtain rfl : tys = jTy cI cZ cO cJ := hT
  intro H locs ls hP hD hS hl
  exact va_get (D := D) (ci := 7) (v := .int (w.1 k)) (C := RX7) (T := TX7) (N := 47) hx hb hts hin hown hK hP 0 rfl rfl k hk (hts _ hlink) (fun x9 h9 => by rw [mTX7 hk] at h9; exact h9) (by rw [mF_at hk, if_pos hs]) hdg (kk H locs ls hP hD hS hl)
theorem jw_mgetA {X : JX} {cells slots : Nat} {w : MW} {a : Nat} {ad : Nat → Nat} {cI cZ cO cJ : ClassId} {pc : Nat} {lv : List (Nat × Value)} {rest : List Value} {cc : ByteArray} {nL : Nat} {Ts : List Cond} {own : String} {rm : Room} (hX : jOK X cc nL Ts own rm) (hT : jT X = jTy cI cZ cO cJ) (hin : ∀ w ∈ wsX70, w ∈ Ts) (k : Nat) (hk : k < 47) {index : Nat} (hlink : Cond.fieldLink own index "PostlintModel" (TX7 k).2.1 (TX7 k).2.2.1 ∈ Ts) (hs : mSc k = false) (hdg : decode cc pc = .ok (.getfield index, 3)) (kk : JW X cells slots (mW a ad cI cZ w) (pc + 3) lv (.ref (ad k) :: rest)) : JW X cells slots (mW a ad cI cZ w) (pc) lv (.ref a :: rest) := by
  obtain ⟨p, l, e, R, s, m, args, below, meth, c, D, A, nL9, Q, tys⟩ := X
  obtain ⟨⟨hx, hb, hml, hown, hts⟩, rfl, hK, hA, hlk, hR⟩ := hX
  obtain rfl : tys = jTy cI cZ cO cJ := hT
  intro H locs ls hP hD hS hl
  exact va_get (D := D) (ci := 7) (v := .ref (ad k)) (C := RX7) (T := TX7) (N := 47) hx hb hts hin hown hK hP 0 rfl rfl k hk (hts _ hlink) (fun x9 h9 => by rw [mTX7 hk] at h9; exact h9) (by rw [mF_at hk, if_neg (by rw [hs]; decide)]) hdg (kk H locs ls hP hD hS hl)
theorem jw_mputI {X : JX} {cells slots : Nat} {w : MW} {a : Nat} {ad : Nat → Nat} {cI cZ cO cJ : ClassId} {pc : Nat} {lv : List (Nat × Value)} {rest : List Value} {cc : ByteArray} {nL : Nat} {Ts : List Cond} {own : String} {rm : Room} (hX : jOK X cc nL Ts own rm) (hT : jT X = jTy cI cZ cO cJ) {x : Int32} (hin : ∀ w ∈ wsX70, w ∈ Ts) (k : Nat) (hk : k < 47) {index : Nat} (hlink : Cond.fieldLink own index "PostlintModel" (TX7 k).2.1 (TX7 k).2.2.1 ∈ Ts) (hs : mSc k = true) (hdg : decode cc pc = .ok (.putfield index, 3)) (kk : ∀ w1 : MW, w1 = mS w k x → JW X cells slots (mW a ad cI cZ w1) (pc + 3) lv rest) : JW X cells slots (mW a ad cI cZ w) (pc) lv (.int x :: .ref a :: rest) := by
  obtain ⟨p, l, e, R, s, m, args, below, meth, c, D, A, nL9, Q, tys⟩ := X
  obtain ⟨⟨hx, hb, hml, hown, hts⟩, rfl, hK, hA, hlk, hR⟩ := hX
  obtain rfl : tys = jTy cI cZ cO cJ := hT
  intro H locs ls hP hD hS hl
  obtain ⟨h1, h2⟩ := mScI hk hs
  exact va_put (D := D) (ci := 7) (v := .int x) (ty := .int) (C := RX7) (T := TX7) (N := 47) hx hb hts hin tyX7 tyX7_ok nmX7 hown hK hP hD hS 0 rfl rfl k hk (hts _ hlink) (fun x9 h9 => by rw [mTX7 hk] at h9; exact h9) h1 h2 rfl rfl (by simp [mF]; exact hk) hdg (fun H1 locs1 hP1 hD1 hS1 => by
    rw [mW_putF hk hs] at hP1 hD1
    exact kk _ rfl H1 locs1 ls hP1 hD1 hS1 hl)
theorem jw_miald {X : JX} {cells slots : Nat} {w : MW} {a : Nat} {ad : Nat → Nat} {cI cZ cO cJ : ClassId} {pc : Nat} {lv : List (Nat × Value)} {rest : List Value} {cc : ByteArray} {nL : Nat} {Ts : List Cond} {own : String} {rm : Room} (hX : jOK X cc nL Ts own rm) (hT : jT X = jTy cI cZ cO cJ) {i : Int32} (q k : Nat) (hq : mKs[q]? = some k) (hbo : mBo k = false) (hin : inB i (mLen k) = true) (hdg : decode cc pc = .ok (.iaload, 1)) (kk : JW X cells slots (mW a ad cI cZ w) (pc + 1) lv (.int (w.2 k i.toNatClampNeg) :: rest)) : JW X cells slots (mW a ad cI cZ w) (pc) lv (.int i :: .ref (ad k) :: rest) := by
  obtain ⟨p, l, e, R, s, m, args, below, meth, c, D, A, nL9, Q, tys⟩ := X
  obtain ⟨⟨hx, hb, hml, hown, hts⟩, rfl, hK, hA, hlk, hR⟩ := hX
  obtain rfl : tys = jTy cI cZ cO cJ := hT
  intro H locs ls hP hD hS hl
  have hb9 : (if mBo k = true then cZ else cI) = cI := by rw [hbo]; rfl
  exact va_iald hx hb hK hP (q + 1) 0 (by rw [mW_at hq, mE, hb9]) rfl (inB_in hin) hdg (kk H locs ls hP hD hS hl)
theorem jw_mzald {X : JX} {cells slots : Nat} {w : MW} {a : Nat} {ad : Nat → Nat} {cI cZ cO cJ : ClassId} {pc : Nat} {lv : List (Nat × Value)} {rest : List Value} {cc : ByteArray} {nL : Nat} {Ts : List Cond} {own : String} {rm : Room} (hX : jOK X cc nL Ts own rm) (hT : jT X = jTy cI cZ cO cJ) {i : Int32} (q k : Nat) (hq : mKs[q]? = some k) (hbo : mBo k = true) (hin : inB i (mLen k) = true) (hdg : decode cc pc = .ok (.baload, 1)) (kk : JW X cells slots (mW a ad cI cZ w) (pc + 1) lv (.int (w.2 k i.toNatClampNeg) :: rest)) : JW X cells slots (mW a ad cI cZ w) (pc) lv (.int i :: .ref (ad k) :: rest) := by
  obtain ⟨p, l, e, R, s, m, args, below, meth, c, D, A, nL9, Q, tys⟩ := X
  obtain ⟨⟨hx, hb, hml, hown, hts⟩, rfl, hK, hA, hlk, hR⟩ := hX
  obtain rfl : tys = jTy cI cZ cO cJ := hT
  intro H locs ls hP hD hS hl
  have hb9 : (if mBo k = true then cZ else cI) = cZ := by rw [hbo]; rfl
  exact va_zald hx hb hK hP (q + 1) 1 (by rw [mW_at hq, mE, hb9]) rfl (inB_in hin) hdg (kk H locs ls hP hD hS hl)
theorem jw_miast {X : JX} {cells slots : Nat} {w : MW} {a : Nat} {ad : Nat → Nat} {cI cZ cO cJ : ClassId} {pc : Nat} {lv : List (Nat × Value)} {rest : List Value} {cc : ByteArray} {nL : Nat} {Ts : List Cond} {own : String} {rm : Room} (hX : jOK X cc nL Ts own rm) (hT : jT X = jTy cI cZ cO cJ) {i x : Int32} (q k : Nat) (hq : mKs[q]? = some k) (hbo : mBo k = false) (hin : inB i (mLen k) = true) (hdg : decode cc pc = .ok (.iastore, 1)) (kk : ∀ w1 : MW, w1 = mA w k i.toNatClampNeg x → JW X cells slots (mW a ad cI cZ w1) (pc + 1) lv rest) : JW X cells slots (mW a ad cI cZ w) (pc) lv (.int x :: .int i :: .ref (ad k) :: rest) := by
  obtain ⟨p, l, e, R, s, m, args, below, meth, c, D, A, nL9, Q, tys⟩ := X
  obtain ⟨⟨hx, hb, hml, hown, hts⟩, rfl, hK, hA, hlk, hR⟩ := hX
  obtain rfl : tys = jTy cI cZ cO cJ := hT
  intro H locs ls hP hD hS hl
  have hb9 : (if mBo k = true then cZ else cI) = cI := by rw [hbo]; rfl
  exact va_iast hx hb hK hP hD hS (q + 1) 0 (by rw [mW_at hq, mE, hb9]) rfl (inB_in hin) hdg (fun H1 locs1 hP1 hD1 hS1 => by
    have h9 := mW_put (a := a) (ad := ad) (cI := cI) (cZ := cZ) (w := w) (i := i.toNatClampNeg) (x := x) hq
    rw [hb9] at h9
    rw [h9] at hP1 hD1
    exact kk _ rfl H1 locs1 ls hP1 hD1 hS1 hl)
theorem jw_mzast {X : JX} {cells slots : Nat} {w : MW} {a : Nat} {ad : Nat → Nat} {cI cZ cO cJ : ClassId} {pc : Nat} {lv : List (Nat × Value)} {rest : List Value} {cc : ByteArray} {nL : Nat} {Ts : List Cond} {own : String} {rm : Room} (hX : jOK X cc nL Ts own rm) (hT : jT X = jTy cI cZ cO cJ) {i x : Int32} (q k : Nat) (hq : mKs[q]? = some k) (hbo : mBo k = true) (hin : inB i (mLen k) = true) (h01 : b01 x = true) (hdg : decode cc pc = .ok (.bastore, 1)) (kk : ∀ w1 : MW, w1 = mA w k i.toNatClampNeg x → JW X cells slots (mW a ad cI cZ w1) (pc + 1) lv rest) : JW X cells slots (mW a ad cI cZ w) (pc) lv (.int x :: .int i :: .ref (ad k) :: rest) := by
  obtain ⟨p, l, e, R, s, m, args, below, meth, c, D, A, nL9, Q, tys⟩ := X
  obtain ⟨⟨hx, hb, hml, hown, hts⟩, rfl, hK, hA, hlk, hR⟩ := hX
  obtain rfl : tys = jTy cI cZ cO cJ := hT
  intro H locs ls hP hD hS hl
  have hb9 : (if mBo k = true then cZ else cI) = cZ := by rw [hbo]; rfl
  exact va_zast hx hb hK hP hD hS (q + 1) 1 (by rw [mW_at hq, mE, hb9]) rfl (inB_in hin) hdg (fun H1 locs1 hP1 hD1 hS1 => by
    have h9 := mW_put (a := a) (ad := ad) (cI := cI) (cZ := cZ) (w := w) (i := i.toNatClampNeg) (x := x) hq
    rw [hb9] at h9
    rw [b01_nar h01, h9] at hP1 hD1
    exact kk _ rfl H1 locs1 ls hP1 hD1 hS1 hl)
