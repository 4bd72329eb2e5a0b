/-! the reference's world: one object (47 fields) and its 37 arrays, as two functions: its numbers and its rows, by the place of the field -/
abbrev MW : Type := (Nat → Int32) × (Nat → Nat → Int32)
def mSc (k : Nat) : Bool := k == 0 || k == 1 || k == 3 || k == 15 || k == 21 || k == 26 || k == 31 || k == 38 || k == 40 || k == 45
def mBo (k : Nat) : Bool := k == 4 || k == 11 || k == 20 || k == 25 || k == 28 || k == 32
def mKs : List Nat := [2, 4, 5, 6, 7, 8, 9, 10, 11, 12, 13, 14, 16, 17, 18, 19, 20, 22, 23, 24, 25, 27, 28, 29, 30, 32, 33, 34, 35, 36, 37, 39, 41, 42, 43, 44, 46]
def mLens : List Nat := [0, 0, 60, 0, 24, 24, 1440, 24, 1440, 24, 384, 384, 384, 384, 24, 0, 8, 8, 8, 8, 8, 0, 6, 6, 6, 6, 0, 16, 16, 16, 16, 0, 64, 64, 64, 64, 64, 64, 0, 512, 0, 4096, 6, 192, 6, 0, 60]
def mLen (k : Nat) : Nat := mLens.getD k 0
def mF (ad : Nat → Nat) (w : MW) : List Value := (List.range 47).map (fun k => if mSc k = true then .int (w.1 k) else .ref (ad k))
def mE (cI cZ : ClassId) (w : MW) (k : Nat) : va_E := .inl (if mBo k = true then cZ else cI, mLen k, .inl (w.2 k))
def mW (a : Nat) (ad : Nat → Nat) (cI cZ : ClassId) (w : MW) : va_W := (a, .inr (7, mF ad w)) :: mKs.map (fun k => (ad k, mE cI cZ w k))
def mS (w : MW) (k : Nat) (v : Int32) : MW := (fun j => if j = k then v else w.1 j, w.2)
def mA (w : MW) (k : Nat) (i : Nat) (v : Int32) : MW := (w.1, fun j => if j = k then upd (w.2 k) i v else w.2 j)
def jTy (cI cZ cO cJ : ClassId) : List (ClassId × FieldType) := [(cI, .int), (cZ, .boolean), (cO, .object "java/lang/Object"), (cJ, .long)]
/-- a place of a row, tested -/
def inB (i : Int32) (n : Nat) : Bool := decide (¬ i < 0) && decide (i.toNatClampNeg < n)
theorem inB_in {i : Int32} {n : Nat} (h : inB i n = true) : vp_in i n := by
  simp only [inB, Bool.and_eq_true, decide_eq_true_eq] at h
  intro h9
  rcases h9 with h9 | h9
  · exact h.1 h9
  · omega
def chk {α : Type} (b : Bool) (k : Option α) : Option α := match b with
  | true => k
  | false => none
theorem chk_some {α : Type} {b : Bool} {k : Option α} {r : α} (h : chk b k = some r) : b = true ∧ k = some r := by
  cases b with
  | true => exact ⟨rfl, h⟩
  | false => cases h
def b01 (v : Int32) : Bool := decide (v = 0) || decide (v = 1)
theorem b01_or {v : Int32} (h : b01 v = true) : v = 0 ∨ v = 1 := by
  simpa [b01] using h
theorem b01_nar {v : Int32} (h : b01 v = true) : vp_nar .boolean v = v := by
  rcases b01_or h with rfl | rfl <;> decide
theorem mKs_inj0 : ∀ i, i < 37 → ∀ j, j < 37 → mKs[i]? = mKs[j]? → i = j := by decide +kernel
theorem mKs_inj {i j k : Nat} (hi : mKs[i]? = some k) (hj : mKs[j]? = some k) : i = j :=
  mKs_inj0 i (List.getElem?_eq_some_iff.mp hi).1 j (List.getElem?_eq_some_iff.mp hj).1 (hi.trans hj.symm)
theorem mW_at {a : Nat} {ad : Nat → Nat} {cI cZ : ClassId} {w : MW} {q k : Nat} (hq : mKs[q]? = some k) : (mW a ad cI cZ w)[q + 1]? = some (ad k, mE cI cZ w k) := by
  simp only [mW, List.getElem?_cons_succ, List.getElem?_map, hq, Option.map_some]
theorem mW_put {a : Nat} {ad : Nat → Nat} {cI cZ : ClassId} {w : MW} {q k i : Nat} {x : Int32} (hq : mKs[q]? = some k) : (mW a ad cI cZ w).set (q + 1) (ad k, .inl (if mBo k = true then cZ else cI, mLen k, .inl (upd (w.2 k) i x))) = mW a ad cI cZ (mA w k i x) := by
  simp only [mW, List.set_cons_succ]
  have hF : mF ad (mA w k i x) = mF ad w := rfl
  rw [hF]
  congr 1
  apply List.ext_getElem?
  intro j
  rw [List.getElem?_set]
  by_cases hj : q = j
  · subst hj
    have hlt : q < mKs.length := (List.getElem?_eq_some_iff.mp hq).1
    simp only [if_true, List.length_map, hlt, List.getElem?_map, hq, Option.map_some, mE, mA]
  · simp only [if_neg hj, List.getElem?_map]
    cases hk : mKs[j]? with
    | none => rfl
    | some k' =>
      have hne : k' ≠ k := by
        intro h
        subst h
        exact hj (mKs_inj hq hk)
      simp only [Option.map_some, mE, mA, if_neg hne]
theorem mF_at {ad : Nat → Nat} {w : MW} {k : Nat} (hk : k < 47) : (mF ad w)[k]? = some (if mSc k = true then .int (w.1 k) else .ref (ad k)) := by
  simp only [mF, List.getElem?_map, List.getElem?_range hk, Option.map_some]
theorem mW_putF {a : Nat} {ad : Nat → Nat} {cI cZ : ClassId} {w : MW} {k : Nat} {v : Int32} (hk : k < 47) (hs : mSc k = true) : (mW a ad cI cZ w).set 0 (a, .inr (7, (mF ad w).set k (.int v))) = mW a ad cI cZ (mS w k v) := by
  simp only [mW, List.set_cons_zero]
  have hE : (fun k => (ad k, mE cI cZ (mS w k v) k)) = fun k => (ad k, mE cI cZ w k) := rfl
  have hF : (mF ad w).set k (.int v) = mF ad (mS w k v) := by
    apply List.ext_getElem?
    intro j
    rw [List.getElem?_set]
    by_cases hj : k = j
    · subst hj
      have : k < (mF ad w).length := by simp [mF]; exact hk
      simp only [if_true, this, mF_at hk, hs, mS]
    · simp only [if_neg hj]
      by_cases hj2 : j < 47
      · rw [mF_at hj2, mF_at hj2]
        simp only [mS, if_neg (fun h => hj (Eq.symm h))]
      · rw [List.getElem?_eq_none (by simp [mF]; omega), List.getElem?_eq_none (by simp [mF]; omega)]
  rw [hF]
  rfl
