/-! the landed program's writer: its small methods -/
def hdI (r : List Nat) : Int32 := match r with
  | [] => -1
  | c :: _ => nI c
theorem drop_ge {d : List Nat} {i : Nat} (h : d.drop i = []) : d.length ≤ i := List.drop_eq_nil_iff.mp h
theorem SG.atD {S : PS} {v q cap : Nat} {d r : List Nat} {i : Nat} (h : SG S v q cap d) (hr : d.drop i = r) (hi : i < 2 ^ 31) : fX4_at S v (nI i) = some (hdI r) := by
  rw [h.at hi]
  cases r with
  | nil => rw [atI_ge (drop_ge hr)]; rfl
  | cons c r =>
    obtain ⟨h1, h2, -⟩ := drop_next hr
    rw [atI_lt h1, h2]
    rfl
theorem isDig_nI : ∀ c, c < 127 → fX6_isDigit (nI c) = some (if xDig c = true then 1 else 0) := by decide +kernel
theorem isAcc_nI : ∀ c, c < 127 → fX6_isAccount (nI c) = some (if xAcc c = true then 1 else 0) := by decide +kernel
def hdD (r : List Nat) : Bool := match r with
  | [] => false
  | c :: _ => xDig c
theorem isDig_hd {r : List Nat} (h : ∀ c ∈ r, c < 127) : fX6_isDigit (hdI r) = some (if hdD r = true then 1 else 0) := by
  cases r with
  | nil => rfl
  | cons c r => exact isDig_nI c (h c List.mem_cons_self)
theorem drop_mem {d r : List Nat} {i : Nat} (hr : d.drop i = r) {P : Nat → Prop} (h : ∀ c ∈ d, P c) : ∀ c ∈ r, P c := fun c hc => h c (by rw [← hr] at hc; exact List.mem_of_mem_drop hc)
theorem drop_add {d : List Nat} {i j : Nat} {r : List Nat} (hr : d.drop i = r) : d.drop (i + j) = r.drop j := by
  rw [← hr, List.drop_drop]
theorem drop_le {d r : List Nat} {i : Nat} (hr : d.drop i = r) (hi : i ≤ d.length) : d.length = i + r.length := by
  rw [← hr, List.length_drop]; omega
theorem nI_m1 (x : Int32) : x + (-1 : Int32) = x - 1 := (Int32.sub_eq_add_neg x 1).symm
theorem nI_eqc {a : Nat} (ha : a < 127) (b : Nat) (hb : b < 127) : nI a = nI b ↔ a = b := nI_eq (by omega) (by omega)
theorem nI_40 {a : Nat} (ha : a < 127) : nI a = (40 : Int32) ↔ a = 40 := nI_eqc ha 40 (by decide)
theorem nI_41 {a : Nat} (ha : a < 127) : nI a = (41 : Int32) ↔ a = 41 := nI_eqc ha 41 (by decide)
theorem nI_48 {a : Nat} (ha : a < 127) : nI a = (48 : Int32) ↔ a = 48 := nI_eqc ha 48 (by decide)
/-! the last "(" without its ")" -/
def rsc : List Nat → Nat → Option Nat
  | [], k => some k
  | c :: r, k => match rsc r k with
    | none => none
    | some m => if c = 41 then some (m + 1) else if c = 40 then (if m = 0 then none else some (m - 1)) else some m
theorem rsc_of : ∀ (y : List Nat) (o o' : Nat), dpl y o = some o' → ∀ k, rsc y (k + o') = some (k + o) := by
  intro y
  induction y with
  | nil =>
    intro o o' h k
    cases h
    rfl
  | cons c r ih =>
    intro o o' h k
    simp only [dpl] at h
    simp only [rsc]
    by_cases h40 : c = 40
    · rw [if_pos h40] at h
      rw [ih _ _ h k]
      subst h40
      simp
    · rw [if_neg h40] at h
      by_cases h41 : c = 41
      · rw [if_pos h41] at h
        by_cases h0 : o = 0
        · rw [if_pos h0] at h; cases h
        · rw [if_neg h0] at h
          rw [ih _ _ h k]
          simp only [if_pos h41]
          congr 1
          omega
      · rw [if_neg h41] at h
        rw [ih _ _ h k]
        simp only [if_neg h41, if_neg h40]
theorem SG.openL {n v q cap : Nat} {S : PS} {d : List Nat} (hv : SG S v q cap d) (hd : ∀ c ∈ d, c < 127) (B : List Nat) : ∀ (y A : List Nat) (k k' K : Nat), d = A ++ (y ++ B) → k + y.length < 1000 → rsc y k = some k' →
    k' + 0 ≤ k + y.length ∧ fX5_lastOpen_L9 n (K + y.length) S v (nI k) (nI (A.length + y.length) - 1) = fX5_lastOpen_L9 n K S v (nI k') (nI A.length - 1) := by
  intro y
  induction y with
  | nil =>
    intro A k k' K _ _ h
    cases h
    exact ⟨by simp, rfl⟩
  | cons c r ih =>
    intro A k k' K hA hk h
    simp only [rsc] at h
    cases hm : rsc r k with
    | none => rw [hm] at h; cases h
    | some m =>
      rw [hm] at h
      simp only [List.length_cons] at hk ⊢
      obtain ⟨hle, hrec⟩ := ih (A ++ [c]) k m (K + 1) (by rw [hA]; simp) (by omega) hm
      have el : (A ++ [c]).length = A.length + 1 := by simp
      rw [el] at hrec
      have e1 : K + (r.length + 1) = K + 1 + r.length := by omega
      have e2 : A.length + (r.length + 1) = A.length + 1 + r.length := by omega
      rw [e1, e2, hrec, nI_pred]
      have hdr : d.drop A.length = c :: (r ++ B) := by rw [hA, List.drop_left]; rfl
      have hc : c < 127 := drop_mem hdr hd c List.mem_cons_self
      have hlen := hv.lt
      have hAl : A.length < 1000 := by
        have : d.length = A.length + (r.length + 1 + B.length) := by rw [hA]; simp; omega
        omega
      have hcase : fX5_lastOpen_L9 n (K + 1) S v (nI m) (nI A.length) = fX5_lastOpen_L9 n K S v (nI k') (nI A.length - 1) := by
        conv => lhs; unfold fX5_lastOpen_L9
        rw [if_neg (nI_pos (by omega))]
        simp only [chk, hv.ok5, hv.atD hdr (by omega), bP, hdI, nI_m1]
        by_cases h41 : c = 41
        · rw [if_pos ((nI_41 hc).mpr h41), nI_1]
          simp only [if_pos h41] at h
          cases h
          rfl
        · rw [if_neg (fun z => h41 ((nI_41 hc).mp z))]
          simp only [if_neg h41] at h
          by_cases h40 : c = 40
          · rw [if_pos ((nI_40 hc).mpr h40)]
            simp only [if_pos h40] at h
            by_cases h0 : m = 0
            · rw [if_pos h0] at h; cases h
            · rw [if_neg h0] at h
              obtain ⟨m, rfl⟩ : ∃ m', m = m' + 1 := ⟨m - 1, by omega⟩
              rw [if_neg (nI_ne0 (by omega) (by omega))]
              cases h
              unfold fX5_lastOpen_J45
              simp only [chk, hv.ok5, hv.atD hdr (by omega), bP, hdI]
              rw [if_pos ((nI_40 hc).mpr h40)]
              simp only [nI_m1, nI_pred, Nat.add_sub_cancel]
          · rw [if_neg (fun z => h40 ((nI_40 hc).mp z))]
            simp only [if_neg h40] at h
            cases h
            unfold fX5_lastOpen_J45
            simp only [chk, hv.ok5, hv.atD hdr (by omega), bP, hdI]
            rw [if_neg (fun z => h40 ((nI_40 hc).mp z)), nI_m1]
      refine ⟨?_, hcase⟩
      by_cases h41 : c = 41
      · simp only [if_pos h41] at h; cases h; omega
      · simp only [if_neg h41] at h
        by_cases h40 : c = 40
        · simp only [if_pos h40] at h
          by_cases h0 : m = 0
          · rw [if_pos h0] at h; cases h
          · rw [if_neg h0] at h; cases h; omega
        · simp only [if_neg h40] at h; cases h; omega
theorem SG.opn {n v q cap : Nat} {S : PS} {A y : List Nat} (hv : SG S v q cap (A ++ 40 :: y)) (hd : ∀ c ∈ A ++ 40 :: y, c < 127) (hy : dpl y 0 = some 0) (hn : cap < n) : fX5_lastOpen n S v = some (nI A.length) := by
  have hlen := hv.lt
  have hle := hv.le
  have el : (A ++ 40 :: y).length = A.length + 1 + y.length := by simp; omega
  have hr : rsc y 0 = some 0 := rsc_of y 0 0 hy 0
  obtain ⟨K, hK⟩ : ∃ K, n = (K + 1) + y.length := ⟨n - 1 - y.length, by omega⟩
  have h := (SG.openL (n := n) hv hd [] y (A ++ [40]) 0 0 (K + 1) (by simp) (by omega) hr).2
  have el2 : (A ++ [40]).length = A.length + 1 := by simp
  rw [el2, ← hK, nI_pred] at h
  unfold fX5_lastOpen
  simp only [chk, hv.ok5, hv.size, bP, bnd, el]
  have e0 : nI 0 = (0 : Int32) := nI_0
  rw [e0] at h
  rw [h]
  have hdr : (A ++ 40 :: y).drop A.length = 40 :: y := List.drop_left
  unfold fX5_lastOpen_L9
  rw [if_neg (nI_pos (by omega))]
  simp only [chk, hv.ok5, hv.atD hdr (by omega), bP, hdI]
  rw [if_neg (by decide), if_pos (by decide), if_pos trivial]
  rfl
/-! is it one group -/
theorem SG.oneL {n v q cap : Nat} {S : PS} {d : List Nat} (hv : SG S v q cap d) (hd : ∀ c ∈ d, c < 127) (B : List Nat) : ∀ (y A : List Nat) (o o' K : Nat), d = A ++ (y ++ B) → o + y.length < 1000 → dpl y o = some o' →
    fX5_isOneGroupFrom_L16 n (K + y.length) S v (nI (o + 1)) (nI A.length) = fX5_isOneGroupFrom_L16 n K S v (nI (o' + 1)) (nI (A.length + y.length)) := by
  intro y
  induction y with
  | nil =>
    intro A o o' K _ _ h
    cases h
    rfl
  | cons c r ih =>
    intro A o o' K hA hk h
    simp only [dpl] at h
    simp only [List.length_cons] at hk ⊢
    have hdr : d.drop A.length = c :: (r ++ B) := by rw [hA, List.drop_left]; rfl
    have hc : c < 127 := drop_mem hdr hd c List.mem_cons_self
    have hlen := hv.lt
    have hdl : d.length = A.length + (r.length + 1 + B.length) := by rw [hA]; simp; omega
    have el : (A ++ [c]).length = A.length + 1 := by simp
    have e1 : K + (r.length + 1) = (K + r.length) + 1 := by omega
    have e2 : A.length + (r.length + 1) = (A.length + 1) + r.length := by omega
    rw [e1, e2]
    conv => lhs; unfold fX5_isOneGroupFrom_L16
    simp only [chk, hv.ok5, hv.size, bP]
    rw [if_neg (nI_ge (by omega) (by omega))]
    simp only [hv.atD hdr (by omega), hdI, nI_m1, nI_1]
    by_cases h40 : c = 40
    · rw [if_pos ((nI_40 hc).mpr h40)]
      rw [if_pos h40] at h
      have hrec := ih (A ++ [c]) (o + 1) o' K (by rw [hA]; simp) (by omega) h
      rw [el] at hrec
      unfold fX5_isOneGroupFrom_J53
      rw [if_neg (nI_ne0 (by omega) (by omega)), nI_1, hrec]
    · rw [if_neg (fun z => h40 ((nI_40 hc).mp z))]
      rw [if_neg h40] at h
      by_cases h41 : c = 41
      · rw [if_pos ((nI_41 hc).mpr h41)]
        rw [if_pos h41] at h
        by_cases h0 : o = 0
        · rw [if_pos h0] at h; cases h
        · rw [if_neg h0] at h
          have hrec := ih (A ++ [c]) (o - 1) o' K (by rw [hA]; simp) (by omega) h
          rw [el] at hrec
          unfold fX5_isOneGroupFrom_J53
          have e3 : o - 1 + 1 = o := by omega
          rw [e3] at hrec
          rw [nI_pred, if_neg (nI_ne0 (by omega) (by omega)), nI_1, hrec]
      · rw [if_neg (fun z => h41 ((nI_41 hc).mp z))]
        rw [if_neg h41] at h
        have hrec := ih (A ++ [c]) o o' K (by rw [hA]; simp) (by omega) h
        rw [el] at hrec
        unfold fX5_isOneGroupFrom_J53
        rw [if_neg (nI_ne0 (by omega) (by omega)), nI_1, hrec]
theorem SG.isOne {n v q cap : Nat} {S : PS} {A y r : List Nat} (hv : SG S v q cap (A ++ 40 :: (y ++ 41 :: r))) (hd : ∀ c ∈ A ++ 40 :: (y ++ 41 :: r), c < 127) (hy : dpl y 0 = some 0) (hr : 2 ≤ r.length) (hn : cap < n) : fX5_isOneGroupFrom n S v (nI A.length) = some (if r.length = 2 then 1 else 0) := by
  have hlen := hv.lt
  have hle := hv.le
  have el : (A ++ 40 :: (y ++ 41 :: r)).length = A.length + 1 + y.length + 1 + r.length := by simp; omega
  have hdr : (A ++ 40 :: (y ++ 41 :: r)).drop A.length = 40 :: (y ++ 41 :: r) := List.drop_left
  obtain ⟨K, hK⟩ : ∃ K, n = ((K + 1) + y.length) + 1 := ⟨n - 2 - y.length, by omega⟩
  have h := SG.oneL (n := n) hv hd (41 :: r) y (A ++ [40]) 0 0 (K + 1) (by simp) (by omega) hy
  have el2 : (A ++ [40]).length = A.length + 1 := by simp
  rw [el2] at h
  unfold fX5_isOneGroupFrom
  simp only [chk, hv.ok5, hv.atD hdr (by omega), bP, hdI]
  rw [if_pos (show nI 40 = (40 : Int32) by decide)]
  have step1 : fX5_isOneGroupFrom_L16 n n S v (0 : Int32) (nI A.length) = fX5_isOneGroupFrom_L16 n ((K + 1) + y.length) S v (nI (0 + 1)) (nI (A.length + 1)) := by
    conv => lhs; rw [show fX5_isOneGroupFrom_L16 n n = fX5_isOneGroupFrom_L16 n (((K + 1) + y.length) + 1) by rw [← hK]]
    conv => lhs; unfold fX5_isOneGroupFrom_L16
    simp only [chk, hv.ok5, hv.size, bP, el]
    rw [if_neg (nI_ge (by omega) (by omega))]
    simp only [hv.atD hdr (by omega), hdI]
    rw [if_pos (show nI 40 = (40 : Int32) by decide)]
    unfold fX5_isOneGroupFrom_J53
    rw [if_neg (show ¬ ((0 : Int32) + 1 = 0) by decide), nI_1]
    rfl
  rw [step1, h]
  have hdr2 : (A ++ 40 :: (y ++ 41 :: r)).drop (A.length + 1 + y.length) = 41 :: r := by
    have e : A ++ 40 :: (y ++ 41 :: r) = (A ++ [40] ++ y) ++ (41 :: r) := by simp
    rw [e]
    have e2 : A.length + 1 + y.length = (A ++ [40] ++ y).length := by simp; omega
    rw [e2, List.drop_left]
  unfold fX5_isOneGroupFrom_L16
  simp only [chk, hv.ok5, hv.size, bP, el]
  rw [if_neg (nI_ge (by omega) (by omega))]
  simp only [hv.atD hdr2 (by omega), hdI]
  rw [if_neg (show ¬ (nI 41 = (40 : Int32)) by decide), if_pos (show nI 41 = (41 : Int32) by decide)]
  unfold fX5_isOneGroupFrom_J53
  rw [if_pos (show nI (0 + 1) + (-1 : Int32) = 0 by decide)]
  simp only [chk, hv.ok5, hv.size, bP, el]
  have e3 : nI (A.length + 1 + y.length + 1 + r.length) - (3 : Int32) = nI (A.length + 1 + y.length + (r.length - 2)) := by
    have : A.length + 1 + y.length + 1 + r.length = (A.length + 1 + y.length + (r.length - 2)) + 3 := by omega
    rw [this, ← nI_add]
    exact Int32.add_sub_cancel _ 3
  rw [e3]
  by_cases h2 : r.length = 2
  · rw [if_pos h2, if_pos (congrArg nI (by omega))]
    rfl
  · rw [if_neg h2, if_neg (fun z => h2 (by have := (nI_eq (by omega) (by omega)).mp z; omega))]
    rfl
theorem SG.isOneNo {n v q cap : Nat} {S : PS} {d r : List Nat} {i : Nat} (hv : SG S v q cap d) (hdr : d.drop i = r) (hi : i < 1000) (h : hdI r ≠ 40) : fX5_isOneGroupFrom n S v (nI i) = some 0 := by
  unfold fX5_isOneGroupFrom
  simp only [chk, hv.ok5, hv.atD hdr (by omega), bP]
  rw [if_neg h]
  rfl
