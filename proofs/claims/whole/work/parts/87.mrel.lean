/-! what the reference holds -/
def ME (w : MW) (j : Nat) (E : Ent) : Prop := w.2 4 j = b2i E.2.2.2 ∧ w.2 5 j = nI E.1.length ∧ (∀ k, k < E.1.length → w.2 6 (60 * j + k) = nI (E.1.getD k 0)) ∧ w.2 7 j = nI E.2.1.length ∧ (∀ k, k < E.2.1.length → w.2 8 (60 * j + k) = nI (E.2.1.getD k 0)) ∧ w.2 9 j = nI E.2.2.1.length ∧
  ∀ k p, E.2.2.1[k]? = some p → w.2 10 (16 * j + k) = nI p.1 ∧ w.2 11 (16 * j + k) = b2i p.2.1 ∧ w.2 12 (16 * j + k) = nI p.2.2.1 ∧ w.2 13 (16 * j + k) = nI p.2.2.2
def MR (w : MW) (j : Nat) (R : Rul) : Prop := w.2 16 j = nI R.1 ∧ w.2 17 j = nI R.2.1 ∧ w.2 18 j = nI R.2.2.1 ∧ w.2 19 j = R.2.2.2.1 ∧ w.2 20 j = b2i R.2.2.2.2
def MU (w : MW) (j : Nat) (U : Aud) : Prop := w.2 22 j = nI U.1 ∧ w.2 23 j = nI U.2.1 ∧ w.2 24 j = U.2.2.1 ∧ w.2 25 j = b2i U.2.2.2
def RM (w : MW) (A : Abs) : Prop := mDraft w A.1 ∧ (w.1 3 = nI A.2.1.length ∧ (∀ j E, A.2.1[j]? = some E → ME w j E) ∧ ∀ j, j < A.2.1.length → w.2 14 j = prf A.2.1 j) ∧ (w.1 15 = nI A.2.2.1.length ∧ ∀ j R, A.2.2.1[j]? = some R → MR w j R) ∧ w.1 21 = nI A.2.2.2.length ∧ ∀ j U, A.2.2.2[j]? = some U → MU w j U
theorem ME.keep {w w1 : MW} {j : Nat} {E : Ent} (h : ME w j E) (hk : ∀ k, 4 ≤ k → k < 14 → w1.2 k = w.2 k) : ME w1 j E := by
  unfold ME
  rw [hk 4 (by decide) (by decide), hk 5 (by decide) (by decide), hk 6 (by decide) (by decide), hk 7 (by decide) (by decide), hk 8 (by decide) (by decide), hk 9 (by decide) (by decide), hk 10 (by decide) (by decide), hk 11 (by decide) (by decide), hk 12 (by decide) (by decide), hk 13 (by decide) (by decide)]
  exact h
theorem MR.keep {w w1 : MW} {j : Nat} {R : Rul} (h : MR w j R) (hk : ∀ k, 16 ≤ k → k < 21 → w1.2 k = w.2 k) : MR w1 j R := by
  unfold MR
  rw [hk 16 (by decide) (by decide), hk 17 (by decide) (by decide), hk 18 (by decide) (by decide), hk 19 (by decide) (by decide), hk 20 (by decide) (by decide)]
  exact h
theorem MU.keep {w w1 : MW} {j : Nat} {U : Aud} (h : MU w j U) (hk : ∀ k, 22 ≤ k → k < 26 → w1.2 k = w.2 k) : MU w1 j U := by
  unfold MU
  rw [hk 22 (by decide) (by decide), hk 23 (by decide) (by decide), hk 24 (by decide) (by decide), hk 25 (by decide) (by decide)]
  exact h
theorem RM.keep {w w1 : MW} {A : Abs} (h : RM w A) (h1 : ∀ k, 1 ≤ k → k < 26 → w1.1 k = w.1 k ∧ w1.2 k = w.2 k) : RM w1 A := by
  obtain ⟨⟨d1, d2, d3⟩, ⟨e1, e2, e3⟩, ⟨r1, r2⟩, u1, u2⟩ := h
  exact ⟨⟨by rw [(h1 1 (by decide) (by decide)).1]; exact d1, by rw [(h1 2 (by decide) (by decide)).2]; exact d2, d3⟩, ⟨by rw [(h1 3 (by decide) (by decide)).1]; exact e1, fun j E he => (e2 j E he).keep (fun k a b => (h1 k (by omega) (by omega)).2), fun j hj => by rw [(h1 14 (by decide) (by decide)).2]; exact e3 j hj⟩, ⟨by rw [(h1 15 (by decide) (by decide)).1]; exact r1, fun j R hr => (r2 j R hr).keep (fun k a b => (h1 k (by omega) (by omega)).2)⟩, by rw [(h1 21 (by decide) (by decide)).1]; exact u1, fun j U hu => (u2 j U hu).keep (fun k a b => (h1 k (by omega) (by omega)).2)⟩
theorem RM.keepF {w w1 : MW} {A : Abs} (h : RM w A) (h1 : MFR w w1) : RM w1 A := h.keep (fun k _ b => h1 k b)
theorem RM.thr {w : MW} {A : Abs} (h : RM w A) (v : Int32) : RM (mS w 0 v) A := h.keep (fun k a _ => ⟨if_neg (by omega), rfl⟩)
theorem isOf0 {w : MW} : fX7_isOf w 0 = some (1, mS w 0 0) := rfl
theorem isOfT {w : MW} {v : Int32} (h : v ≠ 0) : fX7_isOf w v = some (0, mS w 0 v) := by
  unfold fX7_isOf
  simp only [bnd]
  rw [if_neg h]
  rfl
theorem isInN {v : Int32} {n : Nat} (hn : n < 2 ^ 31) : fX7_isIn v (0 : Int32) (nI n - 1) = some (b2i (inB v n)) := by
  unfold fX7_isIn
  by_cases h0 : v < 0
  · rw [if_pos h0]
    have : inB v n = false := by simp [inB, h0]
    rw [this]
    rfl
  · rw [if_neg h0]
    obtain ⟨j, hj, rfl⟩ := nI_of h0
    cases n with
    | zero =>
      have e : nI 0 - 1 = (-1 : Int32) := rfl
      have hlt : (-1 : Int32) < nI j := by
        have h1 : (0 : Int32) ≤ nI j := nI_pos' hj
        rw [Int32.lt_iff_toInt_lt]
        have h2 := Int32.le_iff_toInt_le.mp h1
        have h3 : (-1 : Int32).toInt = -1 := rfl
        have h4 : (0 : Int32).toInt = 0 := rfl
        omega
      rw [e, if_pos hlt]
      have : inB (nI j) 0 = false := by simp [inB]
      rw [this]
      rfl
    | succ m =>
      rw [nI_pred]
      by_cases hjm : j < m + 1
      · rw [if_neg (show ¬ nI m < nI j from nI_nlt (by omega) (by omega)), inB_nI hjm hn]
        rfl
      · rw [if_pos (nI_lt (by omega) hj)]
        have : inB (nI j) (m + 1) = false := by
          have h9 : ¬ j < m + 1 := hjm
          simp [inB, nI_clamp hj, h9]
        rw [this]
        rfl
theorem isIn8 {v : Int32} : fX7_isIn v (0 : Int32) (7 : Int32) = some (b2i (inB v 8)) := isInN (n := 8) (by decide)
theorem isIn4 {v : Int32} : fX7_isIn v (0 : Int32) (3 : Int32) = some (b2i (inB v 4)) := isInN (n := 4) (by decide)
theorem isIn3 {v : Int32} : fX7_isIn v (0 : Int32) (2 : Int32) = some (b2i (inB v 3)) := isInN (n := 3) (by decide)
section RMsec
variable {w : MW} {A : Abs}
theorem RM.isE (h : RM w A) (hW : WF A) (v : Int32) : fX7_isEntry w v = some (b2i (inB v A.2.1.length)) := by
  unfold fX7_isEntry
  rw [h.2.1.1, isInN (by have := hW.2.1.1; omega)]
  simp only [bP, b2i_01, chk]
theorem RM.isR (h : RM w A) (hW : WF A) (v : Int32) : fX7_isRule w v = some (b2i (inB v A.2.2.1.length)) := by
  unfold fX7_isRule
  rw [h.2.2.1.1, isInN (by have := hW.2.2.1.1; omega)]
  simp only [bP, b2i_01, chk]
theorem RM.isA (h : RM w A) (hW : WF A) (v : Int32) : fX7_isAudit w v = some (b2i (inB v A.2.2.2.length)) := by
  unfold fX7_isAudit
  rw [h.2.2.2.1, isInN (by have := hW.2.2.2.1; omega)]
  simp only [bP, b2i_01, chk]
theorem RM.me (h : RM w A) {j : Nat} (hj : j < A.2.1.length) : ME w j (A.2.1.getD j ([], [], [], false)) := h.2.1.2.1 j _ (getE hj)
theorem RM.mr (h : RM w A) {j : Nat} (hj : j < A.2.2.1.length) : MR w j (A.2.2.1.getD j (0, 0, 0, 0, false)) := h.2.2.1.2 j _ (getR hj)
theorem RM.mu (h : RM w A) {j : Nat} (hj : j < A.2.2.2.length) : MU w j (A.2.2.2.getD j (0, 0, 0, false)) := h.2.2.2.2 j _ (getU hj)
/-- is an entry frozen -/
theorem isInIn {j a b : Nat} (hj : j < 2 ^ 31) (ha : a < 2 ^ 31) (hb : b < 2 ^ 31) : fX7_isIn (nI j) (nI a) (nI b) = some (b2i (decide (a ≤ j) && decide (j ≤ b))) := by
  unfold fX7_isIn
  by_cases h1 : j < a
  · rw [if_pos (nI_lt h1 ha), decide_eq_false (show ¬ a ≤ j by omega)]
    rfl
  · rw [if_neg (nI_nlt (by omega) hj), decide_eq_true (show a ≤ j by omega)]
    by_cases h2 : b < j
    · rw [if_pos (nI_lt h2 hj), decide_eq_false (show ¬ j ≤ b by omega)]
      rfl
    · rw [if_neg (nI_nlt (by omega) hb), decide_eq_true (show j ≤ b by omega)]
      rfl
theorem RM.frzL {n : Nat} (h : RM w A) (hW : WF A) {j : Nat} (hj : j < 2 ^ 31) : ∀ (r : List Aud) (i k : Nat) (b : Bool), A.2.2.2.drop i = r → i ≤ 30 → r.length < k → fX7_frozen_L4 n k w (nI j) (b2i b) (nI i) = some (b2i (b || frz r j)) := by
  have h6 := hW.2.2.2.1
  intro r
  induction r with
  | nil =>
    intro i k b hdr hi hk
    obtain ⟨k, rfl⟩ : ∃ k', k = k' + 1 := ⟨k - 1, by simp at hk; omega⟩
    unfold fX7_frozen_L4
    rw [h.2.2.2.1, if_pos (nI_le (ldnil hdr) (by omega))]
    simp [frz]
  | cons U r ih =>
    intro i k b hdr hi hk
    obtain ⟨k, rfl⟩ : ∃ k', k = k' + 1 := ⟨k - 1, by simp at hk; omega⟩
    obtain ⟨hlt, hg, hdr2⟩ := ldrop hdr
    simp only [List.length_cons] at hk
    obtain ⟨u1, u2, u3, u4⟩ := h.2.2.2.2 i U hg
    have hb := hW.2.2.2.2 U (List.mem_of_getElem? hg)
    have hn24 := hW.2.1.1
    have hrec := fun b => ih (i + 1) k b hdr2 (by omega) (by omega)
    have ht : b2i true = (1 : Int32) := rfl
    have hff : b2i false = (0 : Int32) := rfl
    have hf : frz (U :: r) j = ((!U.2.2.2 && decide (U.1 ≤ j) && decide (j ≤ U.2.1)) || frz r j) := rfl
    unfold fX7_frozen_L4
    rw [h.2.2.2.1, if_neg (nI_ge hlt (by omega)), hf]
    cases b with
    | true =>
      rw [if_neg (show ¬ (b2i true = (0 : Int32)) by decide), nI_1, ← ht, hrec true]
      rfl
    | false =>
      rw [if_pos (show b2i false = (0 : Int32) from rfl), inB_nI (show i < mLen 25 from (by show i < 6; omega)) (by decide), inB_nI (show i < mLen 22 from (by show i < 6; omega)) (by decide), inB_nI (show i < mLen 23 from (by show i < 6; omega)) (by decide), nI_clamp (by omega), u4, u1, u2]
      simp only [chk]
      cases hU : U.2.2.2 with
      | true =>
        rw [if_neg (show ¬ (b2i true = (0 : Int32)) by decide), nI_1, ← hff, hrec false]
        rfl
      | false =>
        rw [if_pos (show b2i false = (0 : Int32) from rfl), isInIn hj (by omega) (by omega)]
        simp only [bP, nI_1]
        cases hd : (decide (U.1 ≤ j) && decide (j ≤ U.2.1)) with
        | true =>
          rw [if_neg (show ¬ (b2i true = (0 : Int32)) by decide), ← ht, hrec true]
          simp [hd]
        | false =>
          rw [if_pos (show b2i false = (0 : Int32) from rfl), ← hff, hrec false]
          have : (!false && decide (U.1 ≤ j) && decide (j ≤ U.2.1)) = false := by simpa using hd
          rw [this]
          rfl
theorem RM.frz {n : Nat} (h : RM w A) (hW : WF A) {j : Nat} (hj : j < 2 ^ 31) (hn : 24 < n) : fX7_frozen n w (nI j) = some (b2i (frz A.2.2.2 j)) := by
  have hl := RM.frzL (n := n) h hW hj A.2.2.2 0 n false rfl (by omega) (by have := hW.2.2.2.1; omega)
  have e0 : nI 0 = (0 : Int32) := nI_0
  have ef : b2i false = (0 : Int32) := rfl
  rw [e0, ef, Bool.false_or] at hl
  unfold fX7_frozen
  rw [hl]
  simp only [bL1, b2i_01, chk]
/-- sums -/
theorem ME.gotL {n j : Nat} {E : Ent} (h : ME w j E) (hj : j < 24) (hl : E.2.2.1.length ≤ 15) (hp8 : ∀ p ∈ E.2.2.1, p.1 < 8) {a : Nat} (ha : a < 8) : ∀ (r : List Pst) (i k : Nat) (s : Int32), E.2.2.1.drop i = r → i ≤ 15 → r.length < k → fX7_got_L8 n k w (nI j) (nI a) s (nI (16 * j + i)) = some (r.foldl (fun s p => if p.1 = a then s + pAmt p else s) s) := by
  obtain ⟨-, -, -, -, -, h9, hps⟩ := h
  have e16 : (16 : Int32) * nI j = nI (16 * j) := nI_mul 16 j
  intro r
  induction r with
  | nil =>
    intro i k s hdr hi hk
    obtain ⟨k, rfl⟩ : ∃ k', k = k' + 1 := ⟨k - 1, by simp at hk; omega⟩
    have := ldnil hdr
    unfold fX7_got_L8
    rw [inB_nI (show j < mLen 9 from hj) (by decide), nI_clamp (by omega), h9, e16, nI_add]
    simp only [chk]
    rw [if_pos (nI_le (by omega) (by omega))]
    rfl
  | cons p r ih =>
    intro i k s hdr hi hk
    obtain ⟨k, rfl⟩ : ∃ k', k = k' + 1 := ⟨k - 1, by simp at hk; omega⟩
    obtain ⟨hlt, hg, hdr2⟩ := ldrop hdr
    simp only [List.length_cons] at hk
    obtain ⟨p1, p2, p3, p4⟩ := hps i p hg
    have hp := hp8 p (List.mem_of_getElem? hg)
    have hrec := fun s => ih (i + 1) k s hdr2 (by omega) (by omega)
    unfold fX7_got_L8
    rw [inB_nI (show j < mLen 9 from hj) (by decide), nI_clamp (show j < 2 ^ 31 by omega), h9, e16, nI_add]
    simp only [chk]
    rw [if_neg (nI_ge (by omega) (by omega)), inB_nI (show 16 * j + i < mLen 10 from (by show 16 * j + i < 384; omega)) (by decide), nI_clamp (show 16 * j + i < 2 ^ 31 by omega), p1]
    simp only [nI_1]
    rw [List.foldl_cons]
    by_cases hpa : p.1 = a
    · rw [if_pos (by rw [hpa]), if_pos hpa]
      unfold fX7_amountOf
      rw [inB_nI (show 16 * j + i < mLen 11 from (by show 16 * j + i < 384; omega)) (by decide), inB_nI (show 16 * j + i < mLen 12 from (by show 16 * j + i < 384; omega)) (by decide), inB_nI (show 16 * j + i < mLen 13 from (by show 16 * j + i < 384; omega)) (by decide), nI_clamp (show 16 * j + i < 2 ^ 31 by omega), p2, p3, p4]
      simp only [chk]
      have hmul : (if p.2.1 = true then -nI p.2.2.1 else nI p.2.2.1) * nI p.2.2.2 = pAmt p := Int32.mul_comm _ _
      cases hb : p.2.1 with
      | true =>
        rw [hb] at hmul
        rw [if_neg (show ¬ (b2i true = (0 : Int32)) by decide)]
        have hmul : -nI p.2.2.1 * nI p.2.2.2 = pAmt p := hmul
        simp only [bP, bnd, hmul]
        exact hrec _
      | false =>
        rw [hb] at hmul
        rw [if_pos (show b2i false = (0 : Int32) from rfl)]
        have hmul : nI p.2.2.1 * nI p.2.2.2 = pAmt p := hmul
        simp only [bP, bnd, hmul]
        exact hrec _
    · rw [if_neg (fun z => hpa ((nI_eq (by omega) (by omega)).mp z)), if_neg hpa]
      simp only [bnd, Int32.add_zero]
      exact hrec _
theorem ME.got {n j : Nat} {E : Ent} (h : ME w j E) (hj : j < 24) (hE : WE E) {a : Nat} (ha : a < 8) (hn : 16 < n) : fX7_got n w (nI j) (nI a) = some (gts E.2.2.1 a) := by
  obtain ⟨w1, w2, w3, w4, w5, w6, w7, w8, w9, w10, w11⟩ := hE
  have hl := ME.gotL (n := n) h hj w10 (fun p hp => (w11 p hp).1) ha E.2.2.1 0 n 0 rfl (by omega) (by omega)
  have e16 : (16 : Int32) * nI j = nI (16 * j) := nI_mul 16 j
  rw [Nat.add_zero] at hl
  unfold fX7_got
  simp only [bnd, e16, hl, bL1]
  rfl
theorem ME.hasL {n j : Nat} {E : Ent} (h : ME w j E) (hj : j < 24) (hl : E.2.2.1.length ≤ 15) (hp8 : ∀ p ∈ E.2.2.1, p.1 < 8) {a : Nat} (ha : a < 8) : ∀ (r : List Pst) (i k : Nat) (b : Bool), E.2.2.1.drop i = r → i ≤ 15 → r.length < k → fX7_has_L8 n k w (nI j) (nI a) (b2i b) (nI (16 * j + i)) = some (b2i (b || has r a)) := by
  obtain ⟨-, -, -, -, -, h9, hps⟩ := h
  have e16 : (16 : Int32) * nI j = nI (16 * j) := nI_mul 16 j
  have ht : b2i true = (1 : Int32) := rfl
  have hff : b2i false = (0 : Int32) := rfl
  intro r
  induction r with
  | nil =>
    intro i k b hdr hi hk
    obtain ⟨k, rfl⟩ : ∃ k', k = k' + 1 := ⟨k - 1, by simp at hk; omega⟩
    have := ldnil hdr
    unfold fX7_has_L8
    rw [inB_nI (show j < mLen 9 from hj) (by decide), nI_clamp (by omega), h9, e16, nI_add]
    simp only [chk]
    rw [if_pos (nI_le (by omega) (by omega))]
    simp [has]
  | cons p r ih =>
    intro i k b hdr hi hk
    obtain ⟨k, rfl⟩ : ∃ k', k = k' + 1 := ⟨k - 1, by simp at hk; omega⟩
    obtain ⟨hlt, hg, hdr2⟩ := ldrop hdr
    simp only [List.length_cons] at hk
    obtain ⟨p1, p2, p3, p4⟩ := hps i p hg
    have hp := hp8 p (List.mem_of_getElem? hg)
    have hrec := fun b => ih (i + 1) k b hdr2 (by omega) (by omega)
    have hh : has (p :: r) a = (decide (p.1 = a) || has r a) := rfl
    unfold fX7_has_L8
    rw [inB_nI (show j < mLen 9 from hj) (by decide), nI_clamp (show j < 2 ^ 31 by omega), h9, e16, nI_add, hh]
    simp only [chk]
    rw [if_neg (nI_ge (by omega) (by omega)), nI_1]
    cases b with
    | true =>
      rw [if_neg (show ¬ (b2i true = (0 : Int32)) by decide), ← ht]
      rw [show 16 * j + i + 1 = 16 * j + (i + 1) by omega, hrec true]
      rfl
    | false =>
      rw [if_pos (show b2i false = (0 : Int32) from rfl), inB_nI (show 16 * j + i < mLen 10 from (by show 16 * j + i < 384; omega)) (by decide), nI_clamp (show 16 * j + i < 2 ^ 31 by omega), p1]
      simp only []
      rw [show 16 * j + i + 1 = 16 * j + (i + 1) by omega]
      by_cases hpa : p.1 = a
      · rw [if_pos (by rw [hpa]), ← ht, hrec true, decide_eq_true hpa]
        rfl
      · rw [if_neg (fun z => hpa ((nI_eq (by omega) (by omega)).mp z)), ← hff, hrec false, decide_eq_false hpa]
        rfl
theorem ME.has {n j : Nat} {E : Ent} (h : ME w j E) (hj : j < 24) (hE : WE E) {a : Nat} (ha : a < 8) (hn : 16 < n) : fX7_has n w (nI j) (nI a) = some (b2i (has E.2.2.1 a)) := by
  obtain ⟨w1, w2, w3, w4, w5, w6, w7, w8, w9, w10, w11⟩ := hE
  have hl := ME.hasL (n := n) h hj w10 (fun p hp => (w11 p hp).1) ha E.2.2.1 0 n false rfl (by omega) (by omega)
  have e16 : (16 : Int32) * nI j = nI (16 * j) := nI_mul 16 j
  have hff : b2i false = (0 : Int32) := rfl
  rw [Nat.add_zero, hff, Bool.false_or] at hl
  unfold fX7_has
  simp only [bnd, e16, hl, bL1, b2i_01, chk]
theorem RM.smUL {n : Nat} (h : RM w A) (hW : WF A) {m : Nat} (hm : m ≤ A.2.1.length) {v : Int32} (hv : v = nI m - 1) {c : Nat} (hc : c < 8) (hn : 16 < n) : ∀ (r : List Ent) (i k : Nat) (s : Int32), A.2.1.drop i = r → i ≤ m → r.length < k → fX7_upTo_L5 n k w v (nI c) s (nI i) = some (smU c s (r.take (m - i))) := by
  have hn24 := hW.2.1.1
  have hlt : ∀ i, i ≤ m → (v < nI i ↔ i = m) := by
    intro i hi
    rw [hv]
    cases m with
    | zero =>
      have : i = 0 := by omega
      subst this
      exact ⟨fun _ => rfl, fun _ => by decide⟩
    | succ m =>
      rw [nI_pred]
      constructor
      · intro z
        have := (nI_ltI (show m < 2 ^ 31 by omega) (show i < 2 ^ 31 by omega)).mp z
        omega
      · intro z
        exact nI_lt (by omega) (by omega)
  intro r
  induction r with
  | nil =>
    intro i k s hdr hi hk
    obtain ⟨k, rfl⟩ : ∃ k', k = k' + 1 := ⟨k - 1, by simp at hk; omega⟩
    have hge := ldnil hdr
    unfold fX7_upTo_L5
    rw [if_pos ((hlt i hi).mpr (by omega))]
    simp [smU]
  | cons E r ih =>
    intro i k s hdr hi hk
    obtain ⟨k, rfl⟩ : ∃ k', k = k' + 1 := ⟨k - 1, by simp at hk; omega⟩
    obtain ⟨hl, hg, hdr2⟩ := ldrop hdr
    simp only [List.length_cons] at hk
    have hE := h.2.1.2.1 i E hg
    have hWE := hW.2.1.2 E (List.mem_of_getElem? hg)
    unfold fX7_upTo_L5
    by_cases him : i = m
    · rw [if_pos ((hlt i hi).mpr him), him, Nat.sub_self, List.take_zero]
      rfl
    · rw [if_neg (fun z => him ((hlt i hi).mp z)), hE.got (by omega) hWE hc hn]
      simp only [bP, bnd, nI_1]
      rw [ih (i + 1) k _ hdr2 (by omega) (by omega)]
      have e : m - i = (m - (i + 1)) + 1 := by omega
      rw [e, List.take_succ_cons]
      rfl
theorem RM.smU {n : Nat} (h : RM w A) (hW : WF A) {m : Nat} (hm : m ≤ A.2.1.length) {v : Int32} (hv : v = nI m - 1) {c : Nat} (hc : c < 8) (hn : 24 < n) : fX7_upTo n w v (nI c) = some (smU c 0 (A.2.1.take m)) := by
  have hl := RM.smUL (n := n) h hW hm hv hc (by omega) A.2.1 0 n 0 rfl (by omega) (by have := hW.2.1.1; omega)
  have e0 : nI 0 = (0 : Int32) := nI_0
  rw [e0] at hl
  unfold fX7_upTo
  rw [hl]
  rfl
theorem ME.almL {n j : Nat} {E : Ent} (h : ME w j E) (hj : j < 24) (hE : WE E) (hn : 16 < n) : ∀ (m i k : Nat) (s : Int32), i + m = 8 → m < k → fX7_isDoubted_L156 n k w (nI j) s (nI i) = some (((List.range 8).drop i).foldl (fun s a => s + gts E.2.2.1 a) s) := by
  intro m
  induction m with
  | zero =>
    intro i k s hi hk
    obtain ⟨k, rfl⟩ : ∃ k', k = k' + 1 := ⟨k - 1, by omega⟩
    have : i = 8 := by omega
    subst this
    unfold fX7_isDoubted_L156
    rw [if_pos (show (8 : Int32) ≤ nI 8 from Int32.le_refl _)]
    rfl
  | succ m ih =>
    intro i k s hi hk
    obtain ⟨k, rfl⟩ : ∃ k', k = k' + 1 := ⟨k - 1, by omega⟩
    unfold fX7_isDoubted_L156
    rw [if_neg (show ¬ ((8 : Int32) ≤ nI i) from nI_ge (b := 8) (by omega) (by decide)), h.got hj hE (by omega) hn]
    simp only [bP, bnd, nI_1]
    rw [ih (i + 1) k _ (by omega) (by omega)]
    have hd : (List.range 8).drop i = i :: (List.range 8).drop (i + 1) := by
      rw [List.drop_eq_getElem_cons (by simp; omega), List.getElem_range]
    rw [hd]
    rfl
theorem RM.dbt {n : Nat} (h : RM w A) (hW : WF A) (hn : 60 < n) {j jr : Nat} (hj : j < A.2.1.length) (hjr : jr < A.2.2.1.length) : fX7_isDoubted n w (nI j) (nI jr) = some (b2i (dbt A.2.1 (A.2.2.1.getD jr (0, 0, 0, 0, false)) j)) := by
  have hr := h.mr hjr
  have hRm := hW.2.2.1.2 _ (List.mem_of_getElem? (getR hjr))
  have hE := h.me hj
  have hWE := hW.ent hj
  have h24 := hW.2.1.1
  have h8 := hW.2.2.1.1
  obtain ⟨R, hRe⟩ : ∃ R, R = A.2.2.1.getD jr (0, 0, 0, 0, false) := ⟨_, rfl⟩
  rw [← hRe] at hr hRm ⊢
  obtain ⟨E, hEe⟩ : ∃ E, E = A.2.1.getD j ([], [], [], false) := ⟨_, rfl⟩
  rw [← hEe] at hE hWE
  obtain ⟨b1, b2, b3, b4, b5⟩ := hr
  obtain ⟨q1, q2, q3, q4, q5, q6⟩ := hRm
  unfold fX7_isDoubted Jvm.Pilot.CPostlintLaw_law_r3329_88fbce.dbt
  rw [← hEe, inB_nI (show jr < mLen 20 from (by show jr < 8; omega)) (by decide), inB_nI (show jr < mLen 16 from (by show jr < 8; omega)) (by decide), inB_nI (show jr < mLen 17 from (by show jr < 8; omega)) (by decide), inB_nI (show jr < mLen 18 from (by show jr < 8; omega)) (by decide), inB_nI (show jr < mLen 19 from (by show jr < 8; omega)) (by decide), inB_nI (show j < mLen 4 from (by show j < 24; omega)) (by decide), nI_clamp (show jr < 2 ^ 31 by omega), nI_clamp (show j < 2 ^ 31 by omega), b1, b2, b3, b4, b5, hE.1]
  simp only [chk]
  by_cases hb : R.2.2.2.2 = true
  · rw [if_neg (fun z => by rw [b2i_0.mp z] at hb; cases hb), if_pos hb]
    rfl
  · rw [if_pos (b2i_0.mpr (by simpa using hb)), if_neg hb]
    by_cases h3 : R.1 = 3
    · rw [if_pos (show nI R.1 = (3 : Int32) by rw [h3]; rfl), if_pos h3, h.smU hW (m := j + 1) (by omega) (nI_pred j).symm q2 (by omega)]
      simp only [bP]
      by_cases hc : R.2.2.2.1 ≤ Jvm.Pilot.CPostlintLaw_law_r3329_88fbce.smU R.2.1 0 (A.2.1.take (j + 1))
      · rw [if_pos hc, decide_eq_false (fun z => absurd (Int32.lt_of_lt_of_le z hc) (Int32.lt_irrefl))]
        rfl
      · rw [if_neg hc, decide_eq_true (Int32.not_le.mp hc)]
        rfl
    · rw [if_neg (show ¬ (nI R.1 = (3 : Int32)) from fun z => h3 ((nI_eq (b := 3) (by omega) (by decide)).mp z)), if_neg h3]
      unfold alo
      by_cases hs : E.2.2.2 = true
      · -- struck out: nothing counts
        have hps : E.2.2.1 = [] := (hWE.2.2.2.2.2.1 hs).2.2
        rw [if_neg (fun z => by rw [b2i_0.mp z] at hs; cases hs), hps]
        have e1 : alm [] = 0 := by decide
        have e2 : ∀ a, gts [] a = 0 := fun _ => rfl
        have e3 : ∀ a, has [] a = false := fun _ => rfl
        rw [e1, e2, e3, e3]
        by_cases h0 : R.1 = 0
        · rw [if_pos h0]; rfl
        · rw [if_neg h0]
          by_cases h1 : R.1 = 1
          · rw [if_pos h1]
            have hN := q4 h1
            have : ¬ (R.2.2.2.1 < 0 ∨ (0 : Int32) < -R.2.2.2.1) := by
              have := (abs_cmp (x := 0) (N := R.2.2.2.1) ⟨0, rfl, by decide, by decide⟩ ⟨hN, q6⟩).mp (by
                rw [if_pos (Int32.le_refl 0)]; exact hN)
              exact this
            rw [decide_eq_false this]
            rfl
          · rw [if_neg h1]
            by_cases h2 : R.1 = 2
            · rw [if_pos h2]; rfl
            · rw [if_neg h2]; rfl
      · rw [if_pos (b2i_0.mpr (by simpa using hs))]
        have hj24 : j < 24 := by omega
        by_cases h2 : R.1 = 2
        · rw [if_pos (show nI R.1 = (2 : Int32) by rw [h2]; rfl), hE.has hj24 hWE q2 (by omega), hE.has hj24 hWE q3 (by omega), if_neg (by omega), if_neg (by omega), if_pos h2]
          simp only [bP]
          cases Jvm.Pilot.CPostlintLaw_law_r3329_88fbce.has E.2.2.1 R.2.1 <;> cases Jvm.Pilot.CPostlintLaw_law_r3329_88fbce.has E.2.2.1 R.2.2.1 <;> rfl
        · rw [if_neg (show ¬ (nI R.1 = (2 : Int32)) from fun z => h2 ((nI_eq (b := 2) (by omega) (by decide)).mp z))]
          by_cases h1 : R.1 = 1
          · rw [if_pos (show nI R.1 = (1 : Int32) by rw [h1]; rfl), hE.got hj24 hWE q2 (by omega), if_neg (by omega), if_pos h1]
            simp only [bP]
            by_cases hx : R.2.2.2.1 < gts E.2.2.1 R.2.1
            · rw [if_pos hx, decide_eq_true (Or.inl hx)]; rfl
            · rw [if_neg hx]
              by_cases hy : gts E.2.2.1 R.2.1 < -R.2.2.2.1
              · rw [if_neg (fun z => absurd (Int32.lt_of_lt_of_le hy z) (Int32.lt_irrefl)), decide_eq_true (Or.inr hy)]; rfl
              · rw [if_pos (Int32.not_lt.mp hy), decide_eq_false (fun z => z.elim hx hy)]; rfl
          · rw [if_neg (show ¬ (nI R.1 = (1 : Int32)) from fun z => h1 ((nI_eq (b := 1) (by omega) (by decide)).mp z)), if_pos (by omega)]
            have hl := ME.almL (n := n) hE hj24 hWE (by omega) 8 0 n 0 rfl (by omega)
            have e0 : nI 0 = (0 : Int32) := nI_0
            rw [e0] at hl
            rw [hl]
            simp only [bL1]
            have ha : List.foldl (fun s a => s + gts E.2.2.1 a) 0 ((List.range 8).drop 0) = alm E.2.2.1 := rfl
            rw [ha]
            by_cases hz : alm E.2.2.1 = 0
            · rw [if_pos hz, decide_eq_false (fun z => z hz)]; rfl
            · rw [if_neg hz, decide_eq_true hz]; rfl
theorem RM.cdbL {n : Nat} (h : RM w A) (hW : WF A) (hn : 60 < n) {jr : Nat} (hjr : jr < A.2.2.1.length) : ∀ (m i k : Nat) (s : Int32), i + m = A.2.1.length → m < k → fX7_doubtedBy_L4 n k w (nI jr) s (nI i) = some (((List.range A.2.1.length).drop i).foldl (fun s j => if Jvm.Pilot.CPostlintLaw_law_r3329_88fbce.dbt A.2.1 (A.2.2.1.getD jr (0, 0, 0, 0, false)) j = true then s + 1 else s) s) := by
  have h24 := hW.2.1.1
  intro m
  induction m with
  | zero =>
    intro i k s hi hk
    obtain ⟨k, rfl⟩ : ∃ k', k = k' + 1 := ⟨k - 1, by omega⟩
    unfold fX7_doubtedBy_L4
    rw [h.2.1.1, if_pos (nI_le (by omega) (by omega)), List.drop_eq_nil_of_le (by simp; omega)]
    rfl
  | succ m ih =>
    intro i k s hi hk
    obtain ⟨k, rfl⟩ : ∃ k', k = k' + 1 := ⟨k - 1, by omega⟩
    unfold fX7_doubtedBy_L4
    rw [h.2.1.1, if_neg (nI_ge (show i < A.2.1.length by omega) (by omega)), h.dbt hW hn (show i < A.2.1.length by omega) hjr]
    simp only [bP, bnd, nI_1, Int32.add_zero]
    have hd : (List.range A.2.1.length).drop i = i :: (List.range A.2.1.length).drop (i + 1) := by
      rw [List.drop_eq_getElem_cons (by simp; omega), List.getElem_range]
    rw [hd, List.foldl_cons, ih (i + 1) k _ (by omega) (by omega), ih (i + 1) k _ (by omega) (by omega)]
    by_cases hb : Jvm.Pilot.CPostlintLaw_law_r3329_88fbce.dbt A.2.1 (A.2.2.1.getD jr (0, 0, 0, 0, false)) i = true
    · rw [if_neg (fun z => by rw [b2i_0.mp z] at hb; cases hb), if_pos hb]
    · rw [if_pos (b2i_0.mpr (by simpa using hb)), if_neg hb]
theorem RM.cdb {n : Nat} (h : RM w A) (hW : WF A) (hn : 60 < n) {jr : Nat} (hjr : jr < A.2.2.1.length) : fX7_doubtedBy n w (nI jr) = some (cdb A.2.1 (A.2.2.1.getD jr (0, 0, 0, 0, false))) := by
  have hl := RM.cdbL (n := n) h hW hn hjr A.2.1.length 0 n 0 (by omega) (by have := hW.2.1.1; omega)
  have e0 : nI 0 = (0 : Int32) := nI_0
  rw [e0] at hl
  unfold fX7_doubtedBy
  rw [hl]
  rfl
theorem RM.dbsL {n : Nat} (h : RM w A) (hW : WF A) (hn : 60 < n) {j : Nat} (hj : j < A.2.1.length) : ∀ (m i k : Nat) (s : Int32), i + m = A.2.2.1.length → m < k → fX7_doubts_L26 n k w (nI j) s (nI i) = some (((List.range A.2.2.1.length).drop i).foldl (fun s i => if Jvm.Pilot.CPostlintLaw_law_r3329_88fbce.dbt A.2.1 (A.2.2.1.getD i (0, 0, 0, 0, false)) j = true then s ||| ((1 : Int32) <<< (nI i &&& 31)) else s) s) := by
  have h8 := hW.2.2.1.1
  intro m
  induction m with
  | zero =>
    intro i k s hi hk
    obtain ⟨k, rfl⟩ : ∃ k', k = k' + 1 := ⟨k - 1, by omega⟩
    unfold fX7_doubts_L26
    rw [h.2.2.1.1, if_pos (nI_le (by omega) (by omega)), List.drop_eq_nil_of_le (by simp; omega)]
    rfl
  | succ m ih =>
    intro i k s hi hk
    obtain ⟨k, rfl⟩ : ∃ k', k = k' + 1 := ⟨k - 1, by omega⟩
    have hil : i < A.2.2.1.length := by omega
    unfold fX7_doubts_L26
    rw [h.2.2.1.1, if_neg (nI_ge hil (by omega)), h.dbt hW hn hj hil]
    simp only [bP, bnd, nI_1, Int32.or_zero]
    have hd : (List.range A.2.2.1.length).drop i = i :: (List.range A.2.2.1.length).drop (i + 1) := by
      rw [List.drop_eq_getElem_cons (by simp; omega), List.getElem_range]
    rw [hd, List.foldl_cons, ih (i + 1) k _ (by omega) (by omega), ih (i + 1) k _ (by omega) (by omega)]
    by_cases hb : Jvm.Pilot.CPostlintLaw_law_r3329_88fbce.dbt A.2.1 (A.2.2.1.getD i (0, 0, 0, 0, false)) j = true
    · rw [if_neg (fun z => by rw [b2i_0.mp z] at hb; cases hb), if_pos hb]
    · rw [if_pos (b2i_0.mpr (by simpa using hb)), if_neg hb]
end RMsec
