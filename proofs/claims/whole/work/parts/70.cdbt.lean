/-! doubts -/
def bna (ps : List Pst) : Nat := ps.foldl (fun s p => s ||| (1 <<< p.1)) 0
theorem bts_step : ∀ x, x < 256 → ∀ b, b < 8 → nI x ||| ((1 : Int32) <<< (nI b &&& 31)) = nI (x ||| (1 <<< b)) ∧ x ||| (1 <<< b) < 256 := by decide +kernel
theorem bts_test : ∀ x, x < 256 → ∀ a, a < 8 → (((nI x >>> (nI a &&& 31)) &&& (1 : Int32)) = 0 ↔ x.testBit a = false) := by decide +kernel
theorem bna_or : ∀ x, x < 256 → ∀ b, b < 8 → ∀ a, a < 8 → (x ||| (1 <<< b)).testBit a = (x.testBit a || decide (b = a)) := by
  intro x _ b _ a _
  rw [Nat.testBit_or, Nat.one_shiftLeft, Nat.testBit_two_pow]
def has (ps : List Pst) (a : Nat) : Bool := ps.any (fun p => decide (p.1 = a))
theorem bts_bna : ∀ (ps : List Pst) (x : Nat), x < 256 → (∀ p ∈ ps, p.1 < 8) → ps.foldl (fun s p => s ||| ((1 : Int32) <<< (nI p.1 &&& 31))) (nI x) = nI (ps.foldl (fun s p => s ||| (1 <<< p.1)) x) ∧ ps.foldl (fun s p => s ||| (1 <<< p.1)) x < 256 ∧ ∀ a, a < 8 → (ps.foldl (fun s p => s ||| (1 <<< p.1)) x).testBit a = (x.testBit a || has ps a) := by
  intro ps
  induction ps with
  | nil => exact fun x hx _ => ⟨rfl, hx, fun a _ => by simp [has]⟩
  | cons p ps ih =>
    intro x hx hp
    have hp8 := hp p List.mem_cons_self
    obtain ⟨h1, h2⟩ := bts_step x hx p.1 hp8
    obtain ⟨g1, g2, g3⟩ := ih (x ||| (1 <<< p.1)) h2 (fun q hq => hp q (List.mem_cons_of_mem _ hq))
    refine ⟨?_, g2, fun a ha => ?_⟩
    · rw [List.foldl_cons, h1, g1]
      rfl
    · show (ps.foldl _ (x ||| (1 <<< p.1))).testBit a = _
      rw [g3 a ha, bna_or x hx p.1 hp8 a ha, Bool.or_assoc]
      rfl
section RCsec
variable {e0 : Nat} {S : PS} {x : Nat} {own : Nat → Nat × Nat} {g : Nat → Nat} {ad : Nat → EAd} {ra aa : Nat → Nat} {sp : List Nat} {A : Abs}
theorem EN.has {j : Nat} {a : EAd} {E : Ent} (h : EN S own j a E) (hp : ∀ p ∈ E.2.2.1, p.1 < 8) {c : Nat} (hc : c < 8) : fX1_has S a.1 (nI c) = some (b2i (has E.2.2.1 c)) := by
  obtain ⟨⟨b1, -⟩, -, -, ⟨e1, -⟩, -⟩ := h
  obtain ⟨g1, g2, g3⟩ := bts_bna E.2.2.1 0 (by decide) hp
  have e0 : nI 0 = (0 : Int32) := nI_0
  rw [e0] at g1
  have g1 : bts E.2.2.1 = nI (bna E.2.2.1) := g1
  have g2 : bna E.2.2.1 < 256 := g2
  have g3 := g3 c hc
  rw [Nat.zero_testBit, Bool.false_or] at g3
  have g3 : (bna E.2.2.1).testBit c = Jvm.Pilot.CPostlintLaw_law_r3329_88fbce.has E.2.2.1 c := g3
  unfold fX1_has
  simp only [chk, b1, e1, g1]
  by_cases ht : (bna E.2.2.1).testBit c = false
  · rw [if_pos ((bts_test _ g2 c hc).mpr ht), ← g3, ht]
    rfl
  · rw [if_neg (fun z => ht ((bts_test _ g2 c hc).mp z)), ← g3]
    have : (bna E.2.2.1).testBit c = true := by simpa using ht
    rw [this]
    rfl
def alm (ps : List Pst) : Int32 := (List.range 8).foldl (fun s a => s + gts ps a) 0
theorem EN.almL {n j : Nat} {a : EAd} {E : Ent} (h : EN S own j a E) : ∀ (m i k : Nat) (s : Int32), i + m = 8 → m < k → fX1_allAmounts_L4 n k S a.1 s (nI i) = some (((List.range 8).drop i).foldl (fun s a => s + gts E.2.2.1 a) s) := by
  obtain ⟨⟨b1, b2, b3, b4, b5, b6⟩, -, -, ⟨-, e2⟩, -⟩ := h
  intro m
  induction m with
  | zero =>
    intro i k s hi hk
    obtain ⟨k, rfl⟩ : ∃ k', k = k' + 1 := ⟨k - 1, by omega⟩
    have : i = 8 := by omega
    subst this
    unfold fX1_allAmounts_L4
    simp only [chk, b1, b4, b5, bP, b6]
    rw [if_pos (Int32.le_refl _)]
    rfl
  | succ m ih =>
    intro i k s hi hk
    obtain ⟨k, rfl⟩ : ∃ k', k = k' + 1 := ⟨k - 1, by omega⟩
    unfold fX1_allAmounts_L4
    simp only [chk, b1, b4, b5, bP, b6]
    rw [if_neg (nI_ge (show i < 8 by omega) (by decide)), inB_nI (show i < 8 by omega) (by decide), nI_clamp (by omega)]
    simp only [bnd, nI_1, e2 i (by omega)]
    rw [ih (i + 1) k _ (by omega) (by omega)]
    have hd : (List.range 8).drop i = i :: (List.range 8).drop (i + 1) := by
      rw [List.drop_eq_getElem_cons (by simp; omega), List.getElem_range]
    rw [hd]
    rfl
theorem EN.alm {n j : Nat} {a : EAd} {E : Ent} (h : EN S own j a E) (hn : 8 < n) : fX1_allAmounts n S a.1 = some (alm E.2.2.1) := by
  have hl := EN.almL (n := n) h 8 0 n 0 rfl hn
  have e0 : nI 0 = (0 : Int32) := nI_0
  rw [e0] at hl
  unfold fX1_allAmounts
  rw [hl]
  rfl
/-- amounts are small -/
theorem nI_ofInt (n : Nat) : nI n = Int32.ofInt (n : Int) := (Int32.ofInt_eq_ofNat).symm
theorem pAmt_int (p : Pst) : ∃ z : Int, pAmt p = Int32.ofInt z ∧ -((p.2.2.1 * p.2.2.2 : Nat) : Int) ≤ z ∧ z ≤ ((p.2.2.1 * p.2.2.2 : Nat) : Int) := by
  unfold pAmt
  have hc : ((p.2.2.1 * p.2.2.2 : Nat) : Int) = (p.2.2.2 : Int) * (p.2.2.1 : Int) := by rw [Int.natCast_mul, Int.mul_comm]
  have hn : (0 : Int) ≤ ((p.2.2.1 * p.2.2.2 : Nat) : Int) := Int.natCast_nonneg _
  by_cases h : p.2.1 = true
  · rw [if_pos h]
    refine ⟨(p.2.2.2 : Int) * -(p.2.2.1 : Int), ?_, ?_, ?_⟩
    · rw [nI_ofInt, nI_ofInt, Int32.ofInt_mul, Int32.ofInt_neg]
    · rw [Int.mul_neg, ← hc]; omega
    · rw [Int.mul_neg, ← hc]; omega
  · rw [if_neg h]
    refine ⟨(p.2.2.2 : Int) * (p.2.2.1 : Int), ?_, ?_, ?_⟩
    · rw [nI_ofInt, nI_ofInt, Int32.ofInt_mul]
    · rw [← hc]; omega
    · rw [← hc]; omega
theorem gts_int : ∀ (ps : List Pst) (a : Nat) (s : Int) (m : Nat), (∀ p ∈ ps, p.2.2.1 < 1000) → -((999 * m : Nat) : Int) ≤ s → s ≤ ((999 * m : Nat) : Int) → ∃ z : Int, ps.foldl (fun s p => if p.1 = a then s + pAmt p else s) (Int32.ofInt s) = Int32.ofInt z ∧ -((999 * (ps.foldl (fun s p => s + p.2.2.2) m) : Nat) : Int) ≤ z ∧ z ≤ ((999 * (ps.foldl (fun s p => s + p.2.2.2) m) : Nat) : Int) := by
  intro ps
  induction ps with
  | nil => exact fun a s m _ h1 h2 => ⟨s, rfl, h1, h2⟩
  | cons p ps ih =>
    intro a s m hp h1 h2
    have hp1 := hp p List.mem_cons_self
    have hq := fun q hq => hp q (List.mem_cons_of_mem _ hq)
    obtain ⟨z, z1, z2, z3⟩ := pAmt_int p
    have hm : p.2.2.1 * p.2.2.2 ≤ 999 * p.2.2.2 := Nat.mul_le_mul_right _ (by omega)
    have hmm : 999 * (m + p.2.2.2) = 999 * m + 999 * p.2.2.2 := Nat.mul_add _ _ _
    simp only [List.foldl_cons]
    by_cases h : p.1 = a
    · rw [if_pos h, z1, ← Int32.ofInt_add]
      exact ih a (s + z) (m + p.2.2.2) hq (by omega) (by omega)
    · rw [if_neg h]
      exact ih a s (m + p.2.2.2) hq (by omega) (by omega)
theorem gts_small {ps : List Pst} (hp : ∀ p ∈ ps, p.2.2.1 < 1000) (hc : cnt ps ≤ 60) (a : Nat) : ∃ z : Int, gts ps a = Int32.ofInt z ∧ -59940 ≤ z ∧ z ≤ 59940 := by
  obtain ⟨z, z1, z2, z3⟩ := gts_int ps a 0 0 hp (by decide) (by decide)
  have hc : ps.foldl (fun s p => s + p.2.2.2) 0 ≤ 60 := hc
  refine ⟨z, z1, ?_, ?_⟩ <;> omega
theorem abs_cmp {x N : Int32} (hx : ∃ z : Int, x = Int32.ofInt z ∧ -59940 ≤ z ∧ z ≤ 59940) (hN : 0 ≤ N ∧ N ≤ 999) : ((if 0 ≤ x then x else 0 - x) ≤ N) ↔ ¬ (N < x ∨ x < -N) := by
  obtain ⟨z, rfl, h1, h2⟩ := hx
  have hz : (Int32.ofInt z).toInt = z := Int32.toInt_ofInt_of_le (by omega) (by omega)
  have hN1 : 0 ≤ N.toInt := Int32.le_iff_toInt_le.mp hN.1
  have hN2 : N.toInt ≤ 999 := Int32.le_iff_toInt_le.mp hN.2
  have h0 : (0 : Int32) ≤ Int32.ofInt z ↔ 0 ≤ z := by
    rw [Int32.le_iff_toInt_le, hz]; rfl
  have hneg : (0 - Int32.ofInt z).toInt = -z := by
    rw [Int32.toInt_sub, hz]
    show Int.bmod (0 - z) _ = _
    rw [Int.bmod_eq_of_le (by omega) (by omega)]
    omega
  have hnN : (-N).toInt = -N.toInt := by
    rw [Int32.toInt_neg, Int.bmod_eq_of_le (by omega) (by omega)]
  rw [Int32.lt_iff_toInt_lt, Int32.lt_iff_toInt_lt, hz, hnN]
  by_cases hp : (0 : Int32) ≤ Int32.ofInt z
  · rw [if_pos hp, Int32.le_iff_toInt_le, hz]
    have := h0.mp hp
    omega
  · rw [if_neg hp, Int32.le_iff_toInt_le, hneg]
    have : ¬ 0 ≤ z := fun z => hp (h0.mpr z)
    omega
def alo (R : Rul) (ps : List Pst) : Bool :=
  if R.1 = 0 then decide (¬ alm ps = 0) else if R.1 = 1 then decide (R.2.2.2.1 < gts ps R.2.1 ∨ gts ps R.2.1 < -R.2.2.2.1) else if R.1 = 2 then has ps R.2.1 && !has ps R.2.2.1 else false
def dbt (es : List Ent) (R : Rul) (j : Nat) : Bool :=
  if R.2.2.2.2 = true then false else if R.1 = 3 then decide (smU R.2.1 0 (es.take (j + 1)) < R.2.2.2.1) else alo R (es.getD j ([], [], [], false)).2.2.1
theorem EN.alone {n j r jr : Nat} {a : EAd} {E : Ent} {R : Rul} (h : EN S own j a E) (hr : RN S own jr r R) (hE : WE E) (hR : R.1 < 4 ∧ R.2.1 < 8 ∧ R.2.2.1 < 8 ∧ (R.1 = 1 → 0 ≤ R.2.2.2.1) ∧ -999 ≤ R.2.2.2.1 ∧ R.2.2.2.1 ≤ 999) (hn : 8 < n) : fX3_doubtsAlone n S r a.1 = some (b2i (alo R E.2.2.1)) := by
  obtain ⟨w1, w2, w3, w4, w5, w6, w7, w8, w9, w10, w11⟩ := hE
  obtain ⟨q1, q2, q3, q4, q5, q6⟩ := hR
  obtain ⟨b1, b2, b3, b4, b5, -⟩ := hr
  have c1 := h.1.1
  unfold fX3_doubtsAlone alo
  simp only [chk, b1, b2, b3, b4, b5, c1]
  by_cases h0 : R.1 = 0
  · rw [if_pos (show nI R.1 = (0 : Int32) by rw [h0]; rfl), h.alm hn]
    simp only [bP, h0, if_true]
    by_cases hz : Jvm.Pilot.CPostlintLaw_law_r3329_88fbce.alm E.2.2.1 = 0
    · rw [if_pos hz, decide_eq_false (fun z => z hz)]; rfl
    · rw [if_neg hz, decide_eq_true hz]; rfl
  · rw [if_neg (show ¬ (nI R.1 = (0 : Int32)) from fun z => h0 ((nI_eq (b := 0) (by omega) (by decide)).mp z)), if_neg h0]
    by_cases h1 : R.1 = 1
    · rw [if_pos (show nI R.1 = (1 : Int32) by rw [h1]; rfl), h.amt q2, if_pos h1]
      simp only [bP]
      have hc := abs_cmp (gts_small (fun p hp => (w11 p hp).2.1) w9 R.2.1) ⟨q4 h1, q6⟩
      by_cases hx : R.2.2.2.1 < gts E.2.2.1 R.2.1 ∨ gts E.2.2.1 R.2.1 < -R.2.2.2.1
      · rw [if_neg (fun z => hc.mp z hx), decide_eq_true hx]; rfl
      · rw [if_pos (hc.mpr hx), decide_eq_false hx]; rfl
    · rw [if_neg (show ¬ (nI R.1 = (1 : Int32)) from fun z => h1 ((nI_eq (b := 1) (by omega) (by decide)).mp z)), if_neg h1]
      by_cases h2 : R.1 = 2
      · rw [if_pos (show nI R.1 = (2 : Int32) by rw [h2]; rfl), h.has (fun p hp => (w11 p hp).1) q2, h.has (fun p hp => (w11 p hp).1) q3, if_pos h2]
        simp only [bP]
        cases Jvm.Pilot.CPostlintLaw_law_r3329_88fbce.has E.2.2.1 R.2.1 <;> cases Jvm.Pilot.CPostlintLaw_law_r3329_88fbce.has E.2.2.1 R.2.2.1 <;> rfl
      · rw [if_neg (show ¬ (nI R.1 = (2 : Int32)) from fun z => h2 ((nI_eq (b := 2) (by omega) (by decide)).mp z)), if_neg h2]
        rfl
theorem WF.ent (hW : WF A) {j : Nat} (hj : j < A.2.1.length) : WE (A.2.1.getD j ([], [], [], false)) := hW.2.1.2 _ (List.mem_of_getElem? (getE hj))
theorem RC.dbt {n : Nat} (h : RC e0 S x own g ad ra aa sp A) (hW : WF A) (hn : 60 < n) {j jr : Nat} (hj : j < A.2.1.length) (hjr : jr < A.2.2.1.length) : fX6_isDoubtedBy n S x (nI j) (ra jr) = some (b2i (dbt A.2.1 (A.2.2.1.getD jr (0, 0, 0, 0, false)) j)) := by
  have hr := h.rn jr _ (getR hjr)
  have hRm := hW.2.2.1.2 _ (List.mem_of_getElem? (getR hjr))
  have hE := h.en j _ (getE hj)
  obtain ⟨R, hRe⟩ : ∃ R, R = A.2.2.1.getD jr (0, 0, 0, 0, false) := ⟨_, rfl⟩
  rw [← hRe] at hr hRm ⊢
  have hr0 := hr
  obtain ⟨b1, b2, b3, b4, b5, b6, -⟩ := hr
  have h24 := h.n24
  unfold fX6_isDoubtedBy Jvm.Pilot.CPostlintLaw_law_r3329_88fbce.dbt
  simp only [chk, b1, b6]
  by_cases hb : R.2.2.2.2 = true
  · rw [if_neg (fun z => by rw [b2i_0.mp z] at hb; cases hb), if_pos hb]
    rfl
  · rw [if_pos (b2i_0.mpr (by simpa using hb)), if_neg hb, if_neg (nI_pos (by omega))]
    simp only [h.x, h.r63, bP, h.o5, h.sze]
    rw [if_pos (nI_lt hj (by omega))]
    simp only [b2, b3, b5]
    by_cases h3 : R.1 = 3
    · rw [if_pos (show nI R.1 = (3 : Int32) by rw [h3]; rfl), if_pos h3, h.smU (m := j + 1) (by omega) (nI_pred j).symm hRm.2.1 (by omega)]
      simp only []
      by_cases hc : R.2.2.2.1 ≤ Jvm.Pilot.CPostlintLaw_law_r3329_88fbce.smU R.2.1 0 (A.2.1.take (j + 1))
      · rw [if_pos hc, decide_eq_false (fun z => absurd (Int32.lt_of_lt_of_le z hc) (Int32.lt_irrefl))]
        rfl
      · rw [if_neg hc, decide_eq_true (Int32.not_le.mp hc)]
        rfl
    · rw [if_neg (show ¬ (nI R.1 = (3 : Int32)) from fun z => h3 ((nI_eq (b := 3) (by have := hRm.1; omega) (by decide)).mp z)), if_neg h3, h.ge hj]
      simp only [hE.1.1, hE.alone (n := n) hr0 (hW.ent hj) hRm (by omega), b2i_01]
def cdb (es : List Ent) (R : Rul) : Int32 := (List.range es.length).foldl (fun s j => if dbt es R j = true then s + 1 else s) 0
theorem RC.cdbL {n : Nat} (h : RC e0 S x own g ad ra aa sp A) (hW : WF A) (hn : 60 < n) {jr : Nat} (hjr : jr < A.2.2.1.length) : ∀ (m i k : Nat) (s : Int32), i + m = A.2.1.length → m < k → fX6_countDoubtedBy_L4 n k S x (ra jr) s (nI i) = some (((List.range A.2.1.length).drop i).foldl (fun s j => if Jvm.Pilot.CPostlintLaw_law_r3329_88fbce.dbt A.2.1 (A.2.2.1.getD jr (0, 0, 0, 0, false)) j = true then s + 1 else s) s) := by
  have h24 := h.n24
  intro m
  induction m with
  | zero =>
    intro i k s hi hk
    obtain ⟨k, rfl⟩ : ∃ k', k = k' + 1 := ⟨k - 1, by omega⟩
    unfold fX6_countDoubtedBy_L4
    simp only [chk, h.x, h.r63, bP, h.o5, h.sze]
    rw [if_pos (nI_le (by omega) (by omega)), List.drop_eq_nil_of_le (by simp; omega)]
    rfl
  | succ m ih =>
    intro i k s hi hk
    obtain ⟨k, rfl⟩ : ∃ k', k = k' + 1 := ⟨k - 1, by omega⟩
    unfold fX6_countDoubtedBy_L4
    simp only [chk, h.x, h.r63, bP, h.o5, h.sze]
    rw [if_neg (nI_ge (show i < A.2.1.length by omega) (by omega)), h.dbt hW hn (show i < A.2.1.length by omega) hjr]
    simp only [nI_1]
    have hd : (List.range A.2.1.length).drop i = i :: (List.range A.2.1.length).drop (i + 1) := by
      rw [List.drop_eq_getElem_cons (by simp; omega), List.getElem_range]
    rw [hd, List.foldl_cons, ih (i + 1) k _ (by omega) (by omega), ih (i + 1) k _ (by omega) (by omega)]
    by_cases hb : Jvm.Pilot.CPostlintLaw_law_r3329_88fbce.dbt A.2.1 (A.2.2.1.getD jr (0, 0, 0, 0, false)) i = true
    · rw [if_neg (fun z => by rw [b2i_0.mp z] at hb; cases hb), if_pos hb]
    · rw [if_pos (b2i_0.mpr (by simpa using hb)), if_neg hb]
theorem RC.cdb {n : Nat} (h : RC e0 S x own g ad ra aa sp A) (hW : WF A) (hn : 60 < n) {jr : Nat} (hjr : jr < A.2.2.1.length) : fX6_countDoubtedBy n S x (ra jr) = some (cdb A.2.1 (A.2.2.1.getD jr (0, 0, 0, 0, false))) := by
  have hl := RC.cdbL (n := n) h hW hn hjr A.2.1.length 0 n 0 (by omega) (by have := h.n24; omega)
  have e0 : nI 0 = (0 : Int32) := nI_0
  rw [e0] at hl
  unfold fX6_countDoubtedBy
  rw [hl]
  rfl
def dbs (A : Abs) (j : Nat) : Int32 := (List.range A.2.2.1.length).foldl (fun s i => if dbt A.2.1 (A.2.2.1.getD i (0, 0, 0, 0, false)) j = true then s ||| ((1 : Int32) <<< (nI i &&& 31)) else s) 0
theorem RC.dbsL {n : Nat} (h : RC e0 S x own g ad ra aa sp A) (hW : WF A) (hn : 60 < n) {j : Nat} (hj : j < A.2.1.length) : ∀ (m i k : Nat) (s : Int32), i + m = A.2.2.1.length → m < k → fX6_doubts_L9 n k S x (nI j) s (nI i) = some (((List.range A.2.2.1.length).drop i).foldl (fun s i => if Jvm.Pilot.CPostlintLaw_law_r3329_88fbce.dbt A.2.1 (A.2.2.1.getD i (0, 0, 0, 0, false)) j = true then s ||| ((1 : Int32) <<< (nI i &&& 31)) else s) s) := by
  have h24 := h.n24r
  intro m
  induction m with
  | zero =>
    intro i k s hi hk
    obtain ⟨k, rfl⟩ : ∃ k', k = k' + 1 := ⟨k - 1, by omega⟩
    unfold fX6_doubts_L9
    simp only [chk, h.x, h.r64, bP, h.o7, h.szr]
    rw [if_pos (nI_le (by omega) (by omega)), List.drop_eq_nil_of_le (by simp; omega)]
    rfl
  | succ m ih =>
    intro i k s hi hk
    obtain ⟨k, rfl⟩ : ∃ k', k = k' + 1 := ⟨k - 1, by omega⟩
    have hil : i < A.2.2.1.length := by omega
    have hr := (h.rn i _ (getR hil)).1
    unfold fX6_doubts_L9
    simp only [chk, h.x, h.r64, bP, h.o7, h.szr]
    rw [if_neg (nI_ge hil (by omega)), h.gr hil]
    simp only [hr, h.dbt hW hn hj hil, nI_1, bnd]
    have hd : (List.range A.2.2.1.length).drop i = i :: (List.range A.2.2.1.length).drop (i + 1) := by
      rw [List.drop_eq_getElem_cons (by simp; omega), List.getElem_range]
    rw [hd, List.foldl_cons, ih (i + 1) k _ (by omega) (by omega), ih (i + 1) k _ (by omega) (by omega)]
    by_cases hb : Jvm.Pilot.CPostlintLaw_law_r3329_88fbce.dbt A.2.1 (A.2.2.1.getD i (0, 0, 0, 0, false)) j = true
    · rw [if_neg (fun z => by rw [b2i_0.mp z] at hb; cases hb), if_pos hb]
    · rw [if_pos (b2i_0.mpr (by simpa using hb)), if_neg hb]
end RCsec
