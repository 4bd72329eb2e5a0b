/-! what there is, in plain terms; and the landed program's pool as it holds it -/
abbrev Ent := List Nat × List Nat × List Pst × Bool
abbrev Rul := Nat × Nat × Nat × Int32 × Bool
abbrev Aud := Nat × Nat × Int32 × Bool
abbrev Abs := List Nat × List Ent × List Rul × List Aud
abbrev EAd := Nat × Nat × Nat × Nat × Nat × Nat
def b2i (b : Bool) : Int32 := if b = true then 1 else 0
theorem b2i_0 {b : Bool} : b2i b = 0 ↔ b = false := by cases b <;> decide
theorem b2i_01 (b : Bool) : b01 (b2i b) = true := by cases b <;> decide
/-- an entry -/
def EN (S : PS) (own : Nat → Nat × Nat) (j : Nat) (a : EAd) (E : Ent) : Prop :=
  EC S a.1 a.2.1 a.2.2.2.1 a.2.2.2.2.2 ∧ SG S a.2.1 a.2.2.1 60 E.1 ∧ SG S a.2.2.2.1 a.2.2.2.2.1 60 E.2.1 ∧ EA S a.1 a.2.2.2.2.2 E.2.2.1 ∧ sI S 25 a.1 = b2i E.2.2.2 ∧
  own a.1 = (1 + j, 0) ∧ own a.2.1 = (1 + j, 1) ∧ own a.2.2.1 = (1 + j, 2) ∧ own a.2.2.2.1 = (1 + j, 3) ∧ own a.2.2.2.2.1 = (1 + j, 4) ∧ own a.2.2.2.2.2 = (1 + j, 5)
def RN (S : PS) (own : Nat → Nat × Nat) (j r : Nat) (R : Rul) : Prop :=
  okP S r 4 = true ∧ sI S 40 r = nI R.1 ∧ sI S 41 r = nI R.2.1 ∧ sI S 42 r = nI R.2.2.1 ∧ sI S 43 r = R.2.2.2.1 ∧ sI S 44 r = b2i R.2.2.2.2 ∧ own r = (100, j)
def AN (S : PS) (own : Nat → Nat × Nat) (j a : Nat) (U : Aud) : Prop :=
  okP S a 1 = true ∧ sI S 10 a = nI U.1 ∧ sI S 11 a = nI U.2.1 ∧ sI S 12 a = U.2.2.1 ∧ sI S 13 a = b2i U.2.2.2 ∧ own a = (101, j)
theorem EN.keep {own : Nat → Nat × Nat} {F : Nat → Prop} {S T : PS} {j : Nat} {a : EAd} {E : Ent} (h : EN S own j a E) (hF : FR F S T) (hn : ∀ z, F z → ∀ k, own z ≠ (1 + j, k)) : EN T own j a E := by
  obtain ⟨a1, a2, a3, a4, a5, o0, o1, o2, o3, o4, o5⟩ := h
  have f0 : ¬ F a.1 := fun z => hn _ z 0 o0
  have f5 : ¬ F a.2.2.2.2.2 := fun z => hn _ z 5 o5
  refine ⟨a1.keep hF f0 f5, a2.keep hF (fun z => hn _ z 1 o1) (fun z => hn _ z 2 o2), a3.keep hF (fun z => hn _ z 3 o3) (fun z => hn _ z 4 o4), EA.keep a1 a4 hF f0 f5, ?_, o0, o1, o2, o3, o4, o5⟩
  obtain ⟨-, -, b3⟩ := hF a.1 (okP_in a1.1).1
  exact ((b3 f0).1 25).trans a5
theorem RN.keep {own : Nat → Nat × Nat} {F : Nat → Prop} {S T : PS} {j r : Nat} {R : Rul} (h : RN S own j r R) (hF : FR F S T) (hn : ∀ z, F z → own z ≠ (100, j)) : RN T own j r R := by
  obtain ⟨a1, a2, a3, a4, a5, a6, o⟩ := h
  obtain ⟨-, -, b3⟩ := hF r (okP_in a1).1
  obtain ⟨c, -⟩ := b3 (fun z => hn _ z o)
  exact ⟨hF.ok a1, (c _).trans a2, (c _).trans a3, (c _).trans a4, (c _).trans a5, (c _).trans a6, o⟩
theorem AN.keep {own : Nat → Nat × Nat} {F : Nat → Prop} {S T : PS} {j r : Nat} {R : Aud} (h : AN S own j r R) (hF : FR F S T) (hn : ∀ z, F z → own z ≠ (101, j)) : AN T own j r R := by
  obtain ⟨a1, a2, a3, a4, a5, o⟩ := h
  obtain ⟨-, -, b3⟩ := hF r (okP_in a1).1
  obtain ⟨c, -⟩ := b3 (fun z => hn _ z o)
  exact ⟨hF.ok a1, (c _).trans a2, (c _).trans a3, (c _).trans a4, (c _).trans a5, o⟩
theorem AL.keep2 {e0 v q : Nat} {F : Nat → Prop} {S T : PS} {L : List Nat} (h : AL e0 S v q L) (hF : FR F S T) (h1 : ¬ F v) (h2 : q ≠ e0 → ¬ F q) : AL e0 T v q L := by
  by_cases hq : q = e0
  · obtain ⟨a1, a2, a3, a4, a5, a6⟩ := h
    obtain ⟨-, -, b3⟩ := hF v (okP_in a1).1
    obtain ⟨c1, c2, -⟩ := b3 h1
    refine ⟨hF.ok a1, (c2 1).trans a2, (c1 2).trans a3, a4, fun y hy => hF.okL (a5 y hy), Or.inl ?_⟩
    rcases a6 with a6 | ⟨a6, -⟩
    · exact a6
    · exact absurd hq a6
  · exact h.keep hF h1 (h2 hq)
/-- the pool: g names the program's own cells: 0 draft and 1 its signs, 2 the spread row and 3 its signs, 4 the reader, 5 entries and 6 their row, 7 rules and 8, 9 audits and 10 -/
def RC (e0 : Nat) (S : PS) (x : Nat) (own : Nat → Nat × Nat) (g : Nat → Nat) (ad : Nat → EAd) (ra aa : Nat → Nat) (sp : List Nat) (A : Abs) : Prop :=
  (okP S x 6 = true ∧ sR S 60 x = some (g 0) ∧ sR S 61 x = some (g 2) ∧ sR S 62 x = some (g 4) ∧ sR S 63 x = some (g 5) ∧ sR S 64 x = some (g 7) ∧ sR S 65 x = some (g 9) ∧ own x = (0, 20)) ∧
  (SG S (g 0) (g 1) 60 A.1 ∧ SG S (g 2) (g 3) 360 sp ∧ okP S (g 4) 3 = true) ∧
  (AL e0 S (g 5) (g 6) ((List.range A.2.1.length).map (fun j => (ad j).1)) ∧ AL e0 S (g 7) (g 8) ((List.range A.2.2.1.length).map ra) ∧ AL e0 S (g 9) (g 10) ((List.range A.2.2.2.length).map aa)) ∧
  (∀ k, k < 11 → (g k ≠ e0 ∨ k ≠ 6 ∧ k ≠ 8 ∧ k ≠ 10) → own (g k) = (0, k)) ∧
  (∀ j E, A.2.1[j]? = some E → EN S own j (ad j) E) ∧ (∀ j R, A.2.2.1[j]? = some R → RN S own j (ra j) R) ∧ (∀ j U, A.2.2.2[j]? = some U → AN S own j (aa j) U)
/-- what is so, whatever was called -/
def WE (E : Ent) : Prop := (∀ c ∈ E.1, 32 ≤ c ∧ c < 127) ∧ (∀ c ∈ E.2.1, 32 ≤ c ∧ c < 127) ∧ E.1.length ≤ 60 ∧ E.2.1.length ≤ 60 ∧ okc E.2.1 ∧ (E.2.2.2 = true → E.1 = [45] ∧ E.2.1 = [45] ∧ E.2.2.1 = []) ∧ (E.2.2.2 = false → E.2.2.1 ≠ []) ∧ scn E.2.1 = E.2.2.1 ∧ cnt E.2.2.1 ≤ 60 ∧ E.2.2.1.length ≤ 15 ∧ ∀ p ∈ E.2.2.1, p.1 < 8 ∧ p.2.2.1 < 1000 ∧ 1 ≤ p.2.2.2 ∧ p.2.2.2 ≤ 60
def WF (A : Abs) : Prop := (A.1.length ≤ 60 ∧ ∀ c ∈ A.1, 32 ≤ c ∧ c < 127) ∧ (A.2.1.length ≤ 24 ∧ ∀ E ∈ A.2.1, WE E) ∧ (A.2.2.1.length ≤ 8 ∧ ∀ R ∈ A.2.2.1, R.1 < 4 ∧ R.2.1 < 8 ∧ R.2.2.1 < 8 ∧ (R.1 = 1 → 0 ≤ R.2.2.2.1) ∧ -999 ≤ R.2.2.2.1 ∧ R.2.2.2.1 ≤ 999) ∧ (A.2.2.2.length ≤ 6 ∧ ∀ U ∈ A.2.2.2, U.1 ≤ U.2.1 ∧ U.2.1 < A.2.1.length)
/-! places -/
def inX (v : Int32) (n : Nat) : Prop := ∃ j, j < n ∧ v = nI j
theorem inX_lt {v : Int32} {n : Nat} (h : ¬ inX v n) (hn : n < 2 ^ 31) : v < 0 ∨ (¬ v < 0 ∧ nI n ≤ v ∧ ¬ v < nI n) := by
  by_cases h0 : v < 0
  · exact Or.inl h0
  · obtain ⟨j, hj, rfl⟩ := nI_of h0
    have : n ≤ j := Nat.le_of_not_lt (fun z => h ⟨j, z, rfl⟩)
    exact Or.inr ⟨h0, nI_le this hj, nI_nlt this hj⟩
theorem map_getD {n j : Nat} {f : Nat → Nat} (h : j < n) : ((List.range n).map f).getD j 0 = f j := by
  simp [List.getD_eq_getElem?_getD, List.getElem?_map, h]
theorem getE {L : List Ent} {j : Nat} (h : j < L.length) : L[j]? = some (L.getD j ([], [], [], false)) := by
  rw [List.getD_eq_getElem?_getD, List.getElem?_eq_getElem h]; rfl
theorem RC.x {e0 : Nat} {S : PS} {x : Nat} {own : Nat → Nat × Nat} {g : Nat → Nat} {ad : Nat → EAd} {ra aa : Nat → Nat} {sp : List Nat} {A : Abs} (h : RC e0 S x own g ad ra aa sp A) : okP S x 6 = true := h.1.1
section RCsec
variable {e0 : Nat} {S : PS} {x : Nat} {own : Nat → Nat × Nat} {g : Nat → Nat} {ad : Nat → EAd} {ra aa : Nat → Nat} {sp : List Nat} {A : Abs}
theorem RC.r60 (h : RC e0 S x own g ad ra aa sp A) : sR S 60 x = some (g 0) := h.1.2.1
theorem RC.r61 (h : RC e0 S x own g ad ra aa sp A) : sR S 61 x = some (g 2) := h.1.2.2.1
theorem RC.r62 (h : RC e0 S x own g ad ra aa sp A) : sR S 62 x = some (g 4) := h.1.2.2.2.1
theorem RC.r63 (h : RC e0 S x own g ad ra aa sp A) : sR S 63 x = some (g 5) := h.1.2.2.2.2.1
theorem RC.r64 (h : RC e0 S x own g ad ra aa sp A) : sR S 64 x = some (g 7) := h.1.2.2.2.2.2.1
theorem RC.r65 (h : RC e0 S x own g ad ra aa sp A) : sR S 65 x = some (g 9) := h.1.2.2.2.2.2.2.1
theorem RC.ox (h : RC e0 S x own g ad ra aa sp A) : own x = (0, 20) := h.1.2.2.2.2.2.2.2
theorem RC.dr (h : RC e0 S x own g ad ra aa sp A) : SG S (g 0) (g 1) 60 A.1 := h.2.1.1
theorem RC.spr (h : RC e0 S x own g ad ra aa sp A) : SG S (g 2) (g 3) 360 sp := h.2.1.2.1
theorem RC.rd (h : RC e0 S x own g ad ra aa sp A) : okP S (g 4) 3 = true := h.2.1.2.2
theorem RC.le (h : RC e0 S x own g ad ra aa sp A) : AL e0 S (g 5) (g 6) ((List.range A.2.1.length).map (fun j => (ad j).1)) := h.2.2.1.1
theorem RC.lr (h : RC e0 S x own g ad ra aa sp A) : AL e0 S (g 7) (g 8) ((List.range A.2.2.1.length).map ra) := h.2.2.1.2.1
theorem RC.la (h : RC e0 S x own g ad ra aa sp A) : AL e0 S (g 9) (g 10) ((List.range A.2.2.2.length).map aa) := h.2.2.1.2.2
theorem RC.ow (h : RC e0 S x own g ad ra aa sp A) : ∀ k, k < 11 → (g k ≠ e0 ∨ k ≠ 6 ∧ k ≠ 8 ∧ k ≠ 10) → own (g k) = (0, k) := h.2.2.2.1
theorem RC.en (h : RC e0 S x own g ad ra aa sp A) : ∀ j E, A.2.1[j]? = some E → EN S own j (ad j) E := h.2.2.2.2.1
theorem RC.rn (h : RC e0 S x own g ad ra aa sp A) : ∀ j R, A.2.2.1[j]? = some R → RN S own j (ra j) R := h.2.2.2.2.2.1
theorem RC.an (h : RC e0 S x own g ad ra aa sp A) : ∀ j U, A.2.2.2[j]? = some U → AN S own j (aa j) U := h.2.2.2.2.2.2
theorem RC.n24 (h : RC e0 S x own g ad ra aa sp A) : A.2.1.length ≤ 24 := by have := h.le.2.2.2.1; simpa using this
theorem RC.n24r (h : RC e0 S x own g ad ra aa sp A) : A.2.2.1.length ≤ 24 := by have := h.lr.2.2.2.1; simpa using this
theorem RC.n24a (h : RC e0 S x own g ad ra aa sp A) : A.2.2.2.length ≤ 24 := by have := h.la.2.2.2.1; simpa using this
theorem RC.sze (h : RC e0 S x own g ad ra aa sp A) : fJx4a65c_size_8abf5 S (g 5) = some (nI A.2.1.length) := by have := h.le.size; simpa using this
theorem RC.szr (h : RC e0 S x own g ad ra aa sp A) : fJx4a65c_size_8abf5 S (g 7) = some (nI A.2.2.1.length) := by have := h.lr.size; simpa using this
theorem RC.sza (h : RC e0 S x own g ad ra aa sp A) : fJx4a65c_size_8abf5 S (g 9) = some (nI A.2.2.2.length) := by have := h.la.size; simpa using this
theorem RC.ge (h : RC e0 S x own g ad ra aa sp A) {j : Nat} (hj : j < A.2.1.length) : fJx4a65c_get_915e3 S (g 5) (nI j) = some (ad j).1 := by
  rw [h.le.get (by simpa using hj), map_getD hj]
theorem RC.gr (h : RC e0 S x own g ad ra aa sp A) {j : Nat} (hj : j < A.2.2.1.length) : fJx4a65c_get_915e3 S (g 7) (nI j) = some (ra j) := by
  rw [h.lr.get (by simpa using hj), map_getD hj]
theorem RC.ga (h : RC e0 S x own g ad ra aa sp A) {j : Nat} (hj : j < A.2.2.2.length) : fJx4a65c_get_915e3 S (g 9) (nI j) = some (aa j) := by
  rw [h.la.get (by simpa using hj), map_getD hj]
theorem RC.o5 (h : RC e0 S x own g ad ra aa sp A) : okP S (g 5) 0 = true := h.le.1
theorem RC.o7 (h : RC e0 S x own g ad ra aa sp A) : okP S (g 7) 0 = true := h.lr.1
theorem RC.o9 (h : RC e0 S x own g ad ra aa sp A) : okP S (g 9) 0 = true := h.la.1
theorem RC.atIn (h : RC e0 S x own g ad ra aa sp A) {j : Nat} (hj : j < A.2.1.length) : fX6_entryAt S x (nI j) = some (.inr (ad j).1) := by
  have := h.n24
  have he := (h.en j _ (getE hj)).1.1
  unfold fX6_entryAt
  rw [if_neg (nI_pos (by omega))]
  simp only [chk, h.x, h.r63, bP, h.o5, h.sze]
  rw [if_pos (nI_lt hj (by omega)), h.ge hj]
  simp only [he]
theorem RC.atOut (h : RC e0 S x own g ad ra aa sp A) {v : Int32} (hv : ¬ inX v A.2.1.length) : fX6_entryAt S x v = some (.inl 2) := by
  have := h.n24
  unfold fX6_entryAt
  rcases inX_lt hv (by omega) with h0 | ⟨h0, -, h1⟩
  · rw [if_pos h0]
  · rw [if_neg h0]
    simp only [chk, h.x, h.r63, bP, h.o5, h.sze]
    rw [if_neg h1]
theorem RC.needIn (h : RC e0 S x own g ad ra aa sp A) {j : Nat} (hj : j < A.2.1.length) : fX6_needEntry S x (nI j) = some (.inr ()) := by
  have := h.n24
  unfold fX6_needEntry
  rw [if_neg (nI_pos (by omega))]
  simp only [chk, h.x, h.r63, bP, h.o5, h.sze]
  rw [if_pos (nI_lt hj (by omega))]
theorem RC.needOut (h : RC e0 S x own g ad ra aa sp A) {v : Int32} (hv : ¬ inX v A.2.1.length) : fX6_needEntry S x v = some (.inl 2) := by
  have := h.n24
  unfold fX6_needEntry
  rcases inX_lt hv (by omega) with h0 | ⟨h0, -, h1⟩
  · rw [if_pos h0]
  · rw [if_neg h0]
    simp only [chk, h.x, h.r63, bP, h.o5, h.sze]
    rw [if_neg h1]
theorem getR {L : List Rul} {j : Nat} (h : j < L.length) : L[j]? = some (L.getD j (0, 0, 0, 0, false)) := by
  rw [List.getD_eq_getElem?_getD, List.getElem?_eq_getElem h]; rfl
theorem getU {L : List Aud} {j : Nat} (h : j < L.length) : L[j]? = some (L.getD j (0, 0, 0, false)) := by
  rw [List.getD_eq_getElem?_getD, List.getElem?_eq_getElem h]; rfl
theorem RC.rAtIn (h : RC e0 S x own g ad ra aa sp A) {j : Nat} (hj : j < A.2.2.1.length) : fX6_ruleAt S x (nI j) = some (.inr (ra j)) := by
  have := h.n24r
  have he := (h.rn j _ (getR hj)).1
  unfold fX6_ruleAt
  rw [if_neg (nI_pos (by omega))]
  simp only [chk, h.x, h.r64, bP, h.o7, h.szr]
  rw [if_pos (nI_lt hj (by omega)), h.gr hj]
  simp only [he]
theorem RC.rAtOut (h : RC e0 S x own g ad ra aa sp A) {v : Int32} (hv : ¬ inX v A.2.2.1.length) : fX6_ruleAt S x v = some (.inl 2) := by
  have := h.n24r
  unfold fX6_ruleAt
  rcases inX_lt hv (by omega) with h0 | ⟨h0, -, h1⟩
  · rw [if_pos h0]
  · rw [if_neg h0]
    simp only [chk, h.x, h.r64, bP, h.o7, h.szr]
    rw [if_neg h1]
theorem RC.aAtIn (h : RC e0 S x own g ad ra aa sp A) {j : Nat} (hj : j < A.2.2.2.length) : fX6_auditAt S x (nI j) = some (.inr (aa j)) := by
  have := h.n24a
  have he := (h.an j _ (getU hj)).1
  unfold fX6_auditAt
  rw [if_neg (nI_pos (by omega))]
  simp only [chk, h.x, h.r65, bP, h.o9, h.sza]
  rw [if_pos (nI_lt hj (by omega)), h.ga hj]
  simp only [he]
theorem RC.aAtOut (h : RC e0 S x own g ad ra aa sp A) {v : Int32} (hv : ¬ inX v A.2.2.2.length) : fX6_auditAt S x v = some (.inl 2) := by
  have := h.n24a
  unfold fX6_auditAt
  rcases inX_lt hv (by omega) with h0 | ⟨h0, -, h1⟩
  · rw [if_pos h0]
  · rw [if_neg h0]
    simp only [chk, h.x, h.r65, bP, h.o9, h.sza]
    rw [if_neg h1]
/-! the loops over entries, rules, audits -/
theorem ldrop {α : Type} {L : List α} {i : Nat} {E : α} {r : List α} (h : L.drop i = E :: r) : i < L.length ∧ L[i]? = some E ∧ L.drop (i + 1) = r := by
  have hlt : i < L.length := by
    rcases Nat.lt_or_ge i L.length with h1 | h1
    · exact h1
    · rw [List.drop_eq_nil_of_le h1] at h; cases h
  rw [List.drop_eq_getElem_cons hlt] at h
  injection h with h1 h2
  exact ⟨hlt, by rw [List.getElem?_eq_getElem hlt, h1], h2⟩
theorem ldnil {α : Type} {L : List α} {i : Nat} (h : L.drop i = []) : L.length ≤ i := List.drop_eq_nil_iff.mp h
def frz (us : List Aud) (j : Nat) : Bool := us.any (fun U => !U.2.2.2 && decide (U.1 ≤ j) && decide (j ≤ U.2.1))
theorem RC.frzL {n : Nat} (h : RC e0 S x own g ad ra aa sp A) (hW : WF A) {j : Nat} (hj : j < 2 ^ 31) : ∀ (r : List Aud) (i k : Nat), A.2.2.2.drop i = r → i ≤ 30 → r.length < k → fX6_freezes_L2 n k S x (nI j) (nI i) = some (if frz r j = true then .inl 1 else .inr ()) := by
  intro r
  induction r with
  | nil =>
    intro i k hdr hi hk
    obtain ⟨k, rfl⟩ : ∃ k', k = k' + 1 := ⟨k - 1, by simp at hk; omega⟩
    unfold fX6_freezes_L2
    simp only [chk, h.x, h.r65, bP, h.o9, h.sza]
    rw [if_pos (nI_le (ldnil hdr) (by omega))]
    rfl
  | cons U r ih =>
    intro i k hdr hi hk
    obtain ⟨k, rfl⟩ : ∃ k', k = k' + 1 := ⟨k - 1, by simp at hk; omega⟩
    obtain ⟨hlt, hg, hdr2⟩ := ldrop hdr
    have := h.n24a
    obtain ⟨b1, b2, b3, b4, b5, -⟩ := h.an i U hg
    simp only [List.length_cons] at hk
    have hrec := ih (i + 1) k hdr2 (by omega) (by omega)
    have hb := hW.2.2.2.2 U (List.mem_of_getElem? hg)
    have hn24 := h.n24
    unfold fX6_freezes_L2
    simp only [chk, h.x, h.r65, bP, h.o9, h.sza]
    rw [if_neg (nI_ge hlt (by omega)), h.ga hlt]
    simp only [b1, b2, b3, b5, nI_1, hrec]
    have hf : frz (U :: r) j = ((!U.2.2.2 && decide (U.1 ≤ j) && decide (j ≤ U.2.1)) || frz r j) := rfl
    rw [hf]
    by_cases h1 : U.2.2.2 = true
    · rw [if_neg (fun z => by rw [b2i_0.mp z] at h1; cases h1)]
      simp [h1]
    · have h1' : U.2.2.2 = false := by simpa using h1
      rw [if_pos (b2i_0.mpr h1')]
      by_cases h2 : j < U.1
      · rw [if_pos (nI_lt h2 (by omega))]
        have e : decide (U.1 ≤ j) = false := decide_eq_false (by omega)
        simp [h1', e]
      · rw [if_neg (nI_nlt (by omega) hj)]
        by_cases h3 : U.2.1 < j
        · rw [if_pos (nI_lt h3 hj)]
          have e : decide (j ≤ U.2.1) = false := decide_eq_false (by omega)
          simp [e]
        · rw [if_neg (nI_nlt (by omega) (by omega))]
          have e : decide (j ≤ U.2.1) = true := decide_eq_true (by omega)
          have e2 : decide (U.1 ≤ j) = true := decide_eq_true (by omega)
          simp [h1', e, e2]
          rfl
theorem RC.frz {n : Nat} (h : RC e0 S x own g ad ra aa sp A) (hW : WF A) {j : Nat} (hj : j < 2 ^ 31) (hn : 24 < n) : fX6_freezes n S x (nI j) = some (b2i (frz A.2.2.2 j)) := by
  have hl := RC.frzL (n := n) h hW hj A.2.2.2 0 n rfl (by omega) (by have := h.n24a; omega)
  have e0 : nI 0 = (0 : Int32) := nI_0
  rw [e0] at hl
  unfold fX6_freezes
  rw [hl]
  by_cases hf : Jvm.Pilot.CPostlintLaw_law_r3329_88fbce.frz A.2.2.2 j = true
  · rw [if_pos hf, hf]
    rfl
  · rw [if_neg hf]
    have : Jvm.Pilot.CPostlintLaw_law_r3329_88fbce.frz A.2.2.2 j = false := by simpa using hf
    rw [this]
    rfl
def chU (s : Int32) (es : List Ent) : Int32 := es.foldl (fun p E => chn (p + 17) E.2.1) s
theorem RC.chUL {n : Nat} (h : RC e0 S x own g ad ra aa sp A) (hn : 60 < n) {m : Nat} (hm : m < A.2.1.length) : ∀ (r : List Ent) (i k : Nat) (s : Int32), A.2.1.drop i = r → i ≤ m + 1 → r.length < k → fX6_chainUpTo_L4 n k S x (nI m) s (nI i) = some (chU s (r.take (m + 1 - i))) := by
  have hn24 := h.n24
  intro r
  induction r with
  | nil =>
    intro i k s hdr hi hk
    obtain ⟨k, rfl⟩ : ∃ k', k = k' + 1 := ⟨k - 1, by simp at hk; omega⟩
    have hge := ldnil hdr
    unfold fX6_chainUpTo_L4
    have : m + 1 ≤ i := by omega
    rw [if_pos (nI_lt (by omega) (by omega))]
    simp [chU]
  | cons E r ih =>
    intro i k s hdr hi hk
    obtain ⟨k, rfl⟩ : ∃ k', k = k' + 1 := ⟨k - 1, by simp at hk; omega⟩
    obtain ⟨hlt, hg, hdr2⟩ := ldrop hdr
    obtain ⟨b1, -, b3, -⟩ := h.en i E hg
    obtain ⟨c1, -, c3, -⟩ := b1
    simp only [List.length_cons] at hk
    unfold fX6_chainUpTo_L4
    by_cases him : i = m + 1
    · rw [if_pos (nI_lt (by omega) (by omega)), him, Nat.sub_self, List.take_zero]
      rfl
    · rw [if_neg (nI_nlt (by omega) (by omega))]
      simp only [chk, h.x, h.r63, bP, h.o5, h.sze]
      rw [if_neg (nI_ge hlt (by omega)), h.ge hlt]
      have hwl := b3.le
      simp only [c1, c3, b3.ok5, b3.chain (n := n) (s + 17) (by omega), nI_1]
      rw [ih (i + 1) k _ hdr2 (by omega) (by omega)]
      have e : m + 1 - i = (m + 1 - (i + 1)) + 1 := by omega
      rw [e, List.take_succ_cons]
      rfl
def prf (es : List Ent) (m : Nat) : Int32 := chU 0 (es.take (m + 1))
theorem RC.prf {n : Nat} (h : RC e0 S x own g ad ra aa sp A) (hn : 60 < n) {m : Nat} (hm : m < A.2.1.length) : fX6_chainUpTo n S x (nI m) = some (prf A.2.1 m) := by
  have hl := RC.chUL (n := n) h hn hm A.2.1 0 n 0 rfl (by omega) (by have := h.n24; omega)
  have e0 : nI 0 = (0 : Int32) := nI_0
  rw [e0] at hl
  unfold fX6_chainUpTo
  rw [hl]
  rfl
theorem EN.amt {j : Nat} {a : EAd} {E : Ent} (h : EN S own j a E) {c : Nat} (hc : c < 8) : fX1_amountOf S a.1 (nI c) = some (gts E.2.2.1 c) := by
  obtain ⟨⟨b1, b2, b3, b4, b5, b6⟩, -, -, ⟨-, e2⟩, -⟩ := h
  unfold fX1_amountOf
  rw [if_neg (nI_pos (by omega))]
  simp only [chk, b1, b4, b5, bP, b6]
  rw [if_neg (nI_ge (show c < 8 by omega) (by decide)), inB_nI (show c < 8 by omega) (by decide), nI_clamp (by omega), e2 c hc]
def smU (a : Nat) (s : Int32) (es : List Ent) : Int32 := es.foldl (fun p E => p + gts E.2.2.1 a) s
theorem RC.smUL {n : Nat} (h : RC e0 S x own g ad ra aa sp A) {m : Nat} (hm : m ≤ A.2.1.length) {v : Int32} (hv : v = nI m - 1) {c : Nat} (hc : c < 8) : ∀ (r : List Ent) (i k : Nat) (s : Int32), A.2.1.drop i = r → i ≤ m → r.length < k → fX6_sumUpTo_L5 n k S x v (nI c) s (nI i) = some (smU c s (r.take (m - i))) := by
  have hn24 := h.n24
  have hlt : ∀ i, i ≤ m → (v < nI i ↔ i = m) := by
    intro i hi
    rw [hv]
    cases m with
    | zero =>
      have : i = 0 := by omega
      subst this
      exact ⟨fun _ => rfl, fun _ => by decide⟩
    | succ m =>
      rw [nI_pred]
      constructor
      · intro z
        have := (nI_ltI (show m < 2 ^ 31 by omega) (show i < 2 ^ 31 by omega)).mp z
        omega
      · intro z
        exact nI_lt (by omega) (by omega)
  intro r
  induction r with
  | nil =>
    intro i k s hdr hi hk
    obtain ⟨k, rfl⟩ : ∃ k', k = k' + 1 := ⟨k - 1, by simp at hk; omega⟩
    have hge := ldnil hdr
    unfold fX6_sumUpTo_L5
    rw [if_pos ((hlt i hi).mpr (by omega))]
    simp [smU]
  | cons E r ih =>
    intro i k s hdr hi hk
    obtain ⟨k, rfl⟩ : ∃ k', k = k' + 1 := ⟨k - 1, by simp at hk; omega⟩
    obtain ⟨hl, hg, hdr2⟩ := ldrop hdr
    have hE := h.en i E hg
    have c1 := hE.1.1
    simp only [List.length_cons] at hk
    unfold fX6_sumUpTo_L5
    by_cases him : i = m
    · rw [if_pos ((hlt i hi).mpr him), him, Nat.sub_self, List.take_zero]
      rfl
    · rw [if_neg (fun z => him ((hlt i hi).mp z))]
      simp only [chk, h.x, h.r63, bP, h.o5, h.sze]
      rw [if_neg (nI_ge hl (by omega)), h.ge hl]
      simp only [c1, hE.amt hc, nI_1, bnd]
      rw [ih (i + 1) k _ hdr2 (by omega) (by omega)]
      have e : m - i = (m - (i + 1)) + 1 := by omega
      rw [e, List.take_succ_cons]
      rfl
theorem RC.smU {n : Nat} (h : RC e0 S x own g ad ra aa sp A) {m : Nat} (hm : m ≤ A.2.1.length) {v : Int32} (hv : v = nI m - 1) {c : Nat} (hc : c < 8) (hn : 24 < n) : fX6_sumUpTo n S x v (nI c) = some (smU c 0 (A.2.1.take m)) := by
  have hl := RC.smUL (n := n) h hm hv hc A.2.1 0 n 0 rfl (by omega) (by have := h.n24; omega)
  have e0 : nI 0 = (0 : Int32) := nI_0
  rw [e0] at hl
  unfold fX6_sumUpTo
  rw [hl]
  rfl
end RCsec
