/-! what an entry's text is, in numbers: the reader -/
def xDig (c : Nat) : Bool := decide (48 ≤ c) && decide (c ≤ 57)
def xAcc (c : Nat) : Bool := decide (97 ≤ c) && decide (c ≤ 104)
def xItem (op c : Nat) : Option (Nat × Nat) := if c = 32 then some (9, op) else if c = 41 ∧ 0 < op then some (7, op - 1) else none
def xStart (op c : Nat) : Option (Nat × Nat) := if xAcc c = true then some (1, op) else if c = 40 ∧ op < 5 then some (0, op + 1) else none
def xStep (q op c : Nat) : Option (Nat × Nat) :=
  if q = 0 then (if c = 32 then some (0, op) else xStart op c)
  else if q = 1 then (if c = 43 ∨ c = 45 then some (2, op) else none)
  else if q = 2 then (if xDig c = true then some (4, op) else none)
  else if q = 3 then (if xDig c = true ∧ c ≠ 48 then some (8, op) else none)
  else if q = 4 then (if xDig c = true then some (5, op) else xItem op c)
  else if q = 5 then (if xDig c = true then some (6, op) else xItem op c)
  else if q = 7 then (if c = 120 then some (3, op) else xItem op c)
  else if q = 9 then (if c = 32 ∨ c = 41 then xItem op c else xStart op c)
  else xItem op c
def xRun : List Nat → Nat → Nat → Nat → Nat ⊕ (Nat × Nat)
  | [], q, op, _ => .inr (q, op)
  | c :: r, q, op, i => match xStep q op c with
    | none => .inl i
    | some s => xRun r s.1 s.2 (i + 1)
def xFault (d : List Nat) : Option Nat := match xRun d 0 0 0 with
  | .inl j => some j
  | .inr s => if 4 ≤ s.1 ∧ s.2 = 0 then none else some d.length
theorem xStep_in0 : ∀ q, q < 10 → ∀ op, op < 6 → ∀ c, c < 127 → (match xStep q op c with | none => true | some s => decide (s.1 < 10) && decide (s.2 < 6)) = true := by decide +kernel
theorem xStep_in {q op c : Nat} (hq : q < 10) (ho : op < 6) (hc : c < 127) {s : Nat × Nat} (h : xStep q op c = some s) : s.1 < 10 ∧ s.2 < 6 := by
  have h1 := xStep_in0 q hq op ho c hc
  rw [h] at h1
  simpa using h1
def mu (q : Nat) : Nat := [0, 1, 2, 6, 3, 3, 3, 5, 7, 4].getD q 0
def dgt (q : Nat) : Nat := if q = 4 then 1 else if q = 5 then 2 else if q = 6 then 3 else 0
/-! small rows about numbers -/
theorem inB_nI {i m : Nat} (h : i < m) (hm : m < 2 ^ 31) : inB (nI i) m = true := by
  have h1 : (nI i).toNatClampNeg = i := nI_clamp (by omega)
  have h2 : ¬ nI i < 0 := nI_pos (by omega)
  simp only [inB, h1, h2, h, not_false_eq_true, decide_true, Bool.and_self]
theorem drop_next {d r : List Nat} {i c : Nat} (h : d.drop i = c :: r) : i < d.length ∧ d.getD i 0 = c ∧ d.drop (i + 1) = r := by
  have hlt : i < d.length := by
    rcases Nat.lt_or_ge i d.length with h1 | h1
    · exact h1
    · rw [List.drop_eq_nil_of_le h1] at h; cases h
  rw [List.drop_eq_getElem_cons hlt] at h
  injection h with h1 h2
  refine ⟨hlt, ?_, h2⟩
  rw [List.getD_eq_getElem?_getD, List.getElem?_eq_getElem hlt]
  exact h1
theorem drop_nil {d : List Nat} {i : Nat} (h : d.drop i = []) (hi : i ≤ d.length) : i = d.length := by
  have := List.drop_eq_nil_iff.mp h
  omega
theorem getD_mem {d : List Nat} {i : Nat} (h : i < d.length) : d.getD i 0 ∈ d := by
  rw [List.getD_eq_getElem?_getD, List.getElem?_eq_getElem h]
  exact List.getElem_mem h
