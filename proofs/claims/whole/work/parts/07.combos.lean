def bnd {α β : Type} (x : α) (k : α → Option β) : Option β := k x
theorem bnd_some {α β : Type} {x : α} {k : α → Option β} {r : β} (h : bnd x k = some r) (y : α) (e : y = x) : k y = some r := by
  subst e
  exact h
def bP {α β : Type} (x : Option α) (k : α → Option β) : Option β := match x with
  | some a => k a
  | none => none
theorem bP_some {α β : Type} {x : Option α} {k : α → Option β} {r : β} (h : bP x k = some r) : ∃ a, x = some a ∧ k a = some r := by
  cases x with
  | none => cases h
  | some a => exact ⟨a, rfl, h⟩
def b2 {α β γ : Type} (x : Option (α × β)) (k : α → β → Option γ) : Option γ := match x with
  | some (a, b) => k a b
  | none => none
theorem b2_some {α β γ : Type} {x : Option (α × β)} {k : α → β → Option γ} {r : γ} (h : b2 x k = some r) : ∃ a b, x = some (a, b) ∧ k a b = some r := by
  cases x with
  | none => cases h
  | some q => exact ⟨q.1, q.2, rfl, h⟩
def nz (y : Int32) : Bool := decide (¬ y = 0)
theorem nz_ne {y : Int32} (h : nz y = true) : ¬ y = 0 := of_decide_eq_true h
def bL0 {γ : Type} (x : Option Unit) (k : Unit → Option γ) : Option γ := match x with
  | some () => k ()
  | none => none
theorem bL0_some {γ : Type} {x : Option Unit} {k : Unit → Option γ} {r : γ} (h : bL0 x k = some r) : x = some () ∧ k () = some r := by
  cases x with
  | none => cases h
  | some q => exact ⟨rfl, h⟩
def bS0 {ρ : Type} {γ : Type} (x : Option (ρ ⊕ Unit)) (f : ρ → Option γ) (k : Unit → Option γ) : Option γ := match x with
  | some (.inl b) => f b
  | some (.inr ()) => k ()
  | none => none
theorem bS0_some {ρ : Type} {γ : Type} {x : Option (ρ ⊕ Unit)} {f : ρ → Option γ} {k : Unit → Option γ} {r : γ} (h : bS0 x f k = some r) : (∃ b, x = some (.inl b) ∧ f b = some r) ∨ x = some (.inr ()) ∧ k () = some r := by
  rcases x with _ | b | q
  · cases h
  · exact Or.inl ⟨b, rfl, h⟩
  · exact Or.inr ⟨rfl, h⟩
def bL1 {A0 γ : Type} (x : Option A0) (k : A0 → Option γ) : Option γ := match x with
  | some a0 => k a0
  | none => none
theorem bL1_some {A0 γ : Type} {x : Option A0} {k : A0 → Option γ} {r : γ} (h : bL1 x k = some r) : ∃ a0, x = some a0 ∧ k a0 = some r := by
  cases x with
  | none => cases h
  | some q => exact ⟨q, rfl, h⟩
def bS1 {ρ : Type} {A0 γ : Type} (x : Option (ρ ⊕ A0)) (f : ρ → Option γ) (k : A0 → Option γ) : Option γ := match x with
  | some (.inl b) => f b
  | some (.inr a0) => k a0
  | none => none
theorem bS1_some {ρ : Type} {A0 γ : Type} {x : Option (ρ ⊕ A0)} {f : ρ → Option γ} {k : A0 → Option γ} {r : γ} (h : bS1 x f k = some r) : (∃ b, x = some (.inl b) ∧ f b = some r) ∨ ∃ a0, x = some (.inr a0) ∧ k a0 = some r := by
  rcases x with _ | b | q
  · cases h
  · exact Or.inl ⟨b, rfl, h⟩
  · exact Or.inr ⟨q, rfl, h⟩
def bL2 {A0 A1 γ : Type} (x : Option (A0 × A1)) (k : A0 → A1 → Option γ) : Option γ := match x with
  | some (a0, a1) => k a0 a1
  | none => none
theorem bL2_some {A0 A1 γ : Type} {x : Option (A0 × A1)} {k : A0 → A1 → Option γ} {r : γ} (h : bL2 x k = some r) : ∃ a0 a1, x = some (a0, a1) ∧ k a0 a1 = some r := by
  cases x with
  | none => cases h
  | some q => exact ⟨q.1, q.2, rfl, h⟩
def bS2 {ρ : Type} {A0 A1 γ : Type} (x : Option (ρ ⊕ (A0 × A1))) (f : ρ → Option γ) (k : A0 → A1 → Option γ) : Option γ := match x with
  | some (.inl b) => f b
  | some (.inr (a0, a1)) => k a0 a1
  | none => none
theorem bS2_some {ρ : Type} {A0 A1 γ : Type} {x : Option (ρ ⊕ (A0 × A1))} {f : ρ → Option γ} {k : A0 → A1 → Option γ} {r : γ} (h : bS2 x f k = some r) : (∃ b, x = some (.inl b) ∧ f b = some r) ∨ ∃ a0 a1, x = some (.inr (a0, a1)) ∧ k a0 a1 = some r := by
  rcases x with _ | b | q
  · cases h
  · exact Or.inl ⟨b, rfl, h⟩
  · exact Or.inr ⟨q.1, q.2, rfl, h⟩
def bL3 {A0 A1 A2 γ : Type} (x : Option (A0 × A1 × A2)) (k : A0 → A1 → A2 → Option γ) : Option γ := match x with
  | some (a0, a1, a2) => k a0 a1 a2
  | none => none
theorem bL3_some {A0 A1 A2 γ : Type} {x : Option (A0 × A1 × A2)} {k : A0 → A1 → A2 → Option γ} {r : γ} (h : bL3 x k = some r) : ∃ a0 a1 a2, x = some (a0, a1, a2) ∧ k a0 a1 a2 = some r := by
  cases x with
  | none => cases h
  | some q => exact ⟨q.1, q.2.1, q.2.2, rfl, h⟩
def bS3 {ρ : Type} {A0 A1 A2 γ : Type} (x : Option (ρ ⊕ (A0 × A1 × A2))) (f : ρ → Option γ) (k : A0 → A1 → A2 → Option γ) : Option γ := match x with
  | some (.inl b) => f b
  | some (.inr (a0, a1, a2)) => k a0 a1 a2
  | none => none
theorem bS3_some {ρ : Type} {A0 A1 A2 γ : Type} {x : Option (ρ ⊕ (A0 × A1 × A2))} {f : ρ → Option γ} {k : A0 → A1 → A2 → Option γ} {r : γ} (h : bS3 x f k = some r) : (∃ b, x = some (.inl b) ∧ f b = some r) ∨ ∃ a0 a1 a2, x = some (.inr (a0, a1, a2)) ∧ k a0 a1 a2 = some r := by
  rcases x with _ | b | q
  · cases h
  · exact Or.inl ⟨b, rfl, h⟩
  · exact Or.inr ⟨q.1, q.2.1, q.2.2, rfl, h⟩
def bL4 {A0 A1 A2 A3 γ : Type} (x : Option (A0 × A1 × A2 × A3)) (k : A0 → A1 → A2 → A3 → Option γ) : Option γ := match x with
  | some (a0, a1, a2, a3) => k a0 a1 a2 a3
  | none => none
theorem bL4_some {A0 A1 A2 A3 γ : Type} {x : Option (A0 × A1 × A2 × A3)} {k : A0 → A1 → A2 → A3 → Option γ} {r : γ} (h : bL4 x k = some r) : ∃ a0 a1 a2 a3, x = some (a0, a1, a2, a3) ∧ k a0 a1 a2 a3 = some r := by
  cases x with
  | none => cases h
  | some q => exact ⟨q.1, q.2.1, q.2.2.1, q.2.2.2, rfl, h⟩
def bS4 {ρ : Type} {A0 A1 A2 A3 γ : Type} (x : Option (ρ ⊕ (A0 × A1 × A2 × A3))) (f : ρ → Option γ) (k : A0 → A1 → A2 → A3 → Option γ) : Option γ := match x with
  | some (.inl b) => f b
  | some (.inr (a0, a1, a2, a3)) => k a0 a1 a2 a3
  | none => none
theorem bS4_some {ρ : Type} {A0 A1 A2 A3 γ : Type} {x : Option (ρ ⊕ (A0 × A1 × A2 × A3))} {f : ρ → Option γ} {k : A0 → A1 → A2 → A3 → Option γ} {r : γ} (h : bS4 x f k = some r) : (∃ b, x = some (.inl b) ∧ f b = some r) ∨ ∃ a0 a1 a2 a3, x = some (.inr (a0, a1, a2, a3)) ∧ k a0 a1 a2 a3 = some r := by
  rcases x with _ | b | q
  · cases h
  · exact Or.inl ⟨b, rfl, h⟩
  · exact Or.inr ⟨q.1, q.2.1, q.2.2.1, q.2.2.2, rfl, h⟩
def bL5 {A0 A1 A2 A3 A4 γ : Type} (x : Option (A0 × A1 × A2 × A3 × A4)) (k : A0 → A1 → A2 → A3 → A4 → Option γ) : Option γ := match x with
  | some (a0, a1, a2, a3, a4) => k a0 a1 a2 a3 a4
  | none => none
theorem bL5_some {A0 A1 A2 A3 A4 γ : Type} {x : Option (A0 × A1 × A2 × A3 × A4)} {k : A0 → A1 → A2 → A3 → A4 → Option γ} {r : γ} (h : bL5 x k = some r) : ∃ a0 a1 a2 a3 a4, x = some (a0, a1, a2, a3, a4) ∧ k a0 a1 a2 a3 a4 = some r := by
  cases x with
  | none => cases h
  | some q => exact ⟨q.1, q.2.1, q.2.2.1, q.2.2.2.1, q.2.2.2.2, rfl, h⟩
def bS5 {ρ : Type} {A0 A1 A2 A3 A4 γ : Type} (x : Option (ρ ⊕ (A0 × A1 × A2 × A3 × A4))) (f : ρ → Option γ) (k : A0 → A1 → A2 → A3 → A4 → Option γ) : Option γ := match x with
  | some (.inl b) => f b
  | some (.inr (a0, a1, a2, a3, a4)) => k a0 a1 a2 a3 a4
  | none => none
theorem bS5_some {ρ : Type} {A0 A1 A2 A3 A4 γ : Type} {x : Option (ρ ⊕ (A0 × A1 × A2 × A3 × A4))} {f : ρ → Option γ} {k : A0 → A1 → A2 → A3 → A4 → Option γ} {r : γ} (h : bS5 x f k = some r) : (∃ b, x = some (.inl b) ∧ f b = some r) ∨ ∃ a0 a1 a2 a3 a4, x = some (.inr (a0, a1, a2, a3, a4)) ∧ k a0 a1 a2 a3 a4 = some r := by
  rcases x with _ | b | q
  · cases h
  · exact Or.inl ⟨b, rfl, h⟩
  · exact Or.inr ⟨q.1, q.2.1, q.2.2.1, q.2.2.2.1, q.2.2.2.2, rfl, h⟩
def bL6 {A0 A1 A2 A3 A4 A5 γ : Type} (x : Option (A0 × A1 × A2 × A3 × A4 × A5)) (k : A0 → A1 → A2 → A3 → A4 → A5 → Option γ) : Option γ := match x with
  | some (a0, a1, a2, a3, a4, a5) => k a0 a1 a2 a3 a4 a5
  | none => none
theorem bL6_some {A0 A1 A2 A3 A4 A5 γ : Type} {x : Option (A0 × A1 × A2 × A3 × A4 × A5)} {k : A0 → A1 → A2 → A3 → A4 → A5 → Option γ} {r : γ} (h : bL6 x k = some r) : ∃ a0 a1 a2 a3 a4 a5, x = some (a0, a1, a2, a3, a4, a5) ∧ k a0 a1 a2 a3 a4 a5 = some r := by
  cases x with
  | none => cases h
  | some q => exact ⟨q.1, q.2.1, q.2.2.1, q.2.2.2.1, q.2.2.2.2.1, q.2.2.2.2.2, rfl, h⟩
def bS6 {ρ : Type} {A0 A1 A2 A3 A4 A5 γ : Type} (x : Option (ρ ⊕ (A0 × A1 × A2 × A3 × A4 × A5))) (f : ρ → Option γ) (k : A0 → A1 → A2 → A3 → A4 → A5 → Option γ) : Option γ := match x with
  | some (.inl b) => f b
  | some (.inr (a0, a1, a2, a3, a4, a5)) => k a0 a1 a2 a3 a4 a5
  | none => none
theorem bS6_some {ρ : Type} {A0 A1 A2 A3 A4 A5 γ : Type} {x : Option (ρ ⊕ (A0 × A1 × A2 × A3 × A4 × A5))} {f : ρ → Option γ} {k : A0 → A1 → A2 → A3 → A4 → A5 → Option γ} {r : γ} (h : bS6 x f k = some r) : (∃ b, x = some (.inl b) ∧ f b = some r) ∨ ∃ a0 a1 a2 a3 a4 a5, x = some (.inr (a0, a1, a2, a3, a4, a5)) ∧ k a0 a1 a2 a3 a4 a5 = some r := by
  rcases x with _ | b | q
  · cases h
  · exact Or.inl ⟨b, rfl, h⟩
  · exact Or.inr ⟨q.1, q.2.1, q.2.2.1, q.2.2.2.1, q.2.2.2.2.1, q.2.2.2.2.2, rfl, h⟩
def bL7 {A0 A1 A2 A3 A4 A5 A6 γ : Type} (x : Option (A0 × A1 × A2 × A3 × A4 × A5 × A6)) (k : A0 → A1 → A2 → A3 → A4 → A5 → A6 → Option γ) : Option γ := match x with
  | some (a0, a1, a2, a3, a4, a5, a6) => k a0 a1 a2 a3 a4 a5 a6
  | none => none
theorem bL7_some {A0 A1 A2 A3 A4 A5 A6 γ : Type} {x : Option (A0 × A1 × A2 × A3 × A4 × A5 × A6)} {k : A0 → A1 → A2 → A3 → A4 → A5 → A6 → Option γ} {r : γ} (h : bL7 x k = some r) : ∃ a0 a1 a2 a3 a4 a5 a6, x = some (a0, a1, a2, a3, a4, a5, a6) ∧ k a0 a1 a2 a3 a4 a5 a6 = some r := by
  cases x with
  | none => cases h
  | some q => exact ⟨q.1, q.2.1, q.2.2.1, q.2.2.2.1, q.2.2.2.2.1, q.2.2.2.2.2.1, q.2.2.2.2.2.2, rfl, h⟩
def bS7 {ρ : Type} {A0 A1 A2 A3 A4 A5 A6 γ : Type} (x : Option (ρ ⊕ (A0 × A1 × A2 × A3 × A4 × A5 × A6))) (f : ρ → Option γ) (k : A0 → A1 → A2 → A3 → A4 → A5 → A6 → Option γ) : Option γ := match x with
  | some (.inl b) => f b
  | some (.inr (a0, a1, a2, a3, a4, a5, a6)) => k a0 a1 a2 a3 a4 a5 a6
  | none => none
theorem bS7_some {ρ : Type} {A0 A1 A2 A3 A4 A5 A6 γ : Type} {x : Option (ρ ⊕ (A0 × A1 × A2 × A3 × A4 × A5 × A6))} {f : ρ → Option γ} {k : A0 → A1 → A2 → A3 → A4 → A5 → A6 → Option γ} {r : γ} (h : bS7 x f k = some r) : (∃ b, x = some (.inl b) ∧ f b = some r) ∨ ∃ a0 a1 a2 a3 a4 a5 a6, x = some (.inr (a0, a1, a2, a3, a4, a5, a6)) ∧ k a0 a1 a2 a3 a4 a5 a6 = some r := by
  rcases x with _ | b | q
  · cases h
  · exact Or.inl ⟨b, rfl, h⟩
  · exact Or.inr ⟨q.1, q.2.1, q.2.2.1, q.2.2.2.1, q.2.2.2.2.1, q.2.2.2.2.2.1, q.2.2.2.2.2.2, rfl, h⟩
