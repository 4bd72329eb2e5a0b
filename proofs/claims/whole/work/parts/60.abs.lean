/-! how one pool follows another: what F does not name is as it was -/
def FR (F : Nat → Prop) (S T : PS) : Prop := ∀ b, b ∈ sL S → b ∈ sL T ∧ sK T b = sK S b ∧ (¬ F b → (∀ g, sI T g b = sI S g b) ∧ (∀ g, sR T g b = sR S g b) ∧ sN T b = sN S b ∧ sA T b = sA S b ∧ sO T b = sO S b)
theorem FR.rf {F : Nat → Prop} {S : PS} : FR F S S := fun _ h => ⟨h, rfl, fun _ => ⟨fun _ => rfl, fun _ => rfl, rfl, rfl, rfl⟩⟩
theorem FR.trans {F : Nat → Prop} {S T U : PS} (h1 : FR F S T) (h2 : FR F T U) : FR F S U := fun b hb => by
  obtain ⟨a1, a2, a3⟩ := h1 b hb
  obtain ⟨b1, b2, b3⟩ := h2 b a1
  refine ⟨b1, b2.trans a2, fun hF => ?_⟩
  obtain ⟨c1, c2, c3, c4, c5⟩ := a3 hF
  obtain ⟨d1, d2, d3, d4, d5⟩ := b3 hF
  exact ⟨fun g => (d1 g).trans (c1 g), fun g => (d2 g).trans (c2 g), d3.trans c3, d4.trans c4, d5.trans c5⟩
theorem FR.mono {F G : Nat → Prop} {S T : PS} (h : FR F S T) (hFG : ∀ b, F b → G b) : FR G S T := fun b hb => by
  obtain ⟨a1, a2, a3⟩ := h b hb
  exact ⟨a1, a2, fun hG => a3 (fun z => hG (hFG b z))⟩
theorem okP_mk {S : PS} {a k : Nat} (h1 : a ∈ sL S) (h2 : sK S a = k) : okP S a k = true := by
  simp [okP, h1, h2]
theorem FR.ok {F : Nat → Prop} {S T : PS} (h : FR F S T) {a k : Nat} (ho : okP S a k = true) : okP T a k = true := by
  obtain ⟨h1, h2⟩ := okP_in ho
  obtain ⟨a1, a2, -⟩ := h a h1
  exact okP_mk a1 (a2.trans h2)
theorem okP_ne {S : PS} {a b k j : Nat} (h1 : okP S a k = true) (h2 : okP S b j = true) (h : k ≠ j) : a ≠ b := by
  rintro rfl
  exact h ((okP_in h1).2.symm.trans (okP_in h2).2)
theorem FR.pI {S : PS} {g a : Nat} {x : Int32} : FR (fun b => b = a) S (pI S g a x) := fun b hb => ⟨hb, rfl, fun hF => ⟨fun g' => if_neg (fun z => hF z.2), fun _ => rfl, rfl, rfl, rfl⟩⟩
theorem FR.pA {S : PS} {a i : Nat} {x : Int32} : FR (fun b => b = a) S (pA S a i x) := fun b hb => ⟨hb, rfl, fun hF => ⟨fun _ => rfl, fun _ => rfl, rfl, if_neg hF, rfl⟩⟩
theorem FR.pR {S : PS} {g a : Nat} {x : Option Nat} : FR (fun b => b = a) S (pR S g a x) := fun b hb => ⟨hb, rfl, fun hF => ⟨fun _ => rfl, fun g' => if_neg (fun z => hF z.2), rfl, rfl, rfl⟩⟩
theorem FR.pO {S : PS} {a i : Nat} {x : Option Nat} : FR (fun b => b = a) S (pO S a i x) := fun b hb => ⟨hb, rfl, fun hF => ⟨fun _ => rfl, fun _ => rfl, rfl, rfl, if_neg hF⟩⟩
theorem pI_I {S : PS} {g a : Nat} {x : Int32} : sI (pI S g a x) g a = x := if_pos ⟨rfl, rfl⟩
theorem pI_Ig {S : PS} {g g' a b : Nat} {x : Int32} (h : g' ≠ g) : sI (pI S g a x) g' b = sI S g' b := if_neg (fun z => h z.1)
theorem pI_ok {S : PS} {g a b k : Nat} {x : Int32} : okP (pI S g a x) b k = okP S b k := rfl
theorem pA_ok {S : PS} {a i b k : Nat} {x : Int32} : okP (pA S a i x) b k = okP S b k := rfl
theorem pR_ok {S : PS} {g a b k : Nat} {x : Option Nat} : okP (pR S g a x) b k = okP S b k := rfl
theorem pO_ok {S : PS} {a i b k : Nat} {x : Option Nat} : okP (pO S a i x) b k = okP S b k := rfl
theorem pI_R {S : PS} {g a : Nat} {x : Int32} : sR (pI S g a x) = sR S := rfl
theorem pI_N {S : PS} {g a : Nat} {x : Int32} : sN (pI S g a x) = sN S := rfl
theorem pI_A {S : PS} {g a : Nat} {x : Int32} : sA (pI S g a x) = sA S := rfl
theorem pI_O {S : PS} {g a : Nat} {x : Int32} : sO (pI S g a x) = sO S := rfl
theorem pA_R {S : PS} {a i : Nat} {x : Int32} : sR (pA S a i x) = sR S := rfl
theorem pA_N {S : PS} {a i : Nat} {x : Int32} : sN (pA S a i x) = sN S := rfl
theorem pA_I {S : PS} {a i : Nat} {x : Int32} : sI (pA S a i x) = sI S := rfl
theorem pA_O {S : PS} {a i : Nat} {x : Int32} : sO (pA S a i x) = sO S := rfl
theorem pA_A {S : PS} {a i : Nat} {x : Int32} : sA (pA S a i x) a = upd (sA S a) i x := if_pos rfl
/-- a row of signs -/
def SG (S : PS) (v q cap : Nat) (d : List Nat) : Prop := okP S v 5 = true ∧ sR S 50 v = some q ∧ okP S q 8 = true ∧ sN S q = cap ∧ sI S 51 v = nI d.length ∧ d.length ≤ cap ∧ cap < 1000 ∧ ∀ i, i < d.length → sA S q i = nI (d.getD i 0)
theorem SG.keep {F : Nat → Prop} {S T : PS} {v q cap : Nat} {d : List Nat} (h : SG S v q cap d) (hF : FR F S T) (h1 : ¬ F v) (h2 : ¬ F q) : SG T v q cap d := by
  obtain ⟨a1, a2, a3, a4, a5, a6, a7, a8⟩ := h
  obtain ⟨b1, b2, b3⟩ := hF v (okP_in a1).1
  obtain ⟨c1, c2, c3⟩ := hF q (okP_in a3).1
  obtain ⟨d1, d2, -⟩ := b3 h1
  obtain ⟨-, -, e3, e4, -⟩ := c3 h2
  exact ⟨hF.ok a1, (d2 50).trans a2, hF.ok a3, e3.trans a4, (d1 51).trans a5, a6, a7, fun i hi => by rw [e4]; exact a8 i hi⟩
def atI (d : List Nat) (i : Nat) : Int32 := if i < d.length then nI (d.getD i 0) else -1
theorem SG.size {S : PS} {v q cap : Nat} {d : List Nat} (h : SG S v q cap d) : fX4_size S v = some (nI d.length) := by
  obtain ⟨a1, a2, a3, a4, a5, a6, a7, a8⟩ := h
  simp only [fX4_size, chk, a1, a5]
theorem SG.at {S : PS} {v q cap : Nat} {d : List Nat} (h : SG S v q cap d) {i : Nat} (hi : i < 2 ^ 31) : fX4_at S v (nI i) = some (atI d i) := by
  obtain ⟨a1, a2, a3, a4, a5, a6, a7, a8⟩ := h
  unfold fX4_at atI
  rw [if_neg (nI_pos hi)]
  simp only [chk, a1, a2, a3, bP, a4, a5]
  by_cases hl : i < d.length
  · rw [if_neg (nI_ge hl (by omega)), if_pos (nI_lt (show i < cap by omega) (by omega)), inB_nI (show i < cap by omega) (by omega), nI_clamp hi, if_pos hl, a8 i hl]
  · rw [if_pos (nI_le (by omega) hi), if_neg hl]
theorem SG.atNeg {S : PS} {v : Nat} {i : Int32} (h : i < 0) : fX4_at S v i = some (-1) := if_pos h
theorem SG.empty {S : PS} {v q cap : Nat} {d : List Nat} (h : SG S v q cap d) : ∃ T, fX4_empty S v = some T ∧ SG T v q cap [] ∧ FR (fun b => b = v ∨ b = q) S T := by
  obtain ⟨a1, a2, a3, a4, a5, a6, a7, a8⟩ := h
  refine ⟨pI S 51 v 0, by simp only [fX4_empty, chk, a1, bnd], ⟨a1, a2, a3, a4, pI_I, Nat.zero_le _, a7, fun i hi => absurd hi (Nat.not_lt_zero _)⟩, FR.pI.mono (fun b => Or.inl)⟩
theorem getD_snoc {d : List Nat} {c i : Nat} : (d ++ [c]).getD i 0 = if i < d.length then d.getD i 0 else if i = d.length then c else 0 := by
  simp only [List.getD_eq_getElem?_getD]
  by_cases h : i < d.length
  · rw [List.getElem?_append_left h, if_pos h]
  · rw [List.getElem?_append_right (by omega), if_neg h]
    by_cases h2 : i = d.length
    · subst h2
      simp
    · rw [if_neg h2, List.getElem?_eq_none (by simp; omega)]
      rfl
theorem SG.add {S : PS} {v q cap : Nat} {d : List Nat} (h : SG S v q cap d) (c : Nat) (hc : d.length < cap) : ∃ T, fX4_add S v (nI c) = some T ∧ SG T v q cap (d ++ [c]) ∧ FR (fun b => b = v ∨ b = q) S T := by
  obtain ⟨a1, a2, a3, a4, a5, a6, a7, a8⟩ := h
  have hvq : v ≠ q := okP_ne a1 a3 (by decide)
  refine ⟨pI (pA S q d.length (nI c)) 51 v (nI d.length + 1), ?_, ⟨a1, a2, a3, a4, ?_, ?_, a7, ?_⟩, ?_⟩
  · unfold fX4_add
    simp only [chk, a1, a2, a3, bP, a4, a5]
    rw [if_neg (nI_pos (by omega)), if_neg (nI_ge hc (by omega)), inB_nI hc (by omega), nI_clamp (by omega)]
    simp only [chk, bnd, pA_ok, a1, pA_I, a5]
  · rw [pI_I, nI_1, List.length_append]
    rfl
  · rw [List.length_append]
    exact hc
  · intro i hi
    rw [pI_A, pA_A, getD_snoc]
    rw [List.length_append] at hi
    simp only [List.length_cons, List.length_nil] at hi
    unfold upd
    by_cases h1 : i = d.length
    · subst h1
      rw [if_pos rfl, if_neg (Nat.lt_irrefl _), if_pos rfl]
    · rw [if_neg h1, if_pos (by omega)]
      exact a8 i (by omega)
  · exact (FR.pA.mono (fun b => Or.inr)).trans (FR.pI.mono (fun b => Or.inl))
theorem atI_lt {d : List Nat} {i : Nat} (h : i < d.length) : atI d i = nI (d.getD i 0) := if_pos h
theorem atI_ge {d : List Nat} {i : Nat} (h : d.length ≤ i) : atI d i = -1 := if_neg (by omega)
theorem SG.last {S : PS} {v q cap : Nat} {d : List Nat} (h : SG S v q cap d) : fX4_last S v = some (if d = [] then -1 else nI (d.getD (d.length - 1) 0)) := by
  have h0 := h
  obtain ⟨a1, a2, a3, a4, a5, a6, a7, a8⟩ := h
  unfold fX4_last
  simp only [chk, a1, a5]
  by_cases hd : d = []
  · subst hd
    rw [if_pos rfl]
    rfl
  · rw [if_neg hd]
    obtain ⟨m, hm⟩ : ∃ m, d.length = m + 1 := ⟨d.length - 1, by have := List.length_pos_iff.mpr hd; omega⟩
    rw [hm, nI_pred, h0.at (by omega)]
    simp only [bP, atI]
    rw [if_pos (by omega), Nat.add_sub_cancel]
