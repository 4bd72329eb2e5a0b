/-! what a change leaves of the pool -/
section RCsec
variable {e0 : Nat} {S T : PS} {x : Nat} {own : Nat → Nat × Nat} {g : Nat → Nat} {ad : Nat → EAd} {ra aa : Nat → Nat} {sp : List Nat} {A : Abs} {F : Nat → Prop} {P : Nat × Nat → Prop}
theorem RC.kx (h : RC e0 S x own g ad ra aa sp A) (hF : FR F S T) (hP : ∀ z, F z → P (own z)) (n : ¬ P (0, 20)) : okP T x 6 = true ∧ sR T 60 x = some (g 0) ∧ sR T 61 x = some (g 2) ∧ sR T 62 x = some (g 4) ∧ sR T 63 x = some (g 5) ∧ sR T 64 x = some (g 7) ∧ sR T 65 x = some (g 9) ∧ own x = (0, 20) := by
  have hn : ¬ F x := fun z => n (by have := hP x z; rwa [h.ox] at this)
  obtain ⟨-, -, b3⟩ := hF x (okP_in h.x).1
  obtain ⟨-, c, -⟩ := b3 hn
  exact ⟨hF.ok h.x, (c _).trans h.r60, (c _).trans h.r61, (c _).trans h.r62, (c _).trans h.r63, (c _).trans h.r64, (c _).trans h.r65, h.ox⟩
theorem RC.nF (h : RC e0 S x own g ad ra aa sp A) (hP : ∀ z, F z → P (own z)) {k : Nat} (hk : k < 11) (hg : g k ≠ e0 ∨ k ≠ 6 ∧ k ≠ 8 ∧ k ≠ 10) (n : ¬ P (0, k)) : ¬ F (g k) := fun z => n (by have := hP _ z; rwa [h.ow k hk hg] at this)
theorem RC.kd (h : RC e0 S x own g ad ra aa sp A) (hF : FR F S T) (hP : ∀ z, F z → P (own z)) (n0 : ¬ P (0, 0)) (n1 : ¬ P (0, 1)) : SG T (g 0) (g 1) 60 A.1 :=
  h.dr.keep hF (h.nF hP (by decide) (Or.inr (by decide)) n0) (h.nF hP (by decide) (Or.inr (by decide)) n1)
theorem RC.ks (h : RC e0 S x own g ad ra aa sp A) (hF : FR F S T) (hP : ∀ z, F z → P (own z)) (n0 : ¬ P (0, 2)) (n1 : ¬ P (0, 3)) : SG T (g 2) (g 3) 360 sp :=
  h.spr.keep hF (h.nF hP (by decide) (Or.inr (by decide)) n0) (h.nF hP (by decide) (Or.inr (by decide)) n1)
theorem RC.ke (h : RC e0 S x own g ad ra aa sp A) (hF : FR F S T) (hP : ∀ z, F z → P (own z)) (n0 : ¬ P (0, 5)) (n1 : ¬ P (0, 6)) : AL e0 T (g 5) (g 6) ((List.range A.2.1.length).map (fun j => (ad j).1)) :=
  h.le.keep2 hF (h.nF hP (by decide) (Or.inr (by decide)) n0) (fun z => h.nF hP (by decide) (Or.inl z) n1)
theorem RC.kl (h : RC e0 S x own g ad ra aa sp A) (hF : FR F S T) (hP : ∀ z, F z → P (own z)) (n0 : ¬ P (0, 7)) (n1 : ¬ P (0, 8)) : AL e0 T (g 7) (g 8) ((List.range A.2.2.1.length).map ra) :=
  h.lr.keep2 hF (h.nF hP (by decide) (Or.inr (by decide)) n0) (fun z => h.nF hP (by decide) (Or.inl z) n1)
theorem RC.ka (h : RC e0 S x own g ad ra aa sp A) (hF : FR F S T) (hP : ∀ z, F z → P (own z)) (n0 : ¬ P (0, 9)) (n1 : ¬ P (0, 10)) : AL e0 T (g 9) (g 10) ((List.range A.2.2.2.length).map aa) :=
  h.la.keep2 hF (h.nF hP (by decide) (Or.inr (by decide)) n0) (fun z => h.nF hP (by decide) (Or.inl z) n1)
theorem EN.kP {j : Nat} {a : EAd} {E : Ent} (h : EN S own j a E) (hF : FR F S T) (hP : ∀ z, F z → P (own z)) (n : ∀ k, ¬ P (1 + j, k)) : EN T own j a E :=
  h.keep hF (fun z hz k hk => n k (hk ▸ hP z hz))
theorem RN.kP {j r : Nat} {R : Rul} (h : RN S own j r R) (hF : FR F S T) (hP : ∀ z, F z → P (own z)) (n : ¬ P (100, j)) : RN T own j r R :=
  h.keep hF (fun z hz hk => n (hk ▸ hP z hz))
theorem AN.kP {j r : Nat} {U : Aud} (h : AN S own j r U) (hF : FR F S T) (hP : ∀ z, F z → P (own z)) (n : ¬ P (101, j)) : AN T own j r U :=
  h.keep hF (fun z hz hk => n (hk ▸ hP z hz))
/-- the draft is another one -/
theorem RC.draft (h : RC e0 S x own g ad ra aa sp A) (hF : FR (fun z => z = g 0 ∨ z = g 1) S T) {d : List Nat} (hd : SG T (g 0) (g 1) 60 d) : RC e0 T x own g ad ra aa sp (d, A.2) := by
  have hP : ∀ z, (z = g 0 ∨ z = g 1) → (fun p => p = (0, 0) ∨ p = (0, 1)) (own z) := by
    rintro z (rfl | rfl)
    · exact Or.inl (h.ow 0 (by decide) (Or.inr (by decide)))
    · exact Or.inr (h.ow 1 (by decide) (Or.inr (by decide)))
  exact ⟨h.kx (A := A) (P := (fun p : Nat × Nat => p = (0, 0) ∨ p = (0, 1))) hF hP (by simp), ⟨hd, h.ks (A := A) (P := (fun p : Nat × Nat => p = (0, 0) ∨ p = (0, 1))) hF hP (by simp) (by simp), hF.ok h.rd⟩, ⟨h.ke (A := A) (P := (fun p : Nat × Nat => p = (0, 0) ∨ p = (0, 1))) hF hP (by simp) (by simp), h.kl (A := A) (P := (fun p : Nat × Nat => p = (0, 0) ∨ p = (0, 1))) hF hP (by simp) (by simp), h.ka (A := A) (P := (fun p : Nat × Nat => p = (0, 0) ∨ p = (0, 1))) hF hP (by simp) (by simp)⟩, h.ow, fun j E he => (h.en j E he).kP (P := (fun p : Nat × Nat => p = (0, 0) ∨ p = (0, 1))) hF hP (fun k => by simp <;> omega), fun j R hr => (h.rn j R hr).kP (P := (fun p : Nat × Nat => p = (0, 0) ∨ p = (0, 1))) hF hP (by simp), fun j U hu => (h.an j U hu).kP (P := (fun p : Nat × Nat => p = (0, 0) ∨ p = (0, 1))) hF hP (by simp)⟩
/-- the reader has read -/
theorem RC.reader (h : RC e0 S x own g ad ra aa sp A) (hF : FR (fun z => z = g 4) S T) : RC e0 T x own g ad ra aa sp A := by
  have hP : ∀ z, z = g 4 → (fun p => p = (0, 4)) (own z) := by
    rintro z rfl
    exact h.ow 4 (by decide) (Or.inr (by decide))
  exact ⟨h.kx (A := A) (P := (fun p : Nat × Nat => p = (0, 4))) hF hP (by simp), ⟨h.kd (A := A) (P := (fun p : Nat × Nat => p = (0, 4))) hF hP (by simp) (by simp), h.ks (A := A) (P := (fun p : Nat × Nat => p = (0, 4))) hF hP (by simp) (by simp), hF.ok h.rd⟩, ⟨h.ke (A := A) (P := (fun p : Nat × Nat => p = (0, 4))) hF hP (by simp) (by simp), h.kl (A := A) (P := (fun p : Nat × Nat => p = (0, 4))) hF hP (by simp) (by simp), h.ka (A := A) (P := (fun p : Nat × Nat => p = (0, 4))) hF hP (by simp) (by simp)⟩, h.ow, fun j E he => (h.en j E he).kP (P := (fun p : Nat × Nat => p = (0, 4))) hF hP (fun k => by simp <;> omega), fun j R hr => (h.rn j R hr).kP (P := (fun p : Nat × Nat => p = (0, 4))) hF hP (by simp), fun j U hu => (h.an j U hu).kP (P := (fun p : Nat × Nat => p = (0, 4))) hF hP (by simp)⟩
/-- the spread row is another one -/
theorem RC.spreads (h : RC e0 S x own g ad ra aa sp A) (hF : FR (fun z => z = g 2 ∨ z = g 3) S T) {d : List Nat} (hd : SG T (g 2) (g 3) 360 d) : RC e0 T x own g ad ra aa d A := by
  have hP : ∀ z, (z = g 2 ∨ z = g 3) → (fun p => p = (0, 2) ∨ p = (0, 3)) (own z) := by
    rintro z (rfl | rfl)
    · exact Or.inl (h.ow 2 (by decide) (Or.inr (by decide)))
    · exact Or.inr (h.ow 3 (by decide) (Or.inr (by decide)))
  exact ⟨h.kx (A := A) (P := (fun p : Nat × Nat => p = (0, 2) ∨ p = (0, 3))) hF hP (by simp), ⟨h.kd (A := A) (P := (fun p : Nat × Nat => p = (0, 2) ∨ p = (0, 3))) hF hP (by simp) (by simp), hd, hF.ok h.rd⟩, ⟨h.ke (A := A) (P := (fun p : Nat × Nat => p = (0, 2) ∨ p = (0, 3))) hF hP (by simp) (by simp), h.kl (A := A) (P := (fun p : Nat × Nat => p = (0, 2) ∨ p = (0, 3))) hF hP (by simp) (by simp), h.ka (A := A) (P := (fun p : Nat × Nat => p = (0, 2) ∨ p = (0, 3))) hF hP (by simp) (by simp)⟩, h.ow, fun j E he => (h.en j E he).kP (P := (fun p : Nat × Nat => p = (0, 2) ∨ p = (0, 3))) hF hP (fun k => by simp <;> omega), fun j R hr => (h.rn j R hr).kP (P := (fun p : Nat × Nat => p = (0, 2) ∨ p = (0, 3))) hF hP (by simp), fun j U hu => (h.an j U hu).kP (P := (fun p : Nat × Nat => p = (0, 2) ∨ p = (0, 3))) hF hP (by simp)⟩
/-- fresh cells beside, none of the old ones touched -/
theorem RC.fresh (h : RC e0 S x own g ad ra aa sp A) (hF : FR (fun _ => False) S T) : RC e0 T x own g ad ra aa sp A := by
  have hP : ∀ z, False → (fun _ : Nat × Nat => False) (own z) := fun _ h => h
  exact ⟨h.kx (A := A) (P := (fun _ : Nat × Nat => False)) hF hP id, ⟨h.kd (A := A) (P := (fun _ : Nat × Nat => False)) hF hP id id, h.ks (A := A) (P := (fun _ : Nat × Nat => False)) hF hP id id, hF.ok h.rd⟩, ⟨h.ke (A := A) (P := (fun _ : Nat × Nat => False)) hF hP id id, h.kl (A := A) (P := (fun _ : Nat × Nat => False)) hF hP id id, h.ka (A := A) (P := (fun _ : Nat × Nat => False)) hF hP id id⟩, h.ow, fun j E he => (h.en j E he).kP (P := (fun _ : Nat × Nat => False)) hF hP (fun k => id), fun j R hr => (h.rn j R hr).kP (P := (fun _ : Nat × Nat => False)) hF hP id, fun j U hu => (h.an j U hu).kP (P := (fun _ : Nat × Nat => False)) hF hP id⟩
/-- one entry is another one, in the same cells -/
theorem RC.entry (h : RC e0 S x own g ad ra aa sp A) {j : Nat} (hj : j < A.2.1.length) {E' : Ent} (hF : FR F S T) (hP : ∀ z, F z → ∃ k, own z = (1 + j, k)) (hj24 : j < 24) (hE : EN T own j (ad j) E') : RC e0 T x own g ad ra aa sp (A.1, A.2.1.set j E', A.2.2) := by
  have hP : ∀ z, F z → (fun p => ∃ k, p = (1 + j, k)) (own z) := hP
  have hn : ∀ a b : Nat, a = 0 ∨ 24 < a → ¬ (fun p : Nat × Nat => ∃ k, p = (1 + j, k)) (a, b) := by
    rintro a b hab ⟨k, hk⟩
    injection hk with hk1 hk2
    omega
  refine ⟨h.kx (A := A) (P := (fun p : Nat × Nat => ∃ k, p = (1 + j, k))) hF hP (hn _ _ (Or.inl rfl)), ⟨h.kd (A := A) (P := (fun p : Nat × Nat => ∃ k, p = (1 + j, k))) hF hP (hn _ _ (Or.inl rfl)) (hn _ _ (Or.inl rfl)), h.ks (A := A) (P := (fun p : Nat × Nat => ∃ k, p = (1 + j, k))) hF hP (hn _ _ (Or.inl rfl)) (hn _ _ (Or.inl rfl)), hF.ok h.rd⟩, ⟨?_, h.kl (A := A) (P := (fun p : Nat × Nat => ∃ k, p = (1 + j, k))) hF hP (hn _ _ (Or.inl rfl)) (hn _ _ (Or.inl rfl)), h.ka (A := A) (P := (fun p : Nat × Nat => ∃ k, p = (1 + j, k))) hF hP (hn _ _ (Or.inl rfl)) (hn _ _ (Or.inl rfl))⟩, h.ow, fun i E he => ?_, fun i R hr => (h.rn i R hr).kP (P := (fun p : Nat × Nat => ∃ k, p = (1 + j, k))) hF hP (hn _ _ (Or.inr (by decide))), fun i U hu => (h.an i U hu).kP (P := (fun p : Nat × Nat => ∃ k, p = (1 + j, k))) hF hP (hn _ _ (Or.inr (by decide)))⟩
  · have := h.ke (A := A) (P := (fun p : Nat × Nat => ∃ k, p = (1 + j, k))) hF hP (hn _ _ (Or.inl rfl)) (hn _ _ (Or.inl rfl))
    simpa using this
  · simp only [List.getElem?_set] at he
    by_cases hij : j = i
    · subst hij
      rw [if_pos rfl, if_pos hj] at he
      injection he with he
      subst he
      exact hE
    · rw [if_neg hij] at he
      refine (h.en i E he).kP (P := (fun p : Nat × Nat => ∃ k, p = (1 + j, k))) hF hP (fun k => ?_)
      rintro ⟨k', hk⟩
      injection hk with hk1 hk2
      exact hij (by omega)
/-- one rule -/
theorem RC.ruleSet (h : RC e0 S x own g ad ra aa sp A) {j : Nat} (hj : j < A.2.2.1.length) {R' : Rul} (hF : FR F S T) (hP : ∀ z, F z → own z = (100, j)) (hR : RN T own j (ra j) R') : RC e0 T x own g ad ra aa sp (A.1, A.2.1, A.2.2.1.set j R', A.2.2.2) := by
  have hP : ∀ z, F z → (fun p => p = (100, j)) (own z) := hP
  have h24 := h.n24
  refine ⟨h.kx (A := A) (P := (fun p : Nat × Nat => p = (100, j))) hF hP (by simp), ⟨h.kd (A := A) (P := (fun p : Nat × Nat => p = (100, j))) hF hP (by simp) (by simp), h.ks (A := A) (P := (fun p : Nat × Nat => p = (100, j))) hF hP (by simp) (by simp), hF.ok h.rd⟩, ⟨h.ke (A := A) (P := (fun p : Nat × Nat => p = (100, j))) hF hP (by simp) (by simp), ?_, h.ka (A := A) (P := (fun p : Nat × Nat => p = (100, j))) hF hP (by simp) (by simp)⟩, h.ow, fun i E he => (h.en i E he).kP (P := (fun p : Nat × Nat => p = (100, j))) hF hP (fun k => ?_), fun i R hr => ?_, fun i U hu => (h.an i U hu).kP (P := (fun p : Nat × Nat => p = (100, j))) hF hP (by simp)⟩
  · have := h.kl (A := A) (P := (fun p : Nat × Nat => p = (100, j))) hF hP (by simp) (by simp)
    simpa using this
  · have : i < A.2.1.length := (List.getElem?_eq_some_iff.mp he).1
    simp
    omega
  · simp only [List.getElem?_set] at hr
    by_cases hij : j = i
    · subst hij
      rw [if_pos rfl, if_pos hj] at hr
      injection hr with hr
      subst hr
      exact hR
    · rw [if_neg hij] at hr
      exact (h.rn i R hr).kP (P := (fun p : Nat × Nat => p = (100, j))) hF hP (by simp <;> omega)
/-- one audit -/
theorem RC.auditSet (h : RC e0 S x own g ad ra aa sp A) {j : Nat} (hj : j < A.2.2.2.length) {U' : Aud} (hF : FR F S T) (hP : ∀ z, F z → own z = (101, j)) (hU : AN T own j (aa j) U') : RC e0 T x own g ad ra aa sp (A.1, A.2.1, A.2.2.1, A.2.2.2.set j U') := by
  have hP : ∀ z, F z → (fun p => p = (101, j)) (own z) := hP
  have h24 := h.n24
  refine ⟨h.kx (A := A) (P := (fun p : Nat × Nat => p = (101, j))) hF hP (by simp), ⟨h.kd (A := A) (P := (fun p : Nat × Nat => p = (101, j))) hF hP (by simp) (by simp), h.ks (A := A) (P := (fun p : Nat × Nat => p = (101, j))) hF hP (by simp) (by simp), hF.ok h.rd⟩, ⟨h.ke (A := A) (P := (fun p : Nat × Nat => p = (101, j))) hF hP (by simp) (by simp), h.kl (A := A) (P := (fun p : Nat × Nat => p = (101, j))) hF hP (by simp) (by simp), ?_⟩, h.ow, fun i E he => (h.en i E he).kP (P := (fun p : Nat × Nat => p = (101, j))) hF hP (fun k => ?_), fun i R hr => (h.rn i R hr).kP (P := (fun p : Nat × Nat => p = (101, j))) hF hP (by simp), fun i U hu => ?_⟩
  · have := h.ka (A := A) (P := (fun p : Nat × Nat => p = (101, j))) hF hP (by simp) (by simp)
    simpa using this
  · have : i < A.2.1.length := (List.getElem?_eq_some_iff.mp he).1
    simp
    omega
  · simp only [List.getElem?_set] at hu
    by_cases hij : j = i
    · subst hij
      rw [if_pos rfl, if_pos hj] at hu
      injection hu with hu
      subst hu
      exact hU
    · rw [if_neg hij] at hu
      exact (h.an i U hu).kP (P := (fun p : Nat × Nat => p = (101, j))) hF hP (by simp <;> omega)
/-- other names for what is not owned yet -/
theorem RC.rename (h : RC e0 S x own g ad ra aa sp A) {own' : Nat → Nat × Nat} (hO : ∀ z, z ∈ sL S → own' z = own z) : RC e0 S x own' g ad ra aa sp A := by
  have ok : ∀ {a k : Nat}, okP S a k = true → own' a = own a := fun ho => hO _ (okP_in ho).1
  have oL : ∀ {v q : Nat} {L : List Nat}, AL e0 S v q L → q ≠ e0 → own' q = own q := by
    rintro v q L ⟨-, -, -, -, -, h6⟩ hq
    rcases h6 with ⟨h6, -⟩ | ⟨-, h6, -⟩
    · exact absurd h6 hq
    · exact ok h6
  refine ⟨⟨h.x, h.r60, h.r61, h.r62, h.r63, h.r64, h.r65, (ok h.x).trans h.ox⟩, h.2.1, h.2.2.1, fun k hk hg => ?_, fun j E he => ?_, fun j R hr => ?_, fun j U hu => ?_⟩
  · rw [← h.ow k hk hg]
    match k, hk with
    | 0, _ => exact ok h.dr.ok5
    | 1, _ => exact ok h.dr.ok8
    | 2, _ => exact ok h.spr.ok5
    | 3, _ => exact ok h.spr.ok8
    | 4, _ => exact ok h.rd
    | 5, _ => exact ok h.o5
    | 6, _ => exact oL h.le (hg.elim id (fun z => absurd rfl z.1))
    | 7, _ => exact ok h.o7
    | 8, _ => exact oL h.lr (hg.elim id (fun z => absurd rfl z.2.1))
    | 9, _ => exact ok h.o9
    | 10, _ => exact oL h.la (hg.elim id (fun z => absurd rfl z.2.2))
  · obtain ⟨a1, a2, a3, a4, a5, o0, o1, o2, o3, o4, o5⟩ := h.en j E he
    exact ⟨a1, a2, a3, a4, a5, (ok a1.1).trans o0, (ok a2.ok5).trans o1, (ok a2.ok8).trans o2, (ok a3.ok5).trans o3, (ok a3.ok8).trans o4, (ok a1.2.2.2.2.1).trans o5⟩
  · obtain ⟨a1, a2, a3, a4, a5, a6, o⟩ := h.rn j R hr
    exact ⟨a1, a2, a3, a4, a5, a6, (ok a1).trans o⟩
  · obtain ⟨a1, a2, a3, a4, a5, o⟩ := h.an j U hu
    exact ⟨a1, a2, a3, a4, a5, (ok a1).trans o⟩
end RCsec
