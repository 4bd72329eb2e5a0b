/-! the landed program: lists grow; post, write, rule, audit -/
section RCsec
variable {e0 : Nat} {S : PS} {x : Nat} {own : Nat → Nat × Nat} {g : Nat → Nat} {ad : Nat → EAd} {ra aa : Nat → Nat} {sp : List Nat} {A : Abs}
theorem EN.rename {own' : Nat → Nat × Nat} (hO : ∀ z, z ∈ sL S → own' z = own z) {j : Nat} {a : EAd} {E : Ent} (h : EN S own j a E) : EN S own' j a E := by
  have ok : ∀ {a k : Nat}, okP S a k = true → own' a = own a := fun ho => hO _ (okP_in ho).1
  obtain ⟨a1, a2, a3, a4, a5, o0, o1, o2, o3, o4, o5⟩ := h
  exact ⟨a1, a2, a3, a4, a5, (ok a1.1).trans o0, (ok a2.ok5).trans o1, (ok a2.ok8).trans o2, (ok a3.ok5).trans o3, (ok a3.ok8).trans o4, (ok a1.2.2.2.2.1).trans o5⟩
theorem rng_snoc {n : Nat} {f : Nat → Nat} {y : Nat} : (List.range (n + 1)).map (fun i => if i = n then y else f i) = (List.range n).map f ++ [y] := by
  rw [List.range_succ, List.map_append, List.map_singleton, if_pos rfl]
  congr 1
  refine List.map_congr_left (fun i hi => ?_)
  rw [if_neg (by have := List.mem_range.mp hi; omega)]
theorem last_at {α : Type} {L : List α} {y z : α} {j : Nat} (h : (L ++ [y])[j]? = some z) : (j < L.length ∧ L[j]? = some z) ∨ (j = L.length ∧ z = y) := by
  by_cases hj : j < L.length
  · rw [List.getElem?_append_left hj] at h
    exact Or.inl ⟨hj, h⟩
  · rw [List.getElem?_append_right (by omega)] at h
    rcases Nat.eq_zero_or_pos (j - L.length) with h0 | h0
    · rw [h0] at h
      injection h with h
      exact Or.inr ⟨by omega, h.symm⟩
    · rw [List.getElem?_eq_none (by simp; omega)] at h; cases h
theorem RC.addE {gs : JP} (h : RC gs.2.1 S x own g ad ra aa sp A) {E : Ent} {a : EAd} (hE : EN S own A.2.1.length a E) (hl : A.2.1.length < 24) {Q : Int32 → PS → Prop} (kk : ∀ T own' g' ad', RC gs.2.1 T x own' g' ad' ra aa sp (A.1, A.2.1 ++ [E], A.2.2) → Q 1 T) : fJx4a65c_add_9ea2d gs S (g 5) a.1 Q := by
  refine AL.add h.le (by simp; omega) (okL_ok hE.1.1 (Or.inr (Or.inl rfl))) (fun T q' hAL hF hq' => ?_)
  obtain ⟨own', ho⟩ : ∃ own' : Nat → Nat × Nat, own' = fun z => if z = q' ∧ q' ∉ sL S then (0, 6) else own z := ⟨_, rfl⟩
  have hO : ∀ z, z ∈ sL S → own' z = own z := fun z hz => by
    rw [ho]; exact if_neg (fun y => y.2 (y.1 ▸ hz))
  have h' := h.rename hO
  have hE' := hE.rename hO
  have hP : ∀ z, (z = g 5 ∨ z = g 6 ∧ g 6 ≠ gs.2.1) → (fun p : Nat × Nat => p = (0, 5) ∨ p = (0, 6)) (own' z) := by
    rintro z (rfl | ⟨rfl, hz⟩)
    · exact Or.inl (h'.ow 5 (by decide) (Or.inr (by decide)))
    · exact Or.inr (h'.ow 6 (by decide) (Or.inl hz))
  refine kk T own' (fun k => if k = 6 then q' else g k) (fun i => if i = A.2.1.length then a else ad i) ⟨h'.kx (A := A) (P := fun p : Nat × Nat => p = (0, 5) ∨ p = (0, 6)) hF hP (by simp), ⟨h'.kd (A := A) (P := fun p : Nat × Nat => p = (0, 5) ∨ p = (0, 6)) hF hP (by simp) (by simp), h'.ks (A := A) (P := fun p : Nat × Nat => p = (0, 5) ∨ p = (0, 6)) hF hP (by simp) (by simp), hF.ok h'.rd⟩, ⟨?_, h'.kl (A := A) (P := fun p : Nat × Nat => p = (0, 5) ∨ p = (0, 6)) hF hP (by simp) (by simp), h'.ka (A := A) (P := fun p : Nat × Nat => p = (0, 5) ∨ p = (0, 6)) hF hP (by simp) (by simp)⟩, fun k hk hg => ?_, fun j E2 he => ?_, fun j R hr => (h'.rn j R hr).kP (P := fun p : Nat × Nat => p = (0, 5) ∨ p = (0, 6)) hF hP (by simp), fun j U hu => (h'.an j U hu).kP (P := fun p : Nat × Nat => p = (0, 5) ∨ p = (0, 6)) hF hP (by simp)⟩
  · show AL gs.2.1 T (g 5) q' ((List.range (A.2.1 ++ [E]).length).map (fun j => (if j = A.2.1.length then a else ad j).1))
    have e : (List.range (A.2.1 ++ [E]).length).map (fun j => (if j = A.2.1.length then a else ad j).1) = (List.range A.2.1.length).map (fun j => (ad j).1) ++ [a.1] := by
      rw [← rng_snoc, List.length_append]
      refine List.map_congr_left (fun i _ => ?_)
      by_cases hi : i = A.2.1.length
      · rw [if_pos hi, if_pos hi]
      · rw [if_neg hi, if_neg hi]
    rw [e]
    exact hAL
  · by_cases h6 : k = 6
    · subst h6
      show own' q' = (0, 6)
      have hg : q' ≠ gs.2.1 := hg.elim id (fun z => absurd rfl z.1)
      rw [ho]
      show (if q' = q' ∧ q' ∉ sL S then ((0 : Nat), 6) else own q') = _
      by_cases hm : q' ∉ sL S
      · rw [if_pos ⟨rfl, hm⟩]
      · rw [if_neg (fun z => hm z.2)]
        have : q' = g 6 := hq'.resolve_right hm
        rw [this] at hg ⊢
        exact h.ow 6 (by decide) (Or.inl hg)
    · have e : (if k = 6 then q' else g k) = g k := if_neg h6
      show own' (if k = 6 then q' else g k) = _
      simp only [e] at hg ⊢
      exact h'.ow k hk hg
  · rcases last_at he with ⟨hj, he⟩ | ⟨rfl, rfl⟩
    · show EN T own' j (if j = A.2.1.length then a else ad j) E2
      rw [if_neg (by omega)]
      exact (h'.en j E2 he).kP (P := fun p : Nat × Nat => p = (0, 5) ∨ p = (0, 6)) hF hP (fun k => by simp <;> omega)
    · show EN T own' A.2.1.length (if A.2.1.length = A.2.1.length then a else ad A.2.1.length) E2
      rw [if_pos rfl]
      exact hE'.kP (P := fun p : Nat × Nat => p = (0, 5) ∨ p = (0, 6)) hF hP (fun k => by simp <;> omega)
theorem RC.addR {gs : JP} (h : RC gs.2.1 S x own g ad ra aa sp A) {R : Rul} {r : Nat} (hR : RN S own A.2.2.1.length r R) (hl : A.2.2.1.length < 24) {Q : Int32 → PS → Prop} (kk : ∀ T own' g' ra', RC gs.2.1 T x own' g' ad ra' aa sp (A.1, A.2.1, A.2.2.1 ++ [R], A.2.2.2) → Q 1 T) : fJx4a65c_add_9ea2d gs S (g 7) r Q := by
  have h24 := h.n24
  refine AL.add h.lr (by simp; omega) (okL_ok hR.1 (Or.inr (Or.inr rfl))) (fun T q' hAL hF hq' => ?_)
  obtain ⟨own', ho⟩ : ∃ own' : Nat → Nat × Nat, own' = fun z => if z = q' ∧ q' ∉ sL S then (0, 8) else own z := ⟨_, rfl⟩
  have hO : ∀ z, z ∈ sL S → own' z = own z := fun z hz => by
    rw [ho]; exact if_neg (fun y => y.2 (y.1 ▸ hz))
  have h' := h.rename hO
  have hR' : RN S own' A.2.2.1.length r R := by
    obtain ⟨b1, b2, b3, b4, b5, b6, o⟩ := hR
    exact ⟨b1, b2, b3, b4, b5, b6, (hO _ (okP_in b1).1).trans o⟩
  have hP : ∀ z, (z = g 7 ∨ z = g 8 ∧ g 8 ≠ gs.2.1) → (fun p : Nat × Nat => p = (0, 7) ∨ p = (0, 8)) (own' z) := by
    rintro z (rfl | ⟨rfl, hz⟩)
    · exact Or.inl (h'.ow 7 (by decide) (Or.inr (by decide)))
    · exact Or.inr (h'.ow 8 (by decide) (Or.inl hz))
  refine kk T own' (fun k => if k = 8 then q' else g k) (fun i => if i = A.2.2.1.length then r else ra i) ⟨h'.kx (A := A) (P := fun p : Nat × Nat => p = (0, 7) ∨ p = (0, 8)) hF hP (by simp), ⟨h'.kd (A := A) (P := fun p : Nat × Nat => p = (0, 7) ∨ p = (0, 8)) hF hP (by simp) (by simp), h'.ks (A := A) (P := fun p : Nat × Nat => p = (0, 7) ∨ p = (0, 8)) hF hP (by simp) (by simp), hF.ok h'.rd⟩, ⟨h'.ke (A := A) (P := fun p : Nat × Nat => p = (0, 7) ∨ p = (0, 8)) hF hP (by simp) (by simp), ?_, h'.ka (A := A) (P := fun p : Nat × Nat => p = (0, 7) ∨ p = (0, 8)) hF hP (by simp) (by simp)⟩, fun k hk hg => ?_, fun j E he => (h'.en j E he).kP (P := fun p : Nat × Nat => p = (0, 7) ∨ p = (0, 8)) hF hP (fun k => by simp <;> omega), fun j R2 hr => ?_, fun j U hu => (h'.an j U hu).kP (P := fun p : Nat × Nat => p = (0, 7) ∨ p = (0, 8)) hF hP (by simp)⟩
  · show AL gs.2.1 T (g 7) q' ((List.range (A.2.2.1 ++ [R]).length).map (fun j => if j = A.2.2.1.length then r else ra j))
    rw [List.length_append, List.length_singleton, rng_snoc]
    exact hAL
  · by_cases h6 : k = 8
    · subst h6
      show own' q' = (0, 8)
      have hg : q' ≠ gs.2.1 := hg.elim id (fun z => absurd rfl z.2.1)
      rw [ho]
      show (if q' = q' ∧ q' ∉ sL S then ((0 : Nat), 8) else own q') = _
      by_cases hm : q' ∉ sL S
      · rw [if_pos ⟨rfl, hm⟩]
      · rw [if_neg (fun z => hm z.2)]
        have : q' = g 8 := hq'.resolve_right hm
        rw [this] at hg ⊢
        exact h.ow 8 (by decide) (Or.inl hg)
    · have e : (if k = 8 then q' else g k) = g k := if_neg h6
      show own' (if k = 8 then q' else g k) = _
      simp only [e] at hg ⊢
      exact h'.ow k hk hg
  · rcases last_at hr with ⟨hj, hr⟩ | ⟨rfl, rfl⟩
    · show RN T own' j (if j = A.2.2.1.length then r else ra j) R2
      rw [if_neg (by omega)]
      exact (h'.rn j R2 hr).kP (P := fun p : Nat × Nat => p = (0, 7) ∨ p = (0, 8)) hF hP (by simp)
    · show RN T own' A.2.2.1.length (if A.2.2.1.length = A.2.2.1.length then r else ra A.2.2.1.length) R2
      rw [if_pos rfl]
      exact hR'.kP (P := fun p : Nat × Nat => p = (0, 7) ∨ p = (0, 8)) hF hP (by simp)
theorem RC.addA {gs : JP} (h : RC gs.2.1 S x own g ad ra aa sp A) {U : Aud} {r : Nat} (hU : AN S own A.2.2.2.length r U) (hl : A.2.2.2.length < 24) {Q : Int32 → PS → Prop} (kk : ∀ T own' g' aa', RC gs.2.1 T x own' g' ad ra aa' sp (A.1, A.2.1, A.2.2.1, A.2.2.2 ++ [U]) → Q 1 T) : fJx4a65c_add_9ea2d gs S (g 9) r Q := by
  have h24 := h.n24
  refine AL.add h.la (by simp; omega) (okL_ok hU.1 (Or.inl rfl)) (fun T q' hAL hF hq' => ?_)
  obtain ⟨own', ho⟩ : ∃ own' : Nat → Nat × Nat, own' = fun z => if z = q' ∧ q' ∉ sL S then (0, 10) else own z := ⟨_, rfl⟩
  have hO : ∀ z, z ∈ sL S → own' z = own z := fun z hz => by
    rw [ho]; exact if_neg (fun y => y.2 (y.1 ▸ hz))
  have h' := h.rename hO
  have hU' : AN S own' A.2.2.2.length r U := by
    obtain ⟨b1, b2, b3, b4, b5, o⟩ := hU
    exact ⟨b1, b2, b3, b4, b5, (hO _ (okP_in b1).1).trans o⟩
  have hP : ∀ z, (z = g 9 ∨ z = g 10 ∧ g 10 ≠ gs.2.1) → (fun p : Nat × Nat => p = (0, 9) ∨ p = (0, 10)) (own' z) := by
    rintro z (rfl | ⟨rfl, hz⟩)
    · exact Or.inl (h'.ow 9 (by decide) (Or.inr (by decide)))
    · exact Or.inr (h'.ow 10 (by decide) (Or.inl hz))
  refine kk T own' (fun k => if k = 10 then q' else g k) (fun i => if i = A.2.2.2.length then r else aa i) ⟨h'.kx (A := A) (P := fun p : Nat × Nat => p = (0, 9) ∨ p = (0, 10)) hF hP (by simp), ⟨h'.kd (A := A) (P := fun p : Nat × Nat => p = (0, 9) ∨ p = (0, 10)) hF hP (by simp) (by simp), h'.ks (A := A) (P := fun p : Nat × Nat => p = (0, 9) ∨ p = (0, 10)) hF hP (by simp) (by simp), hF.ok h'.rd⟩, ⟨h'.ke (A := A) (P := fun p : Nat × Nat => p = (0, 9) ∨ p = (0, 10)) hF hP (by simp) (by simp), h'.kl (A := A) (P := fun p : Nat × Nat => p = (0, 9) ∨ p = (0, 10)) hF hP (by simp) (by simp), ?_⟩, fun k hk hg => ?_, fun j E he => (h'.en j E he).kP (P := fun p : Nat × Nat => p = (0, 9) ∨ p = (0, 10)) hF hP (fun k => by simp <;> omega), fun j R hr => (h'.rn j R hr).kP (P := fun p : Nat × Nat => p = (0, 9) ∨ p = (0, 10)) hF hP (by simp), fun j U2 hu => ?_⟩
  · show AL gs.2.1 T (g 9) q' ((List.range (A.2.2.2 ++ [U]).length).map (fun j => if j = A.2.2.2.length then r else aa j))
    rw [List.length_append, List.length_singleton, rng_snoc]
    exact hAL
  · by_cases h6 : k = 10
    · subst h6
      show own' q' = (0, 10)
      have hg : q' ≠ gs.2.1 := hg.elim id (fun z => absurd rfl z.2.2)
      rw [ho]
      show (if q' = q' ∧ q' ∉ sL S then ((0 : Nat), 10) else own q') = _
      by_cases hm : q' ∉ sL S
      · rw [if_pos ⟨rfl, hm⟩]
      · rw [if_neg (fun z => hm z.2)]
        have : q' = g 10 := hq'.resolve_right hm
        rw [this] at hg ⊢
        exact h.ow 10 (by decide) (Or.inl hg)
    · have e : (if k = 10 then q' else g k) = g k := if_neg h6
      show own' (if k = 10 then q' else g k) = _
      simp only [e] at hg ⊢
      exact h'.ow k hk hg
  · rcases last_at hu with ⟨hj, hu⟩ | ⟨rfl, rfl⟩
    · show AN T own' j (if j = A.2.2.2.length then r else aa j) U2
      rw [if_neg (by omega)]
      exact (h'.an j U2 hu).kP (P := fun p : Nat × Nat => p = (0, 9) ∨ p = (0, 10)) hF hP (by simp)
    · show AN T own' A.2.2.2.length (if A.2.2.2.length = A.2.2.2.length then r else aa A.2.2.2.length) U2
      rw [if_pos rfl]
      exact hU'.kP (P := fun p : Nat × Nat => p = (0, 9) ∨ p = (0, 10)) hF hP (by simp)
/-- one entry is another one, in new cells -/
theorem RC.setE (h : RC e0 S x own g ad ra aa sp A) {j : Nat} (hj : j < A.2.1.length) {E : Ent} {a : EAd} (hE : EN S own j a E) : ∃ T, fJx4a65c_set_bcc79 S (g 5) (nI j) a.1 = some ((ad j).1, T) ∧ RC e0 T x own g (fun i => if i = j then a else ad i) ra aa sp (A.1, A.2.1.set j E, A.2.2) := by
  have h24 := h.n24
  obtain ⟨T, t1, t2, t3⟩ := h.le.set (i := j) (y := a.1) (by simpa using hj) (okL_ok hE.1.1 (Or.inr (Or.inl rfl)))
  have hne : g 6 ≠ e0 := by
    obtain ⟨-, -, -, -, -, a6⟩ := h.le
    rcases a6 with ⟨-, a6⟩ | ⟨a6, -⟩
    · exfalso
      have := congrArg List.length a6
      rw [List.length_map, List.length_range, List.length_nil] at this
      omega
    · exact a6
  have hP : ∀ z, (z = g 5 ∨ z = g 6) → (fun p : Nat × Nat => p = (0, 5) ∨ p = (0, 6)) (own z) := by
    rintro z (rfl | rfl)
    · exact Or.inl (h.ow 5 (by decide) (Or.inr (by decide)))
    · exact Or.inr (h.ow 6 (by decide) (Or.inl hne))
  rw [map_getD hj] at t1
  refine ⟨T, t1, h.kx (A := A) (P := fun p : Nat × Nat => p = (0, 5) ∨ p = (0, 6)) t3 hP (by simp), ⟨h.kd (A := A) (P := fun p : Nat × Nat => p = (0, 5) ∨ p = (0, 6)) t3 hP (by simp) (by simp), h.ks (A := A) (P := fun p : Nat × Nat => p = (0, 5) ∨ p = (0, 6)) t3 hP (by simp) (by simp), t3.ok h.rd⟩, ⟨?_, h.kl (A := A) (P := fun p : Nat × Nat => p = (0, 5) ∨ p = (0, 6)) t3 hP (by simp) (by simp), h.ka (A := A) (P := fun p : Nat × Nat => p = (0, 5) ∨ p = (0, 6)) t3 hP (by simp) (by simp)⟩, h.ow, fun i E2 he => ?_, fun i R hr => (h.rn i R hr).kP (P := fun p : Nat × Nat => p = (0, 5) ∨ p = (0, 6)) t3 hP (by simp), fun i U hu => (h.an i U hu).kP (P := fun p : Nat × Nat => p = (0, 5) ∨ p = (0, 6)) t3 hP (by simp)⟩
  · show AL e0 T (g 5) (g 6) ((List.range (A.2.1.set j E).length).map (fun i => (if i = j then a else ad i).1))
    have e : (List.range (A.2.1.set j E).length).map (fun i => (if i = j then a else ad i).1) = ((List.range A.2.1.length).map (fun i => (ad i).1)).set j a.1 := by
      rw [List.length_set]
      apply List.ext_getElem?
      intro i
      rw [List.getElem?_set, List.getElem?_map, List.getElem?_map]
      by_cases hi : i < A.2.1.length
      · rw [List.getElem?_range hi]
        by_cases hij : j = i
        · subst hij
          simp [hi]
        · rw [if_neg hij]
          simp only [Option.map_some]
          rw [if_neg (fun z => hij z.symm)]
      · rw [List.getElem?_eq_none (by simp; omega)]
        by_cases hij : j = i
        · omega
        · rw [if_neg hij]
          rfl
    rw [e]
    exact t2
  · simp only [List.getElem?_set] at he
    by_cases hij : j = i
    · subst hij
      rw [if_pos rfl, if_pos hj] at he
      injection he with he
      subst he
      show EN T own j (if j = j then a else ad j) E
      rw [if_pos rfl]
      exact hE.kP (P := fun p : Nat × Nat => p = (0, 5) ∨ p = (0, 6)) t3 hP (fun k => by simp <;> omega)
    · rw [if_neg hij] at he
      show EN T own i (if i = j then a else ad i) E2
      rw [if_neg (fun z => hij z.symm)]
      exact (h.en i E2 he).kP (P := fun p : Nat × Nat => p = (0, 5) ∨ p = (0, 6)) t3 hP (fun k => by simp <;> omega)
def CW (e0 x : Nat) (q : Ans) (f : (Int32 → PS → Prop) → (Nat → PS → Prop) → Prop) : Prop := f (fun r T => q.1 = .inr r ∧ RCe e0 T x q.2) (fun z T => q.1 = .inl z ∧ RCe e0 T x q.2)
theorem cw_post {gs : JP} {n : Nat} (h : RC gs.2.1 S x own g ad ra aa sp A) (hW : WF A) (hn : 2000 < n) : CW gs.2.1 x (q_post A) (fX6_post gs n S x) := by
  have h24 := h.n24
  unfold CW fX6_post
  refine ⟨h.x, _, h.r63, h.o5, _, h.sze, ?_⟩
  show (if nI A.2.1.length < (24 : Int32) then _ else _)
  unfold q_post
  by_cases hf : 24 ≤ A.2.1.length
  · rw [if_neg (show ¬ (nI A.2.1.length < (24 : Int32)) from nI_nlt (b := 24) hf (by omega)), if_pos (by simp [hf])]
    exact ⟨rfl, h.e⟩
  · rw [if_pos (show nI A.2.1.length < (24 : Int32) from nI_lt (b := 24) (by omega) (by decide))]
    refine ⟨h.x, _, h.r63, h.x, ?_⟩
    refine cEntD h hW hn A.2.1.length (fun hb T hT => ?_) (fun hb hWE T own' a hT hE => ?_)
    · rw [if_pos (by simp [hb])]
      exact ⟨rfl, hT.e⟩
    · rw [if_neg (by simp [hb]; omega)]
      refine ⟨hT.o5, hT.addE hE (by omega) (fun T2 own2 g2 ad2 h2 => ?_)⟩
      have hl : (A.2.1 ++ [nwE A.1]).length = A.2.1.length + 1 := by simp
      obtain ⟨T3, t1, t2, t3⟩ := h2.dr.empty
      have h3 := h2.draft t3 t2
      have hs := h3.sze
      refine ⟨h2.x, _, h2.r60, h2.dr.ok5, _, t1, h3.x, _, h3.r63, h3.o5, _, hs, ?_⟩
      show Sum.inr (nI A.2.1.length) = Sum.inr (nI (A.2.1 ++ [nwE A.1]).length - 1) ∧ _
      rw [hl, nI_pred]
      exact ⟨rfl, h3.e⟩
theorem cw_write {gs : JP} {n : Nat} (h : RC gs.2.1 S x own g ad ra aa sp A) (hW : WF A) (v : Int32) (hn : 2000 < n) : CW gs.2.1 x (q_write A v) (fX6_write gs n S x v) := by
  have h24 := h.n24
  unfold CW fX6_write q_write
  refine ⟨h.x, ?_⟩
  rcases plc (v := v) (show A.2.1.length < 2 ^ 31 by omega) with ⟨j, hj, rfl, hi, hjc⟩ | ⟨hno, hi⟩
  · refine Or.inr ⟨_, h.atIn hj, h.x, ?_⟩
    have hold : entI A (nI j) = A.2.1.getD j ([], [], [], false) := by unfold entI; rw [hjc]
    rw [if_pos hi, hold, hjc]
    have hWo := hW.ent hj
    refine cEntD h hW hn j (fun hb T hT => ?_) (fun hb hWE T own' a hT hE => ?_)
    · rw [if_pos hb]
      exact ⟨rfl, hT.e⟩
    · rw [if_neg (show ¬ (bad A.1 (nwE A.1).2.2.1 = true) by rw [hb]; decide)]
      have hEo := hT.en j _ (getE hj)
      have hsame := SG.same (n := n) hE.2.2.1 hEo.2.2.1 (fun c hc => (hWE.2.1 c hc).2) (fun c hc => (hWo.2.1 c hc).2) (by have := hWE.2.2.2.1; omega)
      obtain ⟨T2, s1, s2⟩ := hT.setE hj hE
      obtain ⟨T3, t1, t2, t3⟩ := s2.dr.empty
      have h3 := s2.draft t3 t2
      refine ⟨hE.1.1, _, hE.1.2.2.1, hEo.1.1, _, hEo.1.2.2.1, hE.2.2.1.ok5, _, hsame, ?_⟩
      show (if (if (nwE A.1).2.1 = (A.2.1.getD j ([], [], [], false)).2.1 then (1 : Int32) else 0) = 0 then _ else _)
      by_cases hw : (nwE A.1).2.1 = (A.2.1.getD j ([], [], [], false)).2.1
      · rw [if_pos hw, if_neg (show ¬ ((1 : Int32) = 0) by decide), if_pos rfl, decide_eq_false (fun z => z hw), Bool.false_and, if_neg (show ¬ ((false : Bool) = true) by decide)]
        refine ⟨hT.x, _, hT.r63, hT.o5, _, _, s1, s2.x, _, s2.r60, s2.dr.ok5, _, t1, by decide, rfl, h3.e⟩
      · rw [if_neg hw, if_pos rfl, decide_eq_true hw, Bool.true_and]
        refine ⟨hT.x, _, hT.frz (n := n) hW (j := j) (by omega) (by omega), ?_⟩
        show (if b2i (Jvm.Pilot.CPostlintLaw_law_r3329_88fbce.frz A.2.2.2 j) = 0 then _ else _)
        cases hz : Jvm.Pilot.CPostlintLaw_law_r3329_88fbce.frz A.2.2.2 j with
        | true =>
          rw [if_neg (show ¬ (b2i true = (0 : Int32)) by decide), if_pos rfl]
          exact ⟨rfl, hT.e⟩
        | false =>
          rw [if_pos (show b2i false = (0 : Int32) from rfl), if_neg (show ¬ ((false : Bool) = true) by decide)]
          refine ⟨hT.x, _, hT.r63, hT.o5, _, _, s1, s2.x, _, s2.r60, s2.dr.ok5, _, t1, by decide, rfl, h3.e⟩
  · refine Or.inl ⟨2, h.atOut hno, ?_⟩
    rw [if_neg (by rw [hi]; decide)]
    exact ⟨rfl, h.e⟩
end RCsec
