/-! each call of the landed program that makes no cell -/
def RCe (e0 : Nat) (S : PS) (x : Nat) (A : Abs) : Prop := ∃ (own : Nat → Nat × Nat) (g : Nat → Nat) (ad : Nat → EAd) (ra aa : Nat → Nat) (sp : List Nat), RC e0 S x own g ad ra aa sp A
def CO (e0 x : Nat) (q : Ans) (f : Option ((Nat × PS) ⊕ (Int32 × PS))) : Prop := (∃ z T, q.1 = .inl z ∧ f = some (.inl (z, T)) ∧ RCe e0 T x q.2) ∨ (∃ r T, q.1 = .inr r ∧ f = some (.inr (r, T)) ∧ RCe e0 T x q.2)
def CP (A : Abs) (q : Ans) (f : Option (Nat ⊕ Int32)) : Prop := q.2 = A ∧ ((∃ z, q.1 = .inl z ∧ f = some (.inl z)) ∨ (∃ r, q.1 = .inr r ∧ f = some (.inr r)))
section RCsec
variable {e0 : Nat} {S : PS} {x : Nat} {own : Nat → Nat × Nat} {g : Nat → Nat} {ad : Nat → EAd} {ra aa : Nat → Nat} {sp : List Nat} {A : Abs}
theorem RC.e (h : RC e0 S x own g ad ra aa sp A) : RCe e0 S x A := ⟨own, g, ad, ra, aa, sp, h⟩
theorem own_ne {a b : Nat} {p q : Nat × Nat} (h1 : own a = p) (h2 : own b = q) (h : p ≠ q) : a ≠ b := by
  rintro rfl
  exact h (h1.symm.trans h2)
theorem inB_of {j n : Nat} (h : j < n) (hn : n < 2 ^ 31) : inB (nI j) n = true := inB_nI h hn
/-- an argument: a place, or none -/
theorem plc {v : Int32} {n : Nat} (hn : n < 2 ^ 31) : (∃ j, j < n ∧ v = nI j ∧ inB v n = true ∧ v.toNatClampNeg = j) ∨ (¬ inX v n ∧ inB v n = false) := by
  by_cases h : inB v n = true
  · obtain ⟨h1, h2⟩ := inB_nI2 h
    exact Or.inl ⟨_, h1, h2, h, rfl⟩
  · exact Or.inr ⟨inB_no h hn, by simpa using h⟩
theorem co_type (h : RC e0 S x own g ad ra aa sp A) (hW : WF A) (v : Int32) : CO e0 x (q_type A v) (fX6_type S x v) := by
  have h60 := hW.1.1
  unfold fX6_type q_type
  by_cases h1 : v < 32
  · rw [if_pos h1, if_pos (Or.inl h1)]
    exact Or.inl ⟨0, S, rfl, rfl, h.e⟩
  · rw [if_neg h1]
    by_cases h2 : 126 < v
    · rw [if_neg (Int32.not_le.mpr h2), if_pos (Or.inr h2)]
      exact Or.inl ⟨0, S, rfl, rfl, h.e⟩
    · rw [if_pos (Int32.not_lt.mp h2), if_neg (fun z => z.elim h1 h2)]
      simp only [chk, h.x, h.r60, bP, h.dr.ok5, h.dr.size]
      by_cases hf : A.1.length = 60
      · rw [if_neg (show ¬ (nI A.1.length < (60 : Int32)) from nI_nlt (b := 60) (by omega) (by omega)), if_pos hf]
        exact Or.inl ⟨1, S, rfl, rfl, h.e⟩
      · rw [if_pos (show nI A.1.length < (60 : Int32) from nI_lt (b := 60) (by omega) (by decide)), if_neg hf]
        have hv0 : ¬ v < 0 := fun z => h1 (Int32.lt_trans z (by decide))
        obtain ⟨c, hc, rfl⟩ := nI_of hv0
        obtain ⟨T, t1, t2, t3⟩ := h.dr.add c (by omega)
        have hT := h.draft t3 t2
        rw [nI_clamp hc]
        refine Or.inr ⟨nI (A.1.length + 1), T, rfl, ?_, hT.e⟩
        have hsz := t2.size
        rw [List.length_append] at hsz
        simp only [t1, hT.x, hT.r60, t2.ok5]
        rw [hsz]
        rfl
theorem co_clear (h : RC e0 S x own g ad ra aa sp A) : ∃ T, fX6_clear S x = some (nI A.1.length, T) ∧ RCe e0 T x ([], A.2) := by
  obtain ⟨T, t1, t2, t3⟩ := h.dr.empty
  refine ⟨T, ?_, (h.draft t3 t2).e⟩
  unfold fX6_clear
  simp only [chk, h.x, h.r60, bP, h.dr.ok5, h.dr.size, t1]
theorem RC.rdr (h : RC e0 S x own g ad ra aa sp A) (hW : WF A) {n : Nat} (hn : 60 < n) : ∃ T, fX2_faultOf n S (g 4) (g 0) = some (xFaultI A.1, T) ∧ RC e0 T x own g ad ra aa sp A ∧ FR (fun z => z = g 4) S T := by
  have o4 := h.ow 4 (by decide) (Or.inr (by decide))
  have o0 := h.ow 0 (by decide) (Or.inr (by decide))
  have o1 := h.ow 1 (by decide) (Or.inr (by decide))
  obtain ⟨T, t1, t2⟩ := cFault (n := n) (own_ne o0 o4 (by decide)) (own_ne o1 o4 (by decide)) (fun c hc => (hW.1.2 c hc).2) h.rd h.dr hn
  exact ⟨T, t1, h.reader t2, t2⟩
theorem co_fault {n : Nat} (h : RC e0 S x own g ad ra aa sp A) (hW : WF A) (hn : 60 < n) : ∃ T, fX6_fault n S x = some (xFaultI A.1, T) ∧ RCe e0 T x A := by
  obtain ⟨T, t1, t2, -⟩ := h.rdr hW hn
  refine ⟨T, ?_, t2.e⟩
  unfold fX6_fault
  simp only [chk, h.x, h.r62, h.r60, bP, h.rd, t1, b2]
theorem co_entries (h : RC e0 S x own g ad ra aa sp A) : fX6_entries S x = some (nI A.2.1.length) := by
  unfold fX6_entries
  simp only [chk, h.x, h.r63, bP, h.o5, h.sze]
theorem cStrL {n : Nat} (h : RC e0 S x own g ad ra aa sp A) : ∀ (r : List Ent) (i k : Nat) (s : Int32), A.2.1.drop i = r → i ≤ 30 → r.length < k → fX6_strike_L40 n k S x s (nI i) = some (r.foldl (fun s E => if E.2.2.2 = true then s else s + 1) s) := by
  have h24 := h.n24
  intro r
  induction r with
  | nil =>
    intro i k s hdr hi hk
    obtain ⟨k, rfl⟩ : ∃ k', k = k' + 1 := ⟨k - 1, by simp at hk; omega⟩
    unfold fX6_strike_L40
    simp only [chk, h.x, h.r63, bP, h.o5, h.sze]
    rw [if_pos (nI_le (ldnil hdr) (by omega))]
    rfl
  | cons E r ih =>
    intro i k s hdr hi hk
    obtain ⟨k, rfl⟩ : ∃ k', k = k' + 1 := ⟨k - 1, by simp at hk; omega⟩
    obtain ⟨hlt, hg, hdr2⟩ := ldrop hdr
    simp only [List.length_cons] at hk
    have hE := h.en i E hg
    have hs := hE.2.2.2.2.1
    unfold fX6_strike_L40
    simp only [chk, h.x, h.r63, bP, h.o5, h.sze]
    rw [if_neg (nI_ge hlt (by omega)), h.ge hlt]
    simp only [hE.1.1, hs, nI_1]
    rw [List.foldl_cons]
    cases E.2.2.2 with
    | true =>
      rw [if_neg (show ¬ (b2i true = (0 : Int32)) by decide)]
      exact ih (i + 1) k _ hdr2 (by omega) (by omega)
    | false =>
      rw [if_pos (show b2i false = (0 : Int32) from rfl)]
      exact ih (i + 1) k _ hdr2 (by omega) (by omega)
theorem cZeroL {n e tv wv am : Nat} : ∀ (m i k : Nat) (S : PS), i + m = 8 → m < k → EC S e tv wv am → (∀ a, a < i → sA S am a = 0) → ∃ T, fX1_strikeOut_L20 n k S e (nI i) = some T ∧ EC T e tv wv am ∧ (∀ a, a < 8 → sA T am a = 0) ∧ FR (fun z => z = am) S T ∧ (∀ q, sI T q e = sI S q e) := by
  intro m
  induction m with
  | zero =>
    intro i k S hi hk hE hz
    obtain ⟨k, rfl⟩ : ∃ k', k = k' + 1 := ⟨k - 1, by omega⟩
    have : i = 8 := by omega
    subst this
    have hE0 := hE
    obtain ⟨a1, a2, a3, a4, a5, a6⟩ := hE
    refine ⟨S, ?_, hE0, hz, FR.rf, fun _ => rfl⟩
    unfold fX1_strikeOut_L20
    simp only [chk, a1, a4, a5, bP, a6]
    rw [if_pos (Int32.le_refl _)]
  | succ m ih =>
    intro i k S hi hk hE hz
    obtain ⟨k, rfl⟩ : ∃ k', k = k' + 1 := ⟨k - 1, by omega⟩
    have hE0 := hE
    obtain ⟨a1, a2, a3, a4, a5, a6⟩ := hE
    obtain ⟨T, t1, t2, t3, t4, t5⟩ := ih (i + 1) k (pA S am i 0) (by omega) (by omega) ⟨a1, a2, a3, a4, a5, a6⟩ (fun a ha => by
      rw [pA_A]
      unfold upd
      by_cases hai : a = i
      · rw [if_pos hai]
      · rw [if_neg hai]; exact hz a (by omega))
    refine ⟨T, ?_, t2, t3, FR.pA.trans t4, t5⟩
    unfold fX1_strikeOut_L20
    simp only [chk, a1, a4, a5, bP, a6]
    rw [if_neg (nI_ge (show i < 8 by omega) (by decide)), inB_nI (show i < 8 by omega) (by decide), nI_clamp (by omega)]
    simp only [bnd, nI_1]
    exact t1
theorem cStrike {n j : Nat} {a : EAd} {E : Ent} (h : EN S own j a E) (hn : 10 < n) : ∃ T, fX1_strikeOut n S a.1 = some T ∧ EN T own j a strE ∧ FR (fun z => ∃ k, own z = (1 + j, k)) S T := by
  obtain ⟨hE, hty, hwr, hA, hst, o0, o1, o2, o3, o4, o5⟩ := h
  obtain ⟨e, tv, tq, wv, wq, am⟩ := a
  simp only at hE hty hwr hA hst o0 o1 o2 o3 o4 o5 ⊢
  have F1 : ∀ z, (z = tv ∨ z = tq) → ∃ k, own z = (1 + j, k) := by rintro z (rfl | rfl); exact ⟨_, o1⟩; exact ⟨_, o2⟩
  have F2 : ∀ z, (z = wv ∨ z = wq) → ∃ k, own z = (1 + j, k) := by rintro z (rfl | rfl); exact ⟨_, o3⟩; exact ⟨_, o4⟩
  have ne : ∀ {p q : Nat} {u v : Nat × Nat}, own p = u → own q = v → u ≠ v → p ≠ q := fun h1 h2 hh => own_ne h1 h2 hh
  obtain ⟨T1, a1, a2, a3⟩ := hty.one 45 (by decide)
  have hE1 := hE.keep a3 (fun z => z.elim (ne o0 o1 (by simp)) (ne o0 o2 (by simp))) (fun z => z.elim (ne o5 o1 (by simp)) (ne o5 o2 (by simp)))
  have hw1 := hwr.keep a3 (fun z => z.elim (ne o3 o1 (by simp)) (ne o3 o2 (by simp))) (fun z => z.elim (ne o4 o1 (by simp)) (ne o4 o2 (by simp)))
  obtain ⟨T2, b1, b2, b3⟩ := hw1.one 45 (by decide)
  have hE2 := hE1.keep b3 (fun z => z.elim (ne o0 o3 (by simp)) (ne o0 o4 (by simp))) (fun z => z.elim (ne o5 o3 (by simp)) (ne o5 o4 (by simp)))
  have ht2 := a2.keep b3 (fun z => z.elim (ne o1 o3 (by simp)) (ne o1 o4 (by simp))) (fun z => z.elim (ne o2 o3 (by simp)) (ne o2 o4 (by simp)))
  obtain ⟨T3, c1, c2, c3, c4, c5⟩ := cZeroL (n := n) 8 0 n T2 rfl (by omega) hE2 (fun a ha => absurd ha (Nat.not_lt_zero _))
  have ht3 := ht2.keep c4 (fun z => ne o1 o5 (by simp) z) (fun z => ne o2 o5 (by simp) z)
  have hw3 := b2.keep c4 (fun z => ne o3 o5 (by simp) z) (fun z => ne o4 o5 (by simp) z)
  have hea : e ≠ am := ne o0 o5 (by simp)
  have hF4 : FR (fun z => z = e) T3 (pI (pI T3 23 e 0) 25 e 1) := FR.pI.trans FR.pI
  have ht4 := ht3.keep hF4 (fun z => ne o1 o0 (by simp) z) (fun z => ne o2 o0 (by simp) z)
  have hw4 := hw3.keep hF4 (fun z => ne o3 o0 (by simp) z) (fun z => ne o4 o0 (by simp) z)
  obtain ⟨d1, d2, d3, d4, d5, d6⟩ := c2
  refine ⟨pI (pI T3 23 e 0) 25 e 1, ?_, ⟨⟨d1, d2, d3, d4, d5, d6⟩, ht4, hw4, ⟨?_, fun a ha => ?_⟩, pI_I, o0, o1, o2, o3, o4, o5⟩, ?_⟩
  · have e45 : nI 45 = (45 : Int32) := rfl
    have e0' : nI 0 = (0 : Int32) := nI_0
    rw [e45] at a1 b1
    rw [e0'] at c1
    unfold fX1_strikeOut
    obtain ⟨x1, x2, x3, x4, x5, x6⟩ := hE
    obtain ⟨y1, y2, y3, y4, y5, y6⟩ := hE1
    simp only [chk, x1, x2, bP, hty.ok5, a1, y1, y3, hw1.ok5, b1, c1, bL1, d1, bnd, pI_ok, show b01 (1 : Int32) = true by decide]
  · rw [pI_Ig (by decide), pI_I]
    rfl
  · show sA T3 am a = gts [] a
    rw [c3 a ha]
    rfl
  · refine (((a3.mono F1).trans (b3.mono F2)).trans (c4.mono (fun z hz => ⟨5, by rw [hz]; exact o5⟩))).trans (hF4.mono (fun z hz => ⟨0, by rw [hz]; exact o0⟩))
theorem co_strike {n : Nat} (h : RC e0 S x own g ad ra aa sp A) (hW : WF A) (v : Int32) (hn : 2000 < n) : CO e0 x (q_strike A v) (fX6_strike n S x v) := by
  have h24 := h.n24
  unfold fX6_strike q_strike
  simp only [chk, h.x]
  rcases plc (v := v) (show A.2.1.length < 2 ^ 31 by omega) with ⟨j, hj, rfl, hi, hjc⟩ | ⟨hno, hi⟩
  · rw [if_pos hi, h.atIn hj]
    have hE := h.en j _ (getE hj)
    have hold : entI A (nI j) = A.2.1.getD j ([], [], [], false) := by unfold entI; rw [hjc]
    have hs := hE.2.2.2.2.1
    rw [hold, hjc]
    simp only [bS1, hE.1.1, hs]
    cases hst : (A.2.1.getD j ([], [], [], false)).2.2.2 with
    | true =>
      rw [if_neg (show ¬ (b2i true = (0 : Int32)) by decide), Bool.true_or, if_pos rfl]
      exact Or.inl ⟨1, S, rfl, rfl, h.e⟩
    | false =>
      rw [if_pos (show b2i false = (0 : Int32) from rfl), Bool.false_or, h.frz (n := n) hW (by omega) (by omega)]
      simp only [bP]
      cases hz : Jvm.Pilot.CPostlintLaw_law_r3329_88fbce.frz A.2.2.2 j with
      | true =>
        rw [if_neg (show ¬ (b2i true = (0 : Int32)) by decide), if_pos rfl]
        exact Or.inl ⟨1, S, rfl, rfl, h.e⟩
      | false =>
        rw [if_pos (show b2i false = (0 : Int32) from rfl), if_neg (by decide)]
        obtain ⟨T, t1, t2, t3⟩ := cStrike (n := n) hE (by omega)
        have hT := h.entry hj t3 (fun z hz => hz) (by omega) t2
        have hcl := cStrL (n := n) hT (A.2.1.set j strE) 0 n 0 rfl (by decide) (by rw [List.length_set]; omega)
        have e0' : nI 0 = (0 : Int32) := nI_0
        rw [e0'] at hcl
        refine Or.inr ⟨_, T, rfl, ?_, hT.e⟩
        rw [t1]
        simp only []
        rw [hcl]
        rfl
  · rw [if_neg (by rw [hi]; decide), h.atOut hno]
    exact Or.inl ⟨2, S, rfl, rfl, h.e⟩
theorem co_takeBack {n : Nat} (h : RC e0 S x own g ad ra aa sp A) (hW : WF A) (v : Int32) (hn : 2000 < n) : CO e0 x (q_takeBack A v) (fX6_takeBack n S x v) := by
  have h24 := h.n24r
  unfold fX6_takeBack q_takeBack
  simp only [chk, h.x]
  rcases plc (v := v) (show A.2.2.1.length < 2 ^ 31 by omega) with ⟨j, hj, rfl, hi, hjc⟩ | ⟨hno, hi⟩
  · rw [if_pos hi, h.rAtIn hj]
    have hR := h.rn j _ (getR hj)
    have hold : rulI A (nI j) = A.2.2.1.getD j (0, 0, 0, 0, false) := by unfold rulI; rw [hjc]
    rw [hold, hjc]
    obtain ⟨b1, b2, b3, b4, b5, b6, o⟩ := hR
    simp only [bS1, b1, b6]
    cases hst : (A.2.2.1.getD j (0, 0, 0, 0, false)).2.2.2.2 with
    | true =>
      rw [if_neg (show ¬ (b2i true = (0 : Int32)) by decide), if_pos rfl]
      exact Or.inl ⟨1, S, rfl, rfl, h.e⟩
    | false =>
      rw [if_pos (show b2i false = (0 : Int32) from rfl), if_neg (by decide), h.cdb (n := n) hW (by omega) hj]
      simp only [bP, show b01 (1 : Int32) = true by decide, bnd]
      have hT := h.ruleSet (T := pI S 44 (ra j) 1) (R' := ((A.2.2.1.getD j (0, 0, 0, 0, false)).1, (A.2.2.1.getD j (0, 0, 0, 0, false)).2.1, (A.2.2.1.getD j (0, 0, 0, 0, false)).2.2.1, (A.2.2.1.getD j (0, 0, 0, 0, false)).2.2.2.1, true)) hj FR.pI (fun z hz => by rw [hz]; exact o) ⟨b1, by rw [pI_Ig (by decide)]; exact b2, by rw [pI_Ig (by decide)]; exact b3, by rw [pI_Ig (by decide)]; exact b4, by rw [pI_Ig (by decide)]; exact b5, pI_I, o⟩
      exact Or.inr ⟨_, _, rfl, rfl, hT.e⟩
  · rw [if_neg (by rw [hi]; decide), h.rAtOut hno]
    exact Or.inl ⟨2, S, rfl, rfl, h.e⟩
theorem RC.kept {n : Nat} (h : RC e0 S x own g ad ra aa sp A) (hW : WF A) (hn : 60 < n) {j : Nat} (hj : j < A.2.2.2.length) {S' : PS} {U' : Aud} (h' : RC e0 S' x own g ad ra aa sp (A.1, A.2.1, A.2.2.1, A.2.2.2.set j U')) (hU : U' = ((A.2.2.2.getD j (0, 0, 0, false)).1, (A.2.2.2.getD j (0, 0, 0, false)).2.1, (A.2.2.2.getD j (0, 0, 0, false)).2.2.1, U'.2.2.2)) : fX6_isProofKept n S' x (aa j) = some (hld A (A.2.2.2.getD j (0, 0, 0, false))) := by
  have hb := hW.2.2.2.2 _ (List.mem_of_getElem? (getU hj))
  have hA := h'.an j U' (by rw [List.getElem?_set, if_pos rfl, if_pos hj])
  obtain ⟨b1, b2, b3, b4, b5, -⟩ := hA
  have e1 : U'.2.1 = (A.2.2.2.getD j (0, 0, 0, false)).2.1 := by rw [hU]
  have e2 : U'.2.2.1 = (A.2.2.2.getD j (0, 0, 0, false)).2.2.1 := by rw [hU]
  rw [e1] at b3
  rw [e2] at b4
  unfold fX6_isProofKept hld
  simp only [chk, b1, h'.x, b3, b4, h'.prf (n := n) hn hb.2, bP]
  by_cases hc : Jvm.Pilot.CPostlintLaw_law_r3329_88fbce.prf A.2.1 (A.2.2.2.getD j (0, 0, 0, false)).2.1 = (A.2.2.2.getD j (0, 0, 0, false)).2.2.1
  · rw [if_pos hc, if_pos hc]; rfl
  · rw [if_neg hc, if_neg hc]; rfl
theorem hld01 (U : Aud) : b01 (hld A U) = true := by
  unfold hld
  by_cases hc : prf A.2.1 U.2.1 = U.2.2.1
  · rw [if_pos hc]; rfl
  · rw [if_neg hc]; rfl
theorem co_end {n : Nat} (h : RC e0 S x own g ad ra aa sp A) (hW : WF A) (v : Int32) (hn : 2000 < n) : CO e0 x (q_end A v) (fX6_end n S x v) := by
  have h24 := h.n24a
  unfold fX6_end q_end
  simp only [chk, h.x]
  rcases plc (v := v) (show A.2.2.2.length < 2 ^ 31 by omega) with ⟨j, hj, rfl, hi, hjc⟩ | ⟨hno, hi⟩
  · rw [if_pos hi, h.aAtIn hj]
    have hold : audI A (nI j) = A.2.2.2.getD j (0, 0, 0, false) := by unfold audI; rw [hjc]
    have hU := h.an j _ (getU hj)
    rw [hold, hjc]
    obtain ⟨b1, b2, b3, b4, b5, o⟩ := hU
    simp only [bS1, b1, b5]
    cases hst : (A.2.2.2.getD j (0, 0, 0, false)).2.2.2 with
    | true =>
      rw [if_neg (show ¬ (b2i true = (0 : Int32)) by decide), if_pos rfl]
      exact Or.inl ⟨1, S, rfl, rfl, h.e⟩
    | false =>
      rw [if_pos (show b2i false = (0 : Int32) from rfl), if_neg (by decide)]
      have hT := h.auditSet (T := pI S 13 (aa j) 1) (U' := ((A.2.2.2.getD j (0, 0, 0, false)).1, (A.2.2.2.getD j (0, 0, 0, false)).2.1, (A.2.2.2.getD j (0, 0, 0, false)).2.2.1, true)) hj FR.pI (fun z hz => by rw [hz]; exact o) ⟨b1, by rw [pI_Ig (by decide)]; exact b2, by rw [pI_Ig (by decide)]; exact b3, by rw [pI_Ig (by decide)]; exact b4, pI_I, o⟩
      have hk := h.kept (n := n) hW (by omega) hj hT rfl
      refine Or.inr ⟨_, _, rfl, ?_, hT.e⟩
      simp only [show b01 (1 : Int32) = true by decide, bnd, hT.x, hk, bP, hld01]
  · rw [if_neg (by rw [hi]; decide), h.aAtOut hno]
    exact Or.inl ⟨2, S, rfl, rfl, h.e⟩
theorem set_self {L : List Aud} {j : Nat} (hj : j < L.length) : L.set j (L.getD j (0, 0, 0, false)) = L := by
  rw [List.getD_eq_getElem?_getD, List.getElem?_eq_getElem hj]
  exact List.set_getElem_self hj
theorem cp_holds {n : Nat} (h : RC e0 S x own g ad ra aa sp A) (hW : WF A) (v : Int32) (hn : 2000 < n) : CP A (q_holds A v) (fX6_holds n S x v) := by
  have h24 := h.n24a
  unfold fX6_holds q_holds
  simp only [chk, h.x]
  rcases plc (v := v) (show A.2.2.2.length < 2 ^ 31 by omega) with ⟨j, hj, rfl, hi, hjc⟩ | ⟨hno, hi⟩
  · rw [if_pos hi, h.aAtIn hj]
    have hold : audI A (nI j) = A.2.2.2.getD j (0, 0, 0, false) := by unfold audI; rw [hjc]
    rw [hold]
    have h' : RC e0 S x own g ad ra aa sp (A.1, A.2.1, A.2.2.1, A.2.2.2.set j (A.2.2.2.getD j (0, 0, 0, false))) := by rw [set_self hj]; exact h
    have hk := h.kept (n := n) hW (by omega) hj h' rfl
    refine ⟨rfl, Or.inr ⟨_, rfl, ?_⟩⟩
    simp only [bS1, hk, bP, hld01]
  · rw [if_neg (by rw [hi]; decide), h.aAtOut hno]
    exact ⟨rfl, Or.inl ⟨2, rfl, rfl⟩⟩
theorem cp_proof {n : Nat} (h : RC e0 S x own g ad ra aa sp A) (v : Int32) (hn : 2000 < n) : CP A (q_proof A v) (fX6_proof n S x v) ∧ CP A (q_proof A v) (fX6_proofAnew n S x v) := by
  have h24 := h.n24
  unfold fX6_proof fX6_proofAnew q_proof
  simp only [chk, h.x]
  rcases plc (v := v) (show A.2.1.length < 2 ^ 31 by omega) with ⟨j, hj, rfl, hi, hjc⟩ | ⟨hno, hi⟩
  · rw [if_pos hi, h.needIn hj, hjc]
    simp only [bS0, h.prf (n := n) (by omega) hj, bP]
    exact ⟨⟨rfl, Or.inr ⟨_, rfl, rfl⟩⟩, ⟨rfl, Or.inr ⟨_, rfl, rfl⟩⟩⟩
  · rw [if_neg (by rw [hi]; decide), h.needOut hno]
    exact ⟨⟨rfl, Or.inl ⟨2, rfl, rfl⟩⟩, ⟨rfl, Or.inl ⟨2, rfl, rfl⟩⟩⟩
theorem needAcc (a : Int32) : fX6_needAccount a = some (if inB a 8 = true then .inr () else .inl 0) := by
  unfold fX6_needAccount
  rcases plc (v := a) (n := 8) (by decide) with ⟨j, hj, rfl, hi, -⟩ | ⟨hno, hi⟩
  · rw [if_pos hi, if_neg (nI_pos (by omega)), if_pos (show nI j < (8 : Int32) from nI_lt (b := 8) hj (by decide))]
  · rw [show (if inB a 8 = true then (Sum.inr () : Nat ⊕ Unit) else .inl 0) = .inl 0 by rw [hi]; rfl]
    rcases inX_lt hno (by decide) with h0 | ⟨h0, -, h1⟩
    · rw [if_pos h0]
    · rw [if_neg h0, if_neg (show ¬ (a < (8 : Int32)) from h1)]
theorem needFrm (f : Int32) : fX6_needForm f = some (if inB f 3 = true then .inr () else .inl 0) := by
  unfold fX6_needForm
  rcases plc (v := f) (n := 3) (by decide) with ⟨j, hj, rfl, hi, -⟩ | ⟨hno, hi⟩
  · rw [if_pos hi, if_neg (nI_pos (by omega)), if_pos (show nI j ≤ (2 : Int32) from nI_le (b := 2) (by omega) (by decide))]
  · rw [show (if inB f 3 = true then (Sum.inr () : Nat ⊕ Unit) else .inl 0) = .inl 0 by rw [hi]; rfl]
    rcases inX_lt hno (by decide) with h0 | ⟨h0, h1, -⟩
    · rw [if_pos h0]
    · rw [if_neg h0, if_neg (show ¬ (f ≤ (2 : Int32)) from fun z => absurd (Int32.le_trans (show (3 : Int32) ≤ f from h1) z) (by decide))]
theorem cp_gets (h : RC e0 S x own g ad ra aa sp A) (e a : Int32) : CP A (q_gets A e a) (fX6_gets S x e a) := by
  have h24 := h.n24
  unfold fX6_gets q_gets
  simp only [chk, h.x]
  rcases plc (v := e) (show A.2.1.length < 2 ^ 31 by omega) with ⟨j, hj, rfl, hi, hjc⟩ | ⟨hno, hi⟩
  · rw [if_pos hi, h.atIn hj, needAcc]
    simp only [bS1]
    have hold : entI A (nI j) = A.2.1.getD j ([], [], [], false) := by unfold entI; rw [hjc]
    cases hi2 : inB a 8 with
    | false => exact ⟨rfl, Or.inl ⟨0, rfl, rfl⟩⟩
    | true =>
      obtain ⟨ha, hv⟩ := inB_nI2 hi2
      have hE := h.en j _ (getE hj)
      have hg := hE.amt ha
      rw [← hv] at hg
      rw [if_pos rfl, if_pos rfl, hold]
      simp only [bS0, hE.1.1, hg, bP]
      exact ⟨rfl, Or.inr ⟨_, rfl, rfl⟩⟩
  · rw [if_neg (by rw [hi]; decide), h.atOut hno]
    exact ⟨rfl, Or.inl ⟨2, rfl, rfl⟩⟩
theorem cp_sum {n : Nat} (h : RC e0 S x own g ad ra aa sp A) (e a : Int32) (hn : 2000 < n) : CP A (q_sum A e a) (fX6_sum n S x e a) := by
  have h24 := h.n24
  have hJ : ∀ m, m ≤ A.2.1.length → e = nI m - 1 → CP A (if inB a 8 = true then (.inr (Jvm.Pilot.CPostlintLaw_law_r3329_88fbce.smU a.toNatClampNeg 0 (A.2.1.take m)), A) else (.inl 0, A)) (fX6_sum_J10 n S x e a) := by
    intro m hm hem
    unfold fX6_sum_J10
    rw [needAcc]
    cases hi2 : inB a 8 with
    | false => exact ⟨rfl, Or.inl ⟨0, rfl, rfl⟩⟩
    | true =>
      obtain ⟨ha, hv⟩ := inB_nI2 hi2
      have hg := h.smU (n := n) hm hem ha (by omega)
      rw [← hv] at hg
      rw [if_pos rfl, if_pos rfl]
      simp only [bS0, chk, h.x, hg, bP]
      exact ⟨rfl, Or.inr ⟨_, rfl, rfl⟩⟩
  unfold fX6_sum q_sum
  by_cases he : e = -1
  · rw [if_pos he, if_pos (by simp [he]), if_pos he]
    exact hJ 0 (Nat.zero_le _) (by rw [he]; rfl)
  · rw [if_neg he, if_neg he]
    simp only [chk, h.x]
    rcases plc (v := e) (show A.2.1.length < 2 ^ 31 by omega) with ⟨j, hj, rfl, hi, hjc⟩ | ⟨hno, hi⟩
    · rw [if_pos (by simp [hi]), h.needIn hj, hjc]
      exact hJ (j + 1) hj (nI_pred j).symm
    · rw [if_neg (by simp [hi, he]), h.needOut hno]
      exact ⟨rfl, Or.inl ⟨2, rfl, rfl⟩⟩
theorem cp_doubts {n : Nat} (h : RC e0 S x own g ad ra aa sp A) (hW : WF A) (v : Int32) (hn : 2000 < n) : CP A (q_doubts A v) (fX6_doubts n S x v) := by
  have h24 := h.n24
  unfold fX6_doubts q_doubts
  simp only [chk, h.x]
  rcases plc (v := v) (show A.2.1.length < 2 ^ 31 by omega) with ⟨j, hj, rfl, hi, hjc⟩ | ⟨hno, hi⟩
  · rw [if_pos hi, h.needIn hj, hjc]
    have hl := RC.dbsL (n := n) h hW (by omega) hj A.2.2.1.length 0 n 0 (by omega) (by have := h.n24r; omega)
    have e0' : nI 0 = (0 : Int32) := nI_0
    rw [e0'] at hl
    simp only [bS0, hl, bL1]
    exact ⟨rfl, Or.inr ⟨_, rfl, rfl⟩⟩
  · rw [if_neg (by rw [hi]; decide), h.needOut hno]
    exact ⟨rfl, Or.inl ⟨2, rfl, rfl⟩⟩
theorem cp_doubted {n : Nat} (h : RC e0 S x own g ad ra aa sp A) (hW : WF A) (v : Int32) (hn : 2000 < n) : CP A (q_doubted A v) (fX6_doubted n S x v) := by
  have h24 := h.n24r
  unfold fX6_doubted q_doubted
  simp only [chk, h.x]
  rcases plc (v := v) (show A.2.2.1.length < 2 ^ 31 by omega) with ⟨j, hj, rfl, hi, hjc⟩ | ⟨hno, hi⟩
  · rw [if_pos hi, h.rAtIn hj]
    have hold : rulI A (nI j) = A.2.2.1.getD j (0, 0, 0, 0, false) := by unfold rulI; rw [hjc]
    rw [hold]
    simp only [bS1, h.cdb (n := n) hW (by omega) hj, bP]
    exact ⟨rfl, Or.inr ⟨_, rfl, rfl⟩⟩
  · rw [if_neg (by rw [hi]; decide), h.rAtOut hno]
    exact ⟨rfl, Or.inl ⟨2, rfl, rfl⟩⟩
theorem cp_isFrozen {n : Nat} (h : RC e0 S x own g ad ra aa sp A) (hW : WF A) (v : Int32) (hn : 2000 < n) : CP A (q_isFrozen A v) (fX6_isFrozen n S x v) := by
  have h24 := h.n24
  unfold fX6_isFrozen q_isFrozen
  simp only [chk, h.x]
  rcases plc (v := v) (show A.2.1.length < 2 ^ 31 by omega) with ⟨j, hj, rfl, hi, hjc⟩ | ⟨hno, hi⟩
  · rw [if_pos hi, h.needIn hj, hjc]
    simp only [bS0, h.frz (n := n) hW (show j < 2 ^ 31 by omega) (by omega), bP, b2i_01]
    exact ⟨rfl, Or.inr ⟨_, rfl, rfl⟩⟩
  · rw [if_neg (by rw [hi]; decide), h.needOut hno]
    exact ⟨rfl, Or.inl ⟨2, rfl, rfl⟩⟩
theorem RC.text {n : Nat} (h : RC e0 S x own g ad ra aa sp A) (hW : WF A) (hn : 60 < n) {j : Nat} (hj : j < A.2.1.length) {f : Int32} (hf : inB f 3 = true) : ∃ v q cap T, fX6_textOf n S x (ad j).1 f = some (v, T) ∧ SG T v q cap (txE (A.2.1.getD j ([], [], [], false)) f) ∧ RCe e0 T x A := by
  have hE := h.en j _ (getE hj)
  have hWE := hW.ent hj
  obtain ⟨hEC, hty, hwr, hA, hst, o0, o1, o2, o3, o4, o5⟩ := hE
  unfold fX6_textOf
  rcases f3 hf with rfl | rfl | rfl
  · rw [if_pos rfl]
    exact ⟨_, _, _, S, by simp only [chk, hEC.1, hEC.2.1, bP], hty, h.e⟩
  · rw [if_neg (by decide), if_pos rfl]
    exact ⟨_, _, _, S, by simp only [chk, hEC.1, hEC.2.2.1, bP], hwr, h.e⟩
  · rw [if_neg (by decide), if_neg (by decide)]
    rw [txE2]
    simp only [chk, hEC.1, hst]
    cases hs : (A.2.1.getD j ([], [], [], false)).2.2.2 with
    | true =>
      rw [if_neg (show ¬ (b2i true = (0 : Int32)) by decide), if_pos rfl]
      exact ⟨_, _, _, S, by simp only [hEC.2.2.1, bP], hwr, h.e⟩
    | false =>
      rw [if_pos (show b2i false = (0 : Int32) from rfl), if_neg (by decide)]
      obtain ⟨w1, w2, w3, w4, w5, w6, w7, w8, w9, w10, w11⟩ := hWE
      have p2 := h.ow 2 (by decide) (Or.inr (by decide))
      have p3 := h.ow 3 (by decide) (Or.inr (by decide))
      have hne : ∀ z, (z = g 2 ∨ z = g 3) → ∀ y k, own y = (1 + j, k) → z ≠ y := by
        rintro z (rfl | rfl) y k hy
        · exact own_ne p2 hy (by simp; omega)
        · exact own_ne p3 hy (by simp; omega)
      obtain ⟨T, t1, t2, t3⟩ := EC.spread (n := n) (fun c hc => (w2 c hc).2) (fun z hz => ⟨hne z hz _ 0 o0, hne z hz _ 5 o5, hne z hz _ 3 o3, hne z hz _ 4 o4⟩) hn w5 (by rw [w8]; exact w9) hEC hwr h.spr
      have hT := h.spreads t3 t2
      rw [w8] at t2
      exact ⟨_, _, _, T, by simp only [h.x, h.r61, bP, t1, hT.x, hT.r61], t2, hT.e⟩
theorem co_length {n : Nat} (h : RC e0 S x own g ad ra aa sp A) (hW : WF A) (e f : Int32) (hn : 2000 < n) : CO e0 x (q_length A e f) (fX6_length n S x e f) := by
  have h24 := h.n24
  unfold fX6_length q_length
  simp only [chk, h.x]
  rcases plc (v := e) (show A.2.1.length < 2 ^ 31 by omega) with ⟨j, hj, rfl, hi, hjc⟩ | ⟨hno, hi⟩
  · rw [if_pos hi, h.atIn hj, needFrm]
    have hold : entI A (nI j) = A.2.1.getD j ([], [], [], false) := by unfold entI; rw [hjc]
    rw [hold]
    simp only [bS1]
    cases hi2 : inB f 3 with
    | false => exact Or.inl ⟨0, S, rfl, rfl, h.e⟩
    | true =>
      obtain ⟨v, q, cap, T, t1, t2, t3⟩ := h.text (n := n) hW (by omega) hj hi2
      rw [if_pos rfl, if_pos rfl]
      refine Or.inr ⟨_, T, rfl, ?_, t3⟩
      simp only [bS0, t1, b2, t2.ok5, t2.size, bP]
  · rw [if_neg (by rw [hi]; decide), h.atOut hno]
    exact Or.inl ⟨2, S, rfl, rfl, h.e⟩
theorem co_signAt {n : Nat} (h : RC e0 S x own g ad ra aa sp A) (hW : WF A) (e f p : Int32) (hn : 2000 < n) : CO e0 x (q_signAt A e f p) (fX6_signAt n S x e f p) := by
  have h24 := h.n24
  unfold fX6_signAt q_signAt
  simp only [chk, h.x]
  rcases plc (v := e) (show A.2.1.length < 2 ^ 31 by omega) with ⟨j, hj, rfl, hi, hjc⟩ | ⟨hno, hi⟩
  · rw [if_pos hi, h.atIn hj, needFrm]
    have hold : entI A (nI j) = A.2.1.getD j ([], [], [], false) := by unfold entI; rw [hjc]
    rw [hold]
    simp only [bS1]
    by_cases hp : p < 0
    · rw [if_pos hp, if_neg (Int32.not_le.mpr hp)]
      exact Or.inl ⟨2, S, rfl, rfl, h.e⟩
    · rw [if_neg hp, if_pos (Int32.not_lt.mp hp)]
      cases hi2 : inB f 3 with
      | false => exact Or.inl ⟨0, S, rfl, rfl, h.e⟩
      | true =>
        obtain ⟨v, q, cap, T, t1, t2, t3⟩ := h.text (n := n) hW (by omega) hj hi2
        rw [if_pos rfl, if_pos rfl]
        refine Or.inr ⟨_, T, rfl, ?_, t3⟩
        obtain ⟨pl, hpl, rfl⟩ := nI_of hp
        have ha := t2.at hpl
        simp only [bS0, t1, b2, t2.ok5, ha, bP, nI_clamp hpl]
  · rw [if_neg (by rw [hi]; decide), h.atOut hno]
    exact Or.inl ⟨2, S, rfl, rfl, h.e⟩
end RCsec
