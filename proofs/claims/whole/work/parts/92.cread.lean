/-! the landed program's reader -/
theorem nI_32 {a : Nat} (ha : a < 127) : nI a = (32 : Int32) ↔ a = 32 := nI_eqc ha 32 (by decide)
theorem nI_43 {a : Nat} (ha : a < 127) : nI a = (43 : Int32) ↔ a = 43 := nI_eqc ha 43 (by decide)
theorem nI_120 {a : Nat} (ha : a < 127) : nI a = (120 : Int32) ↔ a = 120 := nI_eqc ha 120 (by decide)
def nxS (S : PS) (v op : Nat) (s : Option (Nat × Nat)) : Int32 × PS := match s with
  | none => (-1, S)
  | some s => (nI s.1, if s.2 = op then S else pI S 31 v (nI s.2))
theorem cItem {S : PS} {v op c : Nat} (ho : okP S v 3 = true) (hop : sI S 31 v = nI op) (hop6 : op < 6) (hc : c < 127) : fX2_stateBehindItem S v (nI c) = some (nxS S v op (xItem op c)) := by
  unfold fX2_stateBehindItem xItem
  by_cases h32 : c = 32
  · rw [if_pos ((nI_32 hc).mpr h32), if_pos h32]
    show _ = some (nI 9, if op = op then S else _)
    rw [if_pos rfl]
    rfl
  · rw [if_neg (fun z => h32 ((nI_32 hc).mp z)), if_neg h32]
    by_cases h41 : c = 41
    · rw [if_pos ((nI_41 hc).mpr h41)]
      simp only [ho, chk, hop]
      by_cases h0 : 0 < op
      · rw [if_neg (nI_nle h0 (by omega)), if_pos ⟨h41, h0⟩]
        obtain ⟨o, rfl⟩ : ∃ o, op = o + 1 := ⟨op - 1, by omega⟩
        show _ = some (nI 7, if o + 1 - 1 = o + 1 then S else pI S 31 v (nI (o + 1 - 1)))
        rw [if_neg (by omega), Nat.add_sub_cancel, nI_pred]
        rfl
      · rw [if_pos (show nI op ≤ (0 : Int32) from nI_le (b := 0) (by omega) (by decide)), if_neg (fun z => h0 z.2)]
        rfl
    · rw [if_neg (fun z => h41 ((nI_41 hc).mp z)), if_neg (fun z => h41 z.1)]
      rfl
theorem cStart {S : PS} {v op c : Nat} (ho : okP S v 3 = true) (hop : sI S 31 v = nI op) (hop6 : op < 6) (hc : c < 127) : fX2_stateBehindStart S v (nI c) = some (nxS S v op (xStart op c)) := by
  unfold fX2_stateBehindStart xStart
  rw [isAcc_nI c hc]
  simp only [bP]
  by_cases ha : xAcc c = true
  · rw [if_neg (show ¬ ((if xAcc c = true then (1 : Int32) else 0) = 0) by rw [if_pos ha]; decide), if_pos ha]
    show _ = some (nI 1, if op = op then S else _)
    rw [if_pos rfl]
    rfl
  · rw [if_pos (show (if xAcc c = true then (1 : Int32) else 0) = 0 by rw [if_neg ha]), if_neg ha]
    by_cases h40 : c = 40
    · rw [if_pos ((nI_40 hc).mpr h40)]
      simp only [ho, chk, hop]
      by_cases h5 : op < 5
      · rw [if_neg (show ¬ ((5 : Int32) ≤ nI op) from nI_ge (b := 5) h5 (by decide)), if_pos ⟨h40, h5⟩]
        show _ = some (nI 0, if op + 1 = op then S else pI S 31 v (nI (op + 1)))
        rw [if_neg (by omega), nI_1]
        rfl
      · rw [if_pos (show (5 : Int32) ≤ nI op from nI_le (a := 5) (by omega) (by omega)), if_neg (fun z => h5 z.2)]
        rfl
    · rw [if_neg (fun z => h40 ((nI_40 hc).mp z)), if_neg (fun z => h40 z.1)]
      rfl
theorem b2_id {α : Type} (x : Option (Int32 × PS)) : b2 x (fun r w => some (r, w)) = x := by
  cases x with
  | none => rfl
  | some q => rfl
theorem nx_same {S : PS} {v op q : Nat} : nxS S v op (some (q, op)) = (nI q, S) := by
  show (nI q, if op = op then S else _) = _
  rw [if_pos rfl]
theorem cStep {S : PS} {v q op c : Nat} (ho : okP S v 3 = true) (hq : sI S 30 v = nI q) (hop : sI S 31 v = nI op) (hq10 : q < 10) (hop6 : op < 6) (hc : c < 127) : fX2_stateBehind S v (nI c) = some (nxS S v op (xStep q op c)) := by
  have hI := cItem ho hop hop6 hc
  have hS := cStart ho hop hop6 hc
  have e1 : ∀ a b : Nat, a < 10 → b < 10 → (nI a = nI b ↔ a = b) := fun a b ha hb => nI_eq (by omega) (by omega)
  have h9 : q = 0 ∨ q = 1 ∨ q = 2 ∨ q = 3 ∨ q = 4 ∨ q = 5 ∨ q = 6 ∨ q = 7 ∨ q = 8 ∨ q = 9 := by omega
  have hdig := isDig_nI c hc
  unfold fX2_stateBehind
  simp only [ho, chk, hq, hI, hS, b2, hdig, bP]
  rcases h9 with rfl | rfl | rfl | rfl | rfl | rfl | rfl | rfl | rfl | rfl
  · rw [if_pos (by decide)]
    show _ = some (nxS S v op (if c = 32 then some (0, op) else xStart op c))
    by_cases h : c = 32
    · rw [if_pos ((nI_32 hc).mpr h), if_pos h, nx_same]; rfl
    · rw [if_neg (fun z => h ((nI_32 hc).mp z)), if_neg h]
  · rw [if_neg (by decide), if_pos (by decide)]
    show _ = some (nxS S v op (if c = 43 ∨ c = 45 then some (2, op) else none))
    by_cases h : c = 43
    · rw [if_pos ((nI_43 hc).mpr h), if_pos (Or.inl h), nx_same]; rfl
    · rw [if_neg (fun z => h ((nI_43 hc).mp z))]
      by_cases h2 : c = 45
      · rw [if_pos ((nI_45 hc).mpr h2), if_pos (Or.inr h2), nx_same]; rfl
      · rw [if_neg (fun z => h2 ((nI_45 hc).mp z)), if_neg (fun z => z.elim h h2)]; rfl
  · rw [if_neg (by decide), if_neg (by decide), if_pos (by decide)]
    show _ = some (nxS S v op (if xDig c = true then some (4, op) else none))
    cases hd : xDig c with
    | true =>
      rw [if_neg (show ¬ ((if (true : Bool) = true then (1 : Int32) else 0) = 0) by decide)]
      show _ = some (nxS S v op (some (4, op)))
      rw [nx_same]
      rfl
    | false =>
      rw [if_pos (show (if (false : Bool) = true then (1 : Int32) else 0) = 0 from rfl)]
      rfl
  · rw [if_neg (by decide), if_neg (by decide), if_neg (by decide), if_pos (by decide)]
    show _ = some (nxS S v op (if xDig c = true ∧ c ≠ 48 then some (8, op) else none))
    cases hd : xDig c with
    | true =>
      have e9 : (if (true : Bool) = true then (1 : Int32) else 0) = 1 := rfl
      rw [e9, if_neg (show ¬ ((1 : Int32) = 0) by decide)]
      by_cases h : c = 48
      · rw [if_pos ((nI_48 hc).mpr h), if_neg (fun z => z.2 h)]; rfl
      · rw [if_neg (fun z => h ((nI_48 hc).mp z)), if_pos ⟨rfl, h⟩, nx_same]; rfl
    | false =>
      rw [if_pos (show (if (false : Bool) = true then (1 : Int32) else 0) = 0 from rfl), if_neg (fun z : (false : Bool) = true ∧ c ≠ 48 => nomatch z.1)]
      rfl
  · rw [if_neg (by decide), if_neg (by decide), if_neg (by decide), if_neg (by decide), if_pos (by decide)]
    show _ = some (nxS S v op (if xDig c = true then some (5, op) else xItem op c))
    cases hd : xDig c with
    | true =>
      rw [if_neg (show ¬ ((if (true : Bool) = true then (1 : Int32) else 0) = 0) by decide)]
      show _ = some (nxS S v op (some (5, op)))
      rw [nx_same]
      rfl
    | false =>
      rw [if_pos (show (if (false : Bool) = true then (1 : Int32) else 0) = 0 from rfl)]
      rfl
  · rw [if_neg (by decide), if_neg (by decide), if_neg (by decide), if_neg (by decide), if_neg (by decide), if_pos (by decide)]
    show _ = some (nxS S v op (if xDig c = true then some (6, op) else xItem op c))
    cases hd : xDig c with
    | true =>
      rw [if_neg (show ¬ ((if (true : Bool) = true then (1 : Int32) else 0) = 0) by decide)]
      show _ = some (nxS S v op (some (6, op)))
      rw [nx_same]
      rfl
    | false =>
      rw [if_pos (show (if (false : Bool) = true then (1 : Int32) else 0) = 0 from rfl)]
      rfl
  · rw [if_neg (by decide), if_neg (by decide), if_neg (by decide), if_neg (by decide), if_neg (by decide), if_neg (by decide), if_pos (by decide)]
    rfl
  · rw [if_neg (by decide), if_neg (by decide), if_neg (by decide), if_neg (by decide), if_neg (by decide), if_neg (by decide), if_neg (by decide), if_pos (by decide)]
    show _ = some (nxS S v op (if c = 120 then some (3, op) else xItem op c))
    by_cases h : c = 120
    · rw [if_pos ((nI_120 hc).mpr h), if_pos h, nx_same]; rfl
    · rw [if_neg (fun z => h ((nI_120 hc).mp z)), if_neg h]
  · rw [if_neg (by decide), if_neg (by decide), if_neg (by decide), if_neg (by decide), if_neg (by decide), if_neg (by decide), if_neg (by decide), if_neg (by decide), if_pos (by decide)]
    rfl
  · rw [if_neg (by decide), if_neg (by decide), if_neg (by decide), if_neg (by decide), if_neg (by decide), if_neg (by decide), if_neg (by decide), if_neg (by decide), if_neg (by decide), if_pos (by decide)]
    show _ = some (nxS S v op (if c = 32 ∨ c = 41 then xItem op c else xStart op c))
    by_cases h : c = 32
    · rw [if_pos ((nI_32 hc).mpr h), if_pos (Or.inl h)]
    · rw [if_neg (fun z => h ((nI_32 hc).mp z))]
      by_cases h2 : c = 41
      · rw [if_pos ((nI_41 hc).mpr h2), if_pos (Or.inr h2)]
      · rw [if_neg (fun z => h2 ((nI_41 hc).mp z)), if_neg (fun z => z.elim h h2)]
theorem cFltL {n v u uq : Nat} {d : List Nat} (hvu : ¬ u = v) (hvq : ¬ uq = v) (hd : ∀ c ∈ d, c < 127) : ∀ (r : List Nat) (i q op k : Nat) (S : PS), d.drop i = r → i ≤ d.length → r.length < k → q < 10 → op < 6 → okP S v 3 = true → sI S 30 v = nI q → sI S 31 v = nI op → SG S u uq 60 d →
    ∃ T, fX2_faultOf_L12 n k S v u (nI i) = some (match xRun r q op i with | .inl j => .inl (nI j, T) | .inr _ => .inr T) ∧ FR (fun z => z = v) S T ∧ ∀ s, xRun r q op i = .inr s → sI T 30 v = nI s.1 ∧ sI T 31 v = nI s.2 := by
  intro r
  induction r with
  | nil =>
    intro i q op k S hdr hi hk hq10 hop6 ho hq hop hu
    obtain ⟨k, rfl⟩ : ∃ k', k = k' + 1 := ⟨k - 1, by simp at hk; omega⟩
    have hie := drop_nil hdr hi
    refine ⟨S, ?_, FR.rf, fun s hs => ?_⟩
    · unfold fX2_faultOf_L12
      simp only [chk, hu.ok5, hu.size, bP]
      rw [if_pos (by rw [hie]; exact Int32.le_refl _)]
      rfl
    · cases hs
      exact ⟨hq, hop⟩
  | cons c r ih =>
    intro i q op k S hdr hi hk hq10 hop6 ho hq hop hu
    obtain ⟨k, rfl⟩ : ∃ k', k = k' + 1 := ⟨k - 1, by simp at hk; omega⟩
    obtain ⟨hlt, hg, hdr2⟩ := drop_next hdr
    have hc : c < 127 := drop_mem hdr hd c List.mem_cons_self
    have hdl := hu.lt
    simp only [List.length_cons] at hk
    have hst := cStep ho hq hop hq10 hop6 hc
    have hun : ∀ x : Int32 × PS, fX2_stateBehind S v (nI c) = some x → okP x.2 v 3 = true → fX2_faultOf_L12 n (k + 1) S v u (nI i) = (if sI (pI x.2 30 v x.1) 30 v = (-1 : Int32) then some (.inl (nI i, pI x.2 30 v x.1)) else fX2_faultOf_L12 n k (pI x.2 30 v x.1) v u (nI (i + 1))) := by
      intro x hx hox
      conv => lhs; unfold fX2_faultOf_L12
      simp only [chk, hu.ok5, hu.size, bP]
      rw [if_neg (nI_ge hlt (by omega)), hu.atD hdr (by omega)]
      simp only [hdI_cons, ho, hx, b2, hox, bnd, pI_ok, nI_1]
    cases hx : xStep q op c with
    | none =>
      rw [hx] at hst
      refine ⟨pI S 30 v (-1), ?_, FR.pI, fun s hs => ?_⟩
      · rw [hun _ hst ho]
        show (if sI (pI S 30 v (-1)) 30 v = (-1 : Int32) then _ else _) = _
        rw [pI_I, if_pos rfl]
        simp only [xRun, hx]
        rfl
      · simp only [xRun, hx] at hs
        cases hs
    | some s =>
      rw [hx] at hst
      obtain ⟨hs10, hs6⟩ := xStep_in hq10 hop6 hc hx
      obtain ⟨S1, hS1⟩ : ∃ S1, S1 = (if s.2 = op then S else pI S 31 v (nI s.2)) := ⟨_, rfl⟩
      have hst : fX2_stateBehind S v (nI c) = some (nI s.1, S1) := by rw [hst, hS1]; rfl
      have ho1 : okP S1 v 3 = true := by
        rw [hS1]
        by_cases h : s.2 = op
        · rw [if_pos h]; exact ho
        · rw [if_neg h]; exact ho
      have hF1 : FR (fun z => z = v) S S1 := by
        rw [hS1]
        by_cases h : s.2 = op
        · rw [if_pos h]; exact FR.rf
        · rw [if_neg h]; exact FR.pI
      have h31 : sI S1 31 v = nI s.2 := by
        rw [hS1]
        by_cases h : s.2 = op
        · rw [if_pos h, hop, h]
        · rw [if_neg h, pI_I]
      have hF2 : FR (fun z => z = v) S (pI S1 30 v (nI s.1)) := hF1.trans FR.pI
      obtain ⟨T, t1, t2, t3⟩ := ih (i + 1) s.1 s.2 k (pI S1 30 v (nI s.1)) hdr2 hlt (by omega) hs10 hs6 ho1 pI_I (by rw [pI_Ig (by decide)]; exact h31) (hu.keep hF2 hvu hvq)
      refine ⟨T, ?_, hF2.trans t2, fun s' hs' => ?_⟩
      · rw [hun _ hst ho1]
        show (if sI (pI S1 30 v (nI s.1)) 30 v = (-1 : Int32) then _ else fX2_faultOf_L12 n k (pI S1 30 v (nI s.1)) v u (nI (i + 1))) = _
        have hne : nI s.1 ≠ -1 := by
          have key : ∀ j, j < 10 → nI j ≠ -1 := by decide +kernel
          exact key _ hs10
        rw [pI_I, if_neg hne, t1]
        simp only [xRun, hx]
      · simp only [xRun, hx] at hs'
        exact t3 s' hs'
theorem cFault {n v u uq : Nat} {d : List Nat} {S : PS} (hvu : ¬ u = v) (hvq : ¬ uq = v) (hd : ∀ c ∈ d, c < 127) (ho : okP S v 3 = true) (hu : SG S u uq 60 d) (hn : 60 < n) : ∃ T, fX2_faultOf n S v u = some (xFaultI d, T) ∧ FR (fun z => z = v) S T := by
  have hdl := hu.le
  obtain ⟨S2, hS2⟩ : ∃ S2, S2 = pI (pI S 30 v 0) 31 v 0 := ⟨_, rfl⟩
  have hF2 : FR (fun z => z = v) S S2 := by rw [hS2]; exact FR.pI.trans FR.pI
  have ho2 : okP S2 v 3 = true := hF2.ok ho
  obtain ⟨T, t1, t2, t3⟩ := cFltL (n := n) hvu hvq hd d 0 0 0 n S2 rfl (Nat.zero_le _) (by omega) (by decide) (by decide) ho2 (by rw [hS2, pI_Ig (by decide), pI_I]; rfl) (by rw [hS2, pI_I]; rfl) (hu.keep hF2 hvu hvq)
  have e0 : nI 0 = (0 : Int32) := nI_0
  rw [e0] at t1
  have hoT := t2.ok ho2
  have huT := (hu.keep hF2 hvu hvq).keep t2 hvu hvq
  refine ⟨T, ?_, hF2.trans t2⟩
  unfold fX2_faultOf
  simp only [chk, ho, bnd, pI_ok]
  rw [← hS2, t1]
  unfold xFaultI xFault
  cases hx : xRun d 0 0 0 with
  | inl j => rfl
  | inr s =>
    obtain ⟨h30, h31⟩ := t3 s hx
    obtain ⟨hs10, hs6⟩ := xRun_in d 0 0 0 s (by decide) (by decide) hd hx
    simp only [bS1, hoT, h30, h31, huT.ok5, huT.size, bP]
    by_cases h4 : 4 ≤ s.1
    · rw [if_neg (show ¬ (nI s.1 < (4 : Int32)) from nI_nlt (b := 4) h4 (by omega))]
      by_cases h0 : s.2 = 0
      · rw [if_pos (show nI s.2 = (0 : Int32) by rw [h0]; rfl), if_pos ⟨h4, h0⟩]
      · rw [if_neg (nI_ne0 (by omega) (by omega)), if_neg (fun z => h0 z.2)]
    · rw [if_pos (show nI s.1 < (4 : Int32) from nI_lt (b := 4) (by omega) (by decide)), if_neg (fun z => h4 z.1)]
