/-! a text without a fault, piece by piece: a blank, a posting, "(", ")", ")x" and a digit -/
abbrev Tok := Nat × List Nat
def GV : List Tok → Nat → Nat → Prop
  | [], op, h => op = 0 ∧ 1 ≤ h
  | t :: ts, op, h => (t = (0, [32]) ∧ GV ts op (if h = 0 then 0 else 2)) ∨
    (∃ c s ds, t = (1, c :: s :: ds) ∧ xAcc c = true ∧ (s = 43 ∨ s = 45) ∧ (∀ z ∈ ds, xDig z = true) ∧ 1 ≤ ds.length ∧ ds.length ≤ 3 ∧ h ≠ 1 ∧ GV ts op 1) ∨
    (t = (2, [40]) ∧ h ≠ 1 ∧ op < 5 ∧ GV ts (op + 1) 0) ∨
    (∃ d, (t = (3, [41]) ∧ d = 1 ∨ t = (4, [41, 120, 48 + d]) ∧ 1 ≤ d ∧ d ≤ 9) ∧ h ≠ 0 ∧ 0 < op ∧ GV ts (op - 1) 1)
def tkx (ts : List Tok) : List Nat := ts.flatMap (fun t => t.2)
def hOf (q : Nat) : Nat := if q = 0 then 0 else if q = 9 then 2 else 1
def bdr (q : Nat) (r : List Nat) : Prop := q = 0 ∨ q = 9 ∨ q = 6 ∨ q = 8 ∨ ((q = 4 ∨ q = 5) ∧ nd r) ∨ (q = 7 ∧ ∀ r', r ≠ 120 :: r')
theorem bdr_step {q op c : Nat} {r : List Nat} {s : Nat × Nat} (hb : bdr q (c :: r)) (h : xStep q op c = some s) :
    (c = 32 ∧ s = (if q = 0 then 0 else 9, op)) ∨ (c = 41 ∧ q ≠ 0 ∧ 0 < op ∧ s = (7, op - 1)) ∨ ((q = 0 ∨ q = 9) ∧ xAcc c = true ∧ s = (1, op)) ∨ ((q = 0 ∨ q = 9) ∧ c = 40 ∧ op < 5 ∧ s = (0, op + 1)) := by
  have hitem : q ≠ 0 → xItem op c = some s → (c = 32 ∧ s = (if q = 0 then 0 else 9, op)) ∨ (c = 41 ∧ q ≠ 0 ∧ 0 < op ∧ s = (7, op - 1)) := by
    intro hq h
    unfold xItem at h
    by_cases h1 : c = 32
    · rw [if_pos h1] at h
      exact Or.inl ⟨h1, by rw [if_neg hq]; exact (Option.some.inj h).symm⟩
    · rw [if_neg h1] at h
      by_cases h2 : c = 41 ∧ 0 < op
      · rw [if_pos h2] at h
        exact Or.inr ⟨h2.1, hq, h2.2, (Option.some.inj h).symm⟩
      · rw [if_neg h2] at h; cases h
  have hstart : (q = 0 ∨ q = 9) → xStart op c = some s → ((q = 0 ∨ q = 9) ∧ xAcc c = true ∧ s = (1, op)) ∨ ((q = 0 ∨ q = 9) ∧ c = 40 ∧ op < 5 ∧ s = (0, op + 1)) := by
    intro hq h
    unfold xStart at h
    by_cases h1 : xAcc c = true
    · rw [if_pos h1] at h
      exact Or.inl ⟨hq, h1, (Option.some.inj h).symm⟩
    · rw [if_neg h1] at h
      by_cases h2 : c = 40 ∧ op < 5
      · rw [if_pos h2] at h
        exact Or.inr ⟨hq, h2.1, h2.2, (Option.some.inj h).symm⟩
      · rw [if_neg h2] at h; cases h
  rcases hb with rfl | rfl | rfl | rfl | ⟨rfl | rfl, hnd⟩ | ⟨rfl, hnx⟩
  · simp only [xStep, if_true] at h
    by_cases h1 : c = 32
    · rw [if_pos h1] at h
      exact Or.inl ⟨h1, (Option.some.inj h).symm⟩
    · rw [if_neg h1] at h
      exact Or.inr (Or.inr (hstart (Or.inl rfl) h))
  · have e : xStep 9 op c = if c = 32 ∨ c = 41 then xItem op c else xStart op c := rfl
    rw [e] at h
    by_cases h1 : c = 32 ∨ c = 41
    · rw [if_pos h1] at h
      rcases hitem (by decide) h with h | h
      · exact Or.inl h
      · exact Or.inr (Or.inl h)
    · rw [if_neg h1] at h
      exact Or.inr (Or.inr (hstart (Or.inr rfl) h))
  · have e : xStep 6 op c = xItem op c := rfl
    rw [e] at h
    rcases hitem (by decide) h with h | h
    · exact Or.inl h
    · exact Or.inr (Or.inl h)
  · have e : xStep 8 op c = xItem op c := rfl
    rw [e] at h
    rcases hitem (by decide) h with h | h
    · exact Or.inl h
    · exact Or.inr (Or.inl h)
  · have e : xStep 4 op c = if xDig c = true then some (5, op) else xItem op c := rfl
    rw [e, hnd c r rfl] at h
    simp only [Bool.false_eq_true, if_false] at h
    rcases hitem (by decide) h with h | h
    · exact Or.inl h
    · exact Or.inr (Or.inl h)
  · have e : xStep 5 op c = if xDig c = true then some (6, op) else xItem op c := rfl
    rw [e, hnd c r rfl] at h
    simp only [Bool.false_eq_true, if_false] at h
    rcases hitem (by decide) h with h | h
    · exact Or.inl h
    · exact Or.inr (Or.inl h)
  · have e : xStep 7 op c = if c = 120 then some (3, op) else xItem op c := rfl
    rw [e, if_neg (fun z => hnx r (by rw [z]))] at h
    rcases hitem (by decide) h with h | h
    · exact Or.inl h
    · exact Or.inr (Or.inl h)
theorem xRun_cons {c : Nat} {r : List Nat} {q op i : Nat} {s' : Nat × Nat} (h : xRun (c :: r) q op i = .inr s') : ∃ s, xStep q op c = some s ∧ xRun r s.1 s.2 (i + 1) = .inr s' := by
  simp only [xRun] at h
  cases hx : xStep q op c with
  | none => rw [hx] at h; cases h
  | some s => rw [hx] at h; exact ⟨s, rfl, h⟩
theorem not_dig {c : Nat} {r : List Nat} (h : ¬ xDig c = true) : nd (c :: r) := nd_cons (by simpa using h)
theorem run_post {r : List Nat} {op i : Nat} {s' : Nat × Nat} (h : xRun r 1 op i = .inr s') (hs : 4 ≤ s'.1) :
    ∃ s ds r' q j, r = s :: (ds ++ r') ∧ (s = 43 ∨ s = 45) ∧ (∀ z ∈ ds, xDig z = true) ∧ 1 ≤ ds.length ∧ ds.length ≤ 3 ∧ bdr q r' ∧ hOf q = 1 ∧ xRun r' q op j = .inr s' := by
  cases r with
  | nil => cases h; exact absurd hs (show ¬ 4 ≤ 1 by decide)
  | cons s r =>
    obtain ⟨st, h1, h⟩ := xRun_cons h
    have e1 : xStep 1 op s = if s = 43 ∨ s = 45 then some (2, op) else none := rfl
    rw [e1] at h1
    by_cases hsg : s = 43 ∨ s = 45
    · rw [if_pos hsg] at h1
      cases h1
      cases r with
      | nil => cases h; exact absurd hs (show ¬ 4 ≤ 2 by decide)
      | cons a r =>
        obtain ⟨st, h1, h⟩ := xRun_cons h
        have e2 : xStep 2 op a = if xDig a = true then some (4, op) else none := rfl
        simp only [e2] at h1
        by_cases ha : xDig a = true
        · rw [if_pos ha] at h1
          cases h1
          have fin1 : nd r → _ := fun hnd => (⟨s, [a], r, 4, i + 1 + 1, rfl, hsg, by simpa using ha, by simp, by simp, Or.inr (Or.inr (Or.inr (Or.inr (Or.inl ⟨Or.inl rfl, hnd⟩)))), rfl, h⟩ : ∃ s0 ds r' q j, s :: a :: r = s0 :: (ds ++ r') ∧ (s0 = 43 ∨ s0 = 45) ∧ (∀ z ∈ ds, xDig z = true) ∧ 1 ≤ ds.length ∧ ds.length ≤ 3 ∧ bdr q r' ∧ hOf q = 1 ∧ xRun r' q op j = .inr s')
          cases r with
          | nil => exact fin1 nd_nil
          | cons b r =>
            by_cases hb : xDig b = true
            · obtain ⟨st, h1, h2⟩ := xRun_cons h
              have e3 : xStep 4 op b = if xDig b = true then some (5, op) else xItem op b := rfl
              simp only [e3, if_pos hb] at h1
              cases h1
              have fin2 : nd r → _ := fun hnd => (⟨s, [a, b], r, 5, i + 1 + 1 + 1, rfl, hsg, by simpa using ⟨ha, hb⟩, by simp, by simp, Or.inr (Or.inr (Or.inr (Or.inr (Or.inl ⟨Or.inr rfl, hnd⟩)))), rfl, h2⟩ : ∃ s0 ds r' q j, s :: a :: b :: r = s0 :: (ds ++ r') ∧ (s0 = 43 ∨ s0 = 45) ∧ (∀ z ∈ ds, xDig z = true) ∧ 1 ≤ ds.length ∧ ds.length ≤ 3 ∧ bdr q r' ∧ hOf q = 1 ∧ xRun r' q op j = .inr s')
              cases r with
              | nil => exact fin2 nd_nil
              | cons c r =>
                by_cases hc : xDig c = true
                · obtain ⟨st, h1, h3⟩ := xRun_cons h2
                  have e4 : xStep 5 op c = if xDig c = true then some (6, op) else xItem op c := rfl
                  simp only [e4, if_pos hc] at h1
                  cases h1
                  exact ⟨s, [a, b, c], r, 6, i + 1 + 1 + 1 + 1, rfl, hsg, by simpa using ⟨ha, hb, hc⟩, by simp, by simp, Or.inr (Or.inr (Or.inl rfl)), rfl, h3⟩
                · exact fin2 (not_dig hc)
            · exact fin1 (not_dig hb)
        · rw [if_neg ha] at h1; cases h1
    · rw [if_neg hsg] at h1; cases h1
theorem tkz : ∀ (N : Nat) (r : List Nat) (q op i : Nat) (q' : Nat), r.length ≤ N → bdr q r → xRun r q op i = .inr (q', 0) → 4 ≤ q' → ∃ ts, r = tkx ts ∧ GV ts op (hOf q) := by
  intro N
  induction N with
  | zero =>
    intro r q op i q' hl hb h h4
    cases r with
    | cons c r => simp at hl
    | nil =>
      simp only [xRun, Sum.inr.injEq, Prod.mk.injEq] at h
      obtain ⟨hqq, ho⟩ := h
      refine ⟨[], rfl, ho, ?_⟩
      unfold hOf
      rw [if_neg (by omega)]
      by_cases h9 : q = 9
      · rw [if_pos h9]; decide
      · rw [if_neg h9]; exact Nat.le_refl _
  | succ N ih =>
    intro r q op i q' hl hb h h4
    cases r with
    | nil => exact ih [] q op i q' (by simp) hb h h4
    | cons c r =>
      simp only [List.length_cons] at hl
      obtain ⟨st, h1, h2⟩ := xRun_cons h
      rcases bdr_step hb h1 with ⟨rfl, rfl⟩ | ⟨rfl, hq, hop, rfl⟩ | ⟨hq, hc, rfl⟩ | ⟨hq, rfl, hop, rfl⟩
      · have hbn : bdr (if q = 0 then 0 else 9) r := by
          by_cases h0 : q = 0
          · rw [if_pos h0]; exact Or.inl rfl
          · rw [if_neg h0]; exact Or.inr (Or.inl rfl)
        obtain ⟨ts, t1, t2⟩ := ih r _ op (i + 1) q' (by omega) hbn h2 h4
        refine ⟨(0, [32]) :: ts, by rw [t1]; rfl, Or.inl ⟨rfl, ?_⟩⟩
        have e : hOf (if q = 0 then 0 else 9) = if hOf q = 0 then 0 else 2 := by
          unfold hOf
          by_cases h0 : q = 0
          · simp [h0]
          · rw [if_neg h0, if_neg (by decide), if_pos rfl, if_neg h0]
            by_cases h9 : q = 9
            · simp [h9]
            · simp [h9]
        rw [← e]
        exact t2
      · have hh : hOf q ≠ 0 := by
          unfold hOf
          rw [if_neg hq]
          by_cases h9 : q = 9
          · simp [h9]
          · simp [h9]
        by_cases hx : ∃ r', r = 120 :: r'
        · obtain ⟨r', rfl⟩ := hx
          obtain ⟨st, g1, g2⟩ := xRun_cons h2
          have e1 : xStep 7 (op - 1) 120 = some (3, op - 1) := rfl
          simp only [e1] at g1
          cases g1
          cases r' with
          | nil =>
            simp only [xRun, Sum.inr.injEq, Prod.mk.injEq] at g2
            omega
          | cons d r' =>
            obtain ⟨st, g3, g4⟩ := xRun_cons g2
            have e2 : xStep 3 (op - 1) d = if xDig d = true ∧ d ≠ 48 then some (8, op - 1) else none := rfl
            simp only [e2] at g3
            by_cases hd : xDig d = true ∧ d ≠ 48
            · rw [if_pos hd] at g3
              cases g3
              have hd2 := xDig_iff.mp hd.1
              simp only [List.length_cons] at hl
              obtain ⟨ts, t1, t2⟩ := ih r' 8 (op - 1) _ q' (by omega) (Or.inr (Or.inr (Or.inr (Or.inl rfl)))) g4 h4
              have ed : 48 + (d - 48) = d := by omega
              refine ⟨(4, [41, 120, 48 + (d - 48)]) :: ts, by rw [ed, t1]; rfl, Or.inr (Or.inr (Or.inr ⟨d - 48, Or.inr ⟨rfl, by have := hd.2; omega, by omega⟩, hh, hop, t2⟩))⟩
            · rw [if_neg hd] at g3; cases g3
        · obtain ⟨ts, t1, t2⟩ := ih r 7 (op - 1) (i + 1) q' (by omega) (Or.inr (Or.inr (Or.inr (Or.inr (Or.inr ⟨rfl, fun r' hr => hx ⟨r', hr⟩⟩))))) h2 h4
          exact ⟨(3, [41]) :: ts, by rw [t1]; rfl, Or.inr (Or.inr (Or.inr ⟨1, Or.inl ⟨rfl, rfl⟩, hh, hop, t2⟩))⟩
      · have hh : hOf q ≠ 1 := by rcases hq with rfl | rfl <;> decide
        obtain ⟨s, ds, r', q2, j, rfl, hs, hds, hl1, hl3, hb2, hq2, h3⟩ := run_post h2 h4
        simp only [List.length_cons, List.length_append] at hl
        obtain ⟨ts, t1, t2⟩ := ih r' q2 op j q' (by omega) hb2 h3 h4
        rw [hq2] at t2
        exact ⟨(1, c :: s :: ds) :: ts, by rw [t1]; rfl, Or.inr (Or.inl ⟨c, s, ds, rfl, hc, hs, hds, hl1, hl3, hh, t2⟩)⟩
      · have hh : hOf q ≠ 1 := by rcases hq with rfl | rfl <;> decide
        obtain ⟨ts, t1, t2⟩ := ih r 0 (op + 1) (i + 1) q' (by omega) (Or.inl rfl) h2 h4
        exact ⟨(2, [40]) :: ts, by rw [t1]; rfl, Or.inr (Or.inr (Or.inl ⟨rfl, hh, hop, t2⟩))⟩
theorem tok_of {d : List Nat} (h : xFault d = none) : ∃ ts, d = tkx ts ∧ GV ts 0 0 := by
  unfold xFault at h
  cases hx : xRun d 0 0 0 with
  | inl j => rw [hx] at h; cases h
  | inr s =>
    rw [hx] at h
    obtain ⟨q, op⟩ := s
    by_cases h4 : 4 ≤ q ∧ op = 0
    · obtain ⟨h5, rfl⟩ := h4
      exact tkz d.length d 0 0 0 q (Nat.le_refl _) (Or.inl rfl) hx h5
    · simp only [if_neg h4] at h
      cases h
