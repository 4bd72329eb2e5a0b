/-! what each call answers and leaves, in plain terms -/
noncomputable def tkOf (d : List Nat) : List Tok := @dite (List Tok) (∃ ts, d = tkx ts ∧ GV ts 0 0) (Classical.propDecidable _) (fun h => h.choose) (fun _ => [])
theorem tkOf_ok {d : List Nat} (h : xFault d = none) : d = tkx (tkOf d) ∧ GV (tkOf d) 0 0 := by
  have h2 := tok_of h
  unfold tkOf
  rw [dif_pos h2]
  exact h2.choose_spec
noncomputable def nwE (d : List Nat) : Ent := (d, rnd (fRun (tkOf d) [[]]), alP (fRun (tkOf d) [[]]), false)
def bad (d : List Nat) (ps : List Pst) : Bool := decide (xFault d ≠ none) || decide (60 < cnt ps)
abbrev Ans := (Nat ⊕ Int32) × Abs
def q_type (A : Abs) (v : Int32) : Ans := if v < 32 ∨ 126 < v then (.inl 0, A) else if A.1.length = 60 then (.inl 1, A) else (.inr (nI (A.1.length + 1)), (A.1 ++ [v.toNatClampNeg], A.2))
def q_clear (A : Abs) : Ans := (.inr (nI A.1.length), ([], A.2))
def q_fault (A : Abs) : Ans := (.inr (xFaultI A.1), A)
noncomputable def q_post (A : Abs) : Ans := if (decide (24 ≤ A.2.1.length) || bad A.1 (nwE A.1).2.2.1) = true then (.inl 1, A) else (.inr (nI A.2.1.length), ([], A.2.1 ++ [nwE A.1], A.2.2))
def entI (A : Abs) (v : Int32) : Ent := A.2.1.getD v.toNatClampNeg ([], [], [], false)
noncomputable def q_write (A : Abs) (v : Int32) : Ans :=
  if inB v A.2.1.length = true then
    if bad A.1 (nwE A.1).2.2.1 = true then (.inl 1, A)
    else if (decide ((nwE A.1).2.1 ≠ (entI A v).2.1) && frz A.2.2.2 v.toNatClampNeg) = true then (.inl 1, A)
    else (.inr (b2i (decide ((nwE A.1).2.1 ≠ (entI A v).2.1))), ([], A.2.1.set v.toNatClampNeg (nwE A.1), A.2.2))
  else (.inl 2, A)
def strE : Ent := ([45], [45], [], true)
def cun (es : List Ent) : Int32 := es.foldl (fun s E => if E.2.2.2 = true then s else s + 1) 0
def q_strike (A : Abs) (v : Int32) : Ans :=
  if inB v A.2.1.length = true then
    if ((entI A v).2.2.2 || frz A.2.2.2 v.toNatClampNeg) = true then (.inl 1, A)
    else (.inr (cun (A.2.1.set v.toNatClampNeg strE)), (A.1, A.2.1.set v.toNatClampNeg strE, A.2.2))
  else (.inl 2, A)
def okRule (k a o N : Int32) : Bool := inB k 4 && inB a 8 && inB o 8 && decide (-999 ≤ N) && decide (N ≤ 999) && (decide (¬ k = 1) || decide (0 ≤ N)) && (decide (¬ k = 2) || decide (¬ a = o))
def q_rule (A : Abs) (k a o N : Int32) : Ans :=
  if okRule k a o N = true then
    if A.2.2.1.length = 8 then (.inl 1, A)
    else (.inr (nI A.2.2.1.length), (A.1, A.2.1, A.2.2.1 ++ [(k.toNatClampNeg, a.toNatClampNeg, o.toNatClampNeg, N, false)], A.2.2.2))
  else (.inl 0, A)
def rulI (A : Abs) (v : Int32) : Rul := A.2.2.1.getD v.toNatClampNeg (0, 0, 0, 0, false)
def audI (A : Abs) (v : Int32) : Aud := A.2.2.2.getD v.toNatClampNeg (0, 0, 0, false)
def q_takeBack (A : Abs) (v : Int32) : Ans :=
  if inB v A.2.2.1.length = true then
    if (rulI A v).2.2.2.2 = true then (.inl 1, A)
    else (.inr (cdb A.2.1 (rulI A v)), (A.1, A.2.1, A.2.2.1.set v.toNatClampNeg ((rulI A v).1, (rulI A v).2.1, (rulI A v).2.2.1, (rulI A v).2.2.2.1, true), A.2.2.2))
  else (.inl 2, A)
def q_audit (A : Abs) (f t : Int32) : Ans :=
  if (inB f A.2.1.length && inB t A.2.1.length) = true then
    if t < f then (.inl 0, A)
    else if A.2.2.2.length = 6 then (.inl 1, A)
    else (.inr (nI A.2.2.2.length), (A.1, A.2.1, A.2.2.1, A.2.2.2 ++ [(f.toNatClampNeg, t.toNatClampNeg, prf A.2.1 t.toNatClampNeg, false)]))
  else (.inl 2, A)
def hld (A : Abs) (U : Aud) : Int32 := if prf A.2.1 U.2.1 = U.2.2.1 then 1 else 0
def q_end (A : Abs) (v : Int32) : Ans :=
  if inB v A.2.2.2.length = true then
    if (audI A v).2.2.2 = true then (.inl 1, A)
    else (.inr (hld A (audI A v)), (A.1, A.2.1, A.2.2.1, A.2.2.2.set v.toNatClampNeg ((audI A v).1, (audI A v).2.1, (audI A v).2.2.1, true)))
  else (.inl 2, A)
def q_entries (A : Abs) : Ans := (.inr (nI A.2.1.length), A)
def txE (E : Ent) (f : Int32) : List Nat := if f = 0 then E.1 else if f = 1 then E.2.1 else if E.2.2.2 = true then E.2.1 else sprd E.2.2.1
def q_signAt (A : Abs) (e f p : Int32) : Ans :=
  if inB e A.2.1.length = true then
    if p < 0 then (.inl 2, A) else if inB f 3 = true then (.inr (atI (txE (entI A e) f) p.toNatClampNeg), A) else (.inl 0, A)
  else (.inl 2, A)
def q_length (A : Abs) (e f : Int32) : Ans :=
  if inB e A.2.1.length = true then
    if inB f 3 = true then (.inr (nI (txE (entI A e) f).length), A) else (.inl 0, A)
  else (.inl 2, A)
def q_proof (A : Abs) (e : Int32) : Ans := if inB e A.2.1.length = true then (.inr (prf A.2.1 e.toNatClampNeg), A) else (.inl 2, A)
def q_gets (A : Abs) (e a : Int32) : Ans :=
  if inB e A.2.1.length = true then
    if inB a 8 = true then (.inr (gts (entI A e).2.2.1 a.toNatClampNeg), A) else (.inl 0, A)
  else (.inl 2, A)
def q_sum (A : Abs) (e a : Int32) : Ans :=
  if (decide (e = -1) || inB e A.2.1.length) = true then
    if inB a 8 = true then (.inr (smU a.toNatClampNeg 0 (A.2.1.take (if e = -1 then 0 else e.toNatClampNeg + 1))), A) else (.inl 0, A)
  else (.inl 2, A)
def q_doubts (A : Abs) (e : Int32) : Ans := if inB e A.2.1.length = true then (.inr (dbs A e.toNatClampNeg), A) else (.inl 2, A)
def q_doubted (A : Abs) (v : Int32) : Ans := if inB v A.2.2.1.length = true then (.inr (cdb A.2.1 (rulI A v)), A) else (.inl 2, A)
def q_isFrozen (A : Abs) (e : Int32) : Ans := if inB e A.2.1.length = true then (.inr (b2i (frz A.2.2.2 e.toNatClampNeg)), A) else (.inl 2, A)
def q_holds (A : Abs) (v : Int32) : Ans := if inB v A.2.2.2.length = true then (.inr (hld A (audI A v)), A) else (.inl 2, A)
theorem inB_nI2 {v : Int32} {n : Nat} (h : inB v n = true) : v.toNatClampNeg < n ∧ v = nI v.toNatClampNeg := by
  simp only [inB, Bool.and_eq_true, decide_eq_true_eq] at h
  obtain ⟨j, hj, rfl⟩ := nI_of h.1
  rw [nI_clamp hj] at h ⊢
  exact ⟨h.2, rfl⟩
theorem inB_no {v : Int32} {n : Nat} (h : ¬ inB v n = true) (hn : n < 2 ^ 31) : ¬ inX v n := by
  rintro ⟨j, hj, rfl⟩
  exact h (inB_nI hj hn)
/-- a draft that can be an entry -/
theorem WE_new {d : List Nat} (h1 : ∀ c ∈ d, 32 ≤ c ∧ c < 127) (h2 : d.length ≤ 60) (hf : xFault d = none) {L : List (List Itm)} (hL : L = fRun (tkOf d) [[]]) (hI : ∃ h', h' ≠ 0 ∧ LVI L 0 h' d.length) (hc : cnt (alP L) ≤ 60) : WE (d, rnd L, alP L, false) := by
  obtain ⟨h', hh, a1, a2, a3, ⟨lv, ls, rfl, a4⟩, a5, a6⟩ := hI
  obtain rfl : ls = [] := by
    cases ls with
    | nil => rfl
    | cons y ys => simp at a2
  have hne : lv ≠ [] := fun z => hh (a4.mp z)
  have hT := TXT_jn (fun x hx => (a1.1 x hx).1)
  have e1 : rnd [lv] = jn (lv.map itx) := rfl
  have e2 : alP [lv] = lv.flatMap ipo := by simp [alP]
  rw [e1] at a5 ⊢
  rw [e2] at a6 hc ⊢
  refine ⟨h1, hT.2.2.2.2, h2, ?_, ?_, (fun z => nomatch z), fun _ => flatMap_ne (fun x hx => (a1.1 x hx).1) hne, ?_, hc, ?_, fun p hp => ?_⟩
  · show (jn (lv.map itx)).length ≤ 60
    omega
  · have := hT.2.2.1 [] nd_nil trivial
    rwa [List.append_nil] at this
  · have := hT.2.1 [] nd_nil
    rw [List.append_nil] at this
    show scn (jn (lv.map itx)) = _
    rw [this]
    simp [tim, scn, map_mulP1]
  · show (lv.flatMap ipo).length ≤ 15
    by_cases h1 : h' = 1
    · rw [if_pos h1] at a6; omega
    · rw [if_neg h1] at a6; omega
  · obtain ⟨x, hx, hp2⟩ := List.mem_flatMap.mp hp
    obtain ⟨p1, p2, p3, p4⟩ := (a1.1 x hx).2 p hp2
    refine ⟨p1, p2, p3, ?_⟩
    have key : ∀ (ps : List Pst) (s : Nat), s ≤ ps.foldl (fun s p => s + p.2.2.2) s := by
      intro ps
      induction ps with
      | nil => exact fun s => Nat.le_refl _
      | cons q ps ih => exact fun s => Nat.le_trans (Nat.le_add_right _ _) (ih (s + q.2.2.2))
    have key2 : ∀ (ps : List Pst) (s : Nat), p ∈ ps → p.2.2.2 ≤ ps.foldl (fun s p => s + p.2.2.2) s := by
      intro ps
      induction ps with
      | nil => exact fun s h => nomatch h
      | cons q ps ih =>
        intro s h
        rcases List.mem_cons.mp h with rfl | h
        · exact Nat.le_trans (Nat.le_add_left _ _) (key ps _)
        · exact ih _ h
    have := key2 (lv.flatMap ipo) 0 hp
    have hc : (lv.flatMap ipo).foldl (fun s p => s + p.2.2.2) 0 ≤ 60 := hc
    omega
