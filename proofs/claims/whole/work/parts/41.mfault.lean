/-! the reference's fault -/
theorem next_ok : ∀ q, q < 10 → ∀ op, op < 6 → ∀ c, c < 127 → fX7_next (nI (mu q)) (nI c) (nI (dgt q)) (nI op) = some (match xStep q op c with | none => -1 | some s => nI (mu s.1)) := by decide +kernel
theorem next_op : ∀ q, q < 10 → ∀ op, op < 6 → ∀ c, c < 127 → (match xStep q op c with | none => true | some s => decide (nI s.2 = nI op + (if c = 40 then 1 else if c = 41 then -1 else 0)) && decide (nI (dgt s.1) = (if nI (mu s.1) = 3 then nI (dgt q) + 1 else 0)) && decide (¬ nI (mu s.1) = (-1 : Int32))) = true := by decide +kernel
/-- the draft as the reference holds it -/
def mDraft (w : MW) (d : List Nat) : Prop := w.1 1 = nI d.length ∧ (∀ i, i < d.length → w.2 2 i = nI (d.getD i 0)) ∧ d.length ≤ 60 ∧ ∀ c ∈ d, 32 ≤ c ∧ c < 127
theorem nI_c40 : ∀ c, c < 127 → (nI c = (40 : Int32) ↔ c = 40) := by decide +kernel
theorem nI_c41 : ∀ c, c < 127 → (nI c = (41 : Int32) ↔ c = 41) := by decide +kernel
theorem mdf_loop {n : Nat} {w : MW} {d : List Nat} (hd : mDraft w d) : ∀ (r : List Nat) (i q op k : Nat), d.drop i = r → q < 10 → op < 6 → r.length < k → i ≤ d.length →
    fX7_draftFault_L9 n k w (nI (mu q)) (nI op) (nI (dgt q)) (nI i) = some (match xRun r q op i with | .inl j => .inl (nI j) | .inr s => .inr (nI (mu s.1), nI s.2)) := by
  obtain ⟨h1, h2, h3, h4⟩ := hd
  intro r
  induction r with
  | nil =>
    intro i q op k hdr hq hop hk hi
    obtain ⟨k, rfl⟩ : ∃ k', k = k' + 1 := ⟨k - 1, by simp at hk; omega⟩
    have hie := drop_nil hdr hi
    unfold fX7_draftFault_L9
    rw [if_pos (by rw [h1, hie]; exact Int32.le_refl _)]
    rfl
  | cons c r ih =>
    intro i q op k hdr hq hop hk hi
    obtain ⟨k, rfl⟩ : ∃ k', k = k' + 1 := ⟨k - 1, by simp at hk; omega⟩
    obtain ⟨hlt, hg, hdr2⟩ := drop_next hdr
    have hc : c < 127 := by rw [← hg]; exact (h4 _ (getD_mem hlt)).2
    have hc0 : (nI i).toNatClampNeg = i := nI_clamp (by omega)
    unfold fX7_draftFault_L9
    rw [if_neg (by rw [h1]; exact nI_ge hlt (by omega)), inB_nI (show i < mLen 2 from by show i < 60; omega) (by decide), hc0, h2 i hlt, hg]
    simp only [chk, bnd]
    rw [next_ok q hq op hop c hc]
    simp only [bP]
    have hop2 := next_op q hq op hop c hc
    cases hx : xStep q op c with
    | none =>
      simp only [if_true]
      simp only [xRun, hx]
    | some s =>
      rw [hx] at hop2
      simp only [Bool.and_eq_true, decide_eq_true_eq] at hop2
      obtain ⟨⟨e1, e2⟩, e3⟩ := hop2
      obtain ⟨hs1, hs2⟩ := xStep_in hq hop hc hx
      have hrec := ih (i + 1) s.1 s.2 k hdr2 hs1 hs2 (by simp at hk; omega) (by omega)
      simp only [xRun, hx]
      rw [← hrec, if_neg e3]
      have hI : nI i + (1 : Int32) = nI (i + 1) := nI_1 i
      simp only [nI_c40 c hc, nI_c41 c hc]
      by_cases c40 : c = 40
      · subst c40
        simp only [if_true] at e1 ⊢
        unfold fX7_draftFault_J70
        simp only [bnd]
        rw [← e1, hI, e2]
        by_cases h3 : nI (mu s.1) = (3 : Int32)
        · rw [if_pos h3, if_pos h3]
        · rw [if_neg h3, if_neg h3]
      · by_cases c41 : c = 41
        · subst c41
          simp only [if_neg c40, if_true] at e1 ⊢
          unfold fX7_draftFault_J70
          simp only [bnd]
          rw [← e1, hI, e2]
          by_cases h3 : nI (mu s.1) = (3 : Int32)
          · rw [if_pos h3, if_pos h3]
          · rw [if_neg h3, if_neg h3]
        · simp only [if_neg c40, if_neg c41] at e1 ⊢
          unfold fX7_draftFault_J70
          simp only [bnd]
          rw [← e1, hI, e2]
          by_cases h3 : nI (mu s.1) = (3 : Int32)
          · rw [if_pos h3, if_pos h3]
          · rw [if_neg h3, if_neg h3]
theorem xRun_in : ∀ (r : List Nat) (q op i : Nat) (s : Nat × Nat), q < 10 → op < 6 → (∀ c ∈ r, c < 127) → xRun r q op i = .inr s → s.1 < 10 ∧ s.2 < 6 := by
  intro r
  induction r with
  | nil =>
    intro q op i s hq ho _ h
    simp only [xRun, Sum.inr.injEq] at h
    subst h
    exact ⟨hq, ho⟩
  | cons c r ih =>
    intro q op i s hq ho hc h
    simp only [xRun] at h
    cases hx : xStep q op c with
    | none => rw [hx] at h; cases h
    | some s1 =>
      rw [hx] at h
      obtain ⟨a, b⟩ := xStep_in hq ho (hc c List.mem_cons_self) hx
      exact ih s1.1 s1.2 (i + 1) s a b (fun c hc2 => hc c (List.mem_cons_of_mem _ hc2)) h
def xFaultI (d : List Nat) : Int32 := match xFault d with
  | none => -1
  | some j => nI j
theorem mEnd : ∀ q, q < 10 → ∀ op, op < 6 → ∀ (n : Nat) (w : MW), (if nI (mu q) = (3 : Int32) then fX7_draftFault_J116 n w (nI op) else (if nI (mu q) = (4 : Int32) then fX7_draftFault_J116 n w (nI op) else (if nI (mu q) = (5 : Int32) then fX7_draftFault_J116 n w (nI op) else (if nI (mu q) = (7 : Int32) then fX7_draftFault_J116 n w (nI op) else fX7_draftFault_J121 n w (nI op) (0 : Int32))))) = some (if 4 ≤ q ∧ op = 0 then (-1 : Int32) else w.1 1) := by
  intro q hq op ho n w
  have e0 : ∀ op, op < 6 → (nI op = 0 ↔ op = 0) := by decide +kernel
  have e1 : ∀ q, q < 10 → ((nI (mu q) = (3 : Int32) ∨ nI (mu q) = (4 : Int32) ∨ nI (mu q) = (5 : Int32) ∨ nI (mu q) = (7 : Int32)) ↔ 4 ≤ q) := by decide +kernel
  have h := e1 q hq
  have hJ : fX7_draftFault_J116 n w (nI op) = some (if op = 0 then (-1 : Int32) else w.1 1) := by
    unfold fX7_draftFault_J116 fX7_draftFault_J121
    rw [if_neg (by decide)]
    by_cases h0 : op = 0
    · rw [if_pos ((e0 op ho).mpr h0), if_pos h0]
    · rw [if_neg (fun z => h0 ((e0 op ho).mp z)), if_neg h0]
  have hK : fX7_draftFault_J121 n w (nI op) (0 : Int32) = some (w.1 1) := by
    unfold fX7_draftFault_J121
    rw [if_pos rfl]
  rw [hJ, hK]
  by_cases h4 : 4 ≤ q
  · have hR : (if 4 ≤ q ∧ op = 0 then (-1 : Int32) else w.1 1) = (if op = 0 then (-1 : Int32) else w.1 1) := by
      by_cases h0 : op = 0
      · rw [if_pos ⟨h4, h0⟩, if_pos h0]
      · rw [if_neg (fun z => h0 z.2), if_neg h0]
    rw [hR]
    rcases h.mpr h4 with h3 | h3 | h3 | h3
    · rw [if_pos h3]
    · rw [if_neg (by rw [h3]; decide), if_pos h3]
    · rw [if_neg (by rw [h3]; decide), if_neg (by rw [h3]; decide), if_pos h3]
    · rw [if_neg (by rw [h3]; decide), if_neg (by rw [h3]; decide), if_neg (by rw [h3]; decide), if_pos h3]
  · have hn : ¬ (nI (mu q) = (3 : Int32) ∨ nI (mu q) = (4 : Int32) ∨ nI (mu q) = (5 : Int32) ∨ nI (mu q) = (7 : Int32)) := fun z => h4 (h.mp z)
    rw [if_neg (fun z => hn (Or.inl z)), if_neg (fun z => hn (Or.inr (Or.inl z))), if_neg (fun z => hn (Or.inr (Or.inr (Or.inl z)))), if_neg (fun z => hn (Or.inr (Or.inr (Or.inr z)))), if_neg (fun z => h4 z.1)]
theorem mFault {n : Nat} {w : MW} {d : List Nat} (hd : mDraft w d) (hn : 60 < n) : fX7_draftFault n w = some (xFaultI d) := by
  have h : fX7_draftFault_L9 n n w (0 : Int32) (0 : Int32) (0 : Int32) (0 : Int32) = some (match xRun d 0 0 0 with | .inl j => .inl (nI j) | .inr s => .inr (nI (mu s.1), nI s.2)) := mdf_loop (n := n) hd d 0 0 0 n rfl (by decide) (by decide) (by have := hd.2.2.1; omega) (Nat.zero_le _)
  unfold fX7_draftFault
  rw [h]
  unfold xFaultI xFault
  cases hx : xRun d 0 0 0 with
  | inl j => rfl
  | inr s =>
    obtain ⟨hs1, hs2⟩ := xRun_in d 0 0 0 s (by decide) (by decide) (fun c hc => (hd.2.2.2 c hc).2) hx
    simp only [bS2]
    rw [mEnd s.1 hs1 s.2 hs2 n w, hd.1]
    by_cases h0 : 4 ≤ s.1 ∧ s.2 = 0
    · rw [if_pos h0, if_pos h0]
    · rw [if_neg h0, if_neg h0]
