/-! rows of signs: loops -/
theorem SG.ok5 {S : PS} {v q cap : Nat} {d : List Nat} (h : SG S v q cap d) : okP S v 5 = true := h.1
theorem SG.ok8 {S : PS} {v q cap : Nat} {d : List Nat} (h : SG S v q cap d) : okP S q 8 = true := h.2.2.1
theorem SG.cnt {S : PS} {v q cap : Nat} {d : List Nat} (h : SG S v q cap d) : sI S 51 v = nI d.length := h.2.2.2.2.1
theorem SG.le {S : PS} {v q cap : Nat} {d : List Nat} (h : SG S v q cap d) : d.length ≤ cap := h.2.2.2.2.2.1
theorem SG.lt {S : PS} {v q cap : Nat} {d : List Nat} (h : SG S v q cap d) : d.length < 1000 := Nat.lt_of_le_of_lt h.2.2.2.2.2.1 h.2.2.2.2.2.2.1
theorem SG.copyL {n u uq ucap v q cap : Nat} {d : List Nat} (h1 : ¬ (u = v ∨ u = q)) (h2 : ¬ (uq = v ∨ uq = q)) : ∀ (r : List Nat) (i k : Nat) (S : PS) (e : List Nat), d.drop i = r → i ≤ d.length → r.length < k → SG S u uq ucap d → SG S v q cap e → e.length + r.length ≤ cap →
    ∃ T, fX4_copy_L6 n k S v u (nI i) = some T ∧ SG T v q cap (e ++ r) ∧ FR (fun b => b = v ∨ b = q) S T := by
  intro r
  induction r with
  | nil =>
    intro i k S e hr hi hk hu hv hc
    obtain ⟨k, rfl⟩ : ∃ k', k = k' + 1 := ⟨k - 1, by simp at hk; omega⟩
    have hie := drop_nil hr hi
    refine ⟨S, ?_, by rw [List.append_nil]; exact hv, FR.rf⟩
    unfold fX4_copy_L6
    simp only [chk, hu.ok5, hu.size, bP]
    rw [if_pos (by rw [hie]; exact Int32.le_refl _)]
  | cons c r ih =>
    intro i k S e hr hi hk hu hv hc
    obtain ⟨k, rfl⟩ : ∃ k', k = k' + 1 := ⟨k - 1, by simp at hk; omega⟩
    obtain ⟨hlt, hg, hr2⟩ := drop_next hr
    have hdl := hu.lt
    simp only [List.length_cons] at hk hc
    obtain ⟨T, t1, t2, t3⟩ := hv.add c (by omega)
    obtain ⟨U, u1, u2, u3⟩ := ih (i + 1) k T (e ++ [c]) hr2 hlt (by omega) (hu.keep t3 h1 h2) t2 (by simp; omega)
    refine ⟨U, ?_, by rw [List.append_assoc] at u2; exact u2, t3.trans u3⟩
    unfold fX4_copy_L6
    simp only [chk, hu.ok5, hu.size, bP]
    rw [if_neg (nI_ge hlt (by omega)), hu.at (by omega)]
    simp only [hv.ok5, atI_lt hlt, hg, t1, nI_1]
    exact u1
theorem SG.copy {n u uq ucap v q cap : Nat} {S : PS} {d e : List Nat} (h1 : ¬ (u = v ∨ u = q)) (h2 : ¬ (uq = v ∨ uq = q)) (hu : SG S u uq ucap d) (hv : SG S v q cap e) (hc : d.length ≤ cap) (hn : d.length < n) : ∃ T, fX4_copy n S v u = some T ∧ SG T v q cap d ∧ FR (fun b => b = v ∨ b = q) S T := by
  obtain ⟨T, t1, t2, t3⟩ := hv.empty
  obtain ⟨U, u1, u2, u3⟩ := SG.copyL (n := n) h1 h2 d 0 n T [] rfl (Nat.zero_le _) hn (hu.keep t3 h1 h2) t2 (by simpa using hc)
  refine ⟨U, ?_, by simpa using u2, t3.trans u3⟩
  unfold fX4_copy
  have e0 : nI 0 = (0 : Int32) := nI_0
  rw [e0] at u1
  simp only [chk, hv.ok5, t1, bP, u1, bL1]
theorem SG.one {S : PS} {v q cap : Nat} {d : List Nat} (h : SG S v q cap d) (c : Nat) (hc : 0 < cap) : ∃ T, fX4_becomeOne S v (nI c) = some T ∧ SG T v q cap [c] ∧ FR (fun b => b = v ∨ b = q) S T := by
  obtain ⟨T, t1, t2, t3⟩ := h.empty
  obtain ⟨U, u1, u2, u3⟩ := t2.add c (by simpa using hc)
  refine ⟨U, ?_, u2, t3.trans u3⟩
  unfold fX4_becomeOne
  simp only [chk, h.ok5, t1, bP, t2.ok5, u1]
theorem nI_inj {a b : Nat} (ha : a < 2 ^ 31) (hb : b < 2 ^ 31) : nI a = nI b ↔ a = b := nI_eq ha hb
/-- are two texts the same from a place on -/
theorem SG.sameL {n u uq ucap v q cap : Nat} {S : PS} {d e : List Nat} (hv : SG S v q cap d) (hu : SG S u uq ucap e) (hl : d.length = e.length) (hd : ∀ c ∈ d, c < 127) (he : ∀ c ∈ e, c < 127) : ∀ (r : List Nat) (i k : Nat), d.drop i = r → i ≤ d.length → r.length < k →
    fX4_isSameAs_L15 n k S v u (nI i) = some (if r = e.drop i then .inr () else .inl 0) := by
  intro r
  induction r with
  | nil =>
    intro i k hr hi hk
    obtain ⟨k, rfl⟩ : ∃ k', k = k' + 1 := ⟨k - 1, by simp at hk; omega⟩
    have hie := drop_nil hr hi
    unfold fX4_isSameAs_L15
    simp only [chk, hv.ok5, hv.cnt]
    rw [if_pos (by rw [hie]; exact Int32.le_refl _), List.drop_eq_nil_of_le (by omega), if_pos rfl]
  | cons c r ih =>
    intro i k hr hi hk
    obtain ⟨k, rfl⟩ : ∃ k', k = k' + 1 := ⟨k - 1, by simp at hk; omega⟩
    obtain ⟨hlt, hg, hr2⟩ := drop_next hr
    have hdl := hv.lt
    simp only [List.length_cons] at hk
    have hlt2 : i < e.length := by omega
    have hrec := ih (i + 1) k hr2 hlt (by omega)
    unfold fX4_isSameAs_L15
    simp only [chk, hv.ok5, hv.cnt, hu.ok5]
    rw [if_neg (nI_ge hlt (by omega)), hv.at (by omega), hu.at (by omega)]
    simp only [bP, atI_lt hlt, atI_lt hlt2, hg]
    have hc : c < 127 := by rw [← hg]; exact hd _ (getD_mem hlt)
    have hc2 := he _ (getD_mem hlt2)
    have h3 : e.drop i = e.getD i 0 :: e.drop (i + 1) := by
      rw [List.drop_eq_getElem_cons hlt2, List.getD_eq_getElem?_getD, List.getElem?_eq_getElem hlt2]
      rfl
    rw [h3]
    by_cases hcc : c = e.getD i 0
    · rw [if_pos (by rw [hcc]), nI_1, hrec]
      by_cases hrr : r = e.drop (i + 1)
      · rw [if_pos hrr, if_pos (by rw [← hcc, ← hrr])]
      · rw [if_neg hrr, if_neg (fun z => hrr (List.cons.inj z).2)]
    · rw [if_neg (fun z => hcc ((nI_inj (by omega) (by omega)).mp z)), if_neg (fun z => hcc (List.cons.inj z).1)]
      rfl
theorem SG.same {n u uq ucap v q cap : Nat} {S : PS} {d e : List Nat} (hv : SG S v q cap d) (hu : SG S u uq ucap e) (hd : ∀ c ∈ d, c < 127) (he : ∀ c ∈ e, c < 127) (hn : d.length < n) : fX4_isSameAs n S v u = some (if d = e then 1 else 0) := by
  have hdl := hv.lt
  have hel := hu.lt
  unfold fX4_isSameAs
  simp only [chk, hv.ok5, hv.cnt, hu.ok5, hu.size, bP]
  by_cases hl : d.length = e.length
  · have h := SG.sameL (n := n) hv hu hl hd he d 0 n rfl (Nat.zero_le _) hn
    have e0 : nI 0 = (0 : Int32) := nI_0
    rw [e0, List.drop_zero] at h
    rw [if_pos (by rw [hl]), h]
    by_cases hde : d = e
    · rw [if_pos hde, if_pos hde]
      rfl
    · rw [if_neg hde, if_neg hde]
      rfl
  · rw [if_neg (fun z => hl ((nI_inj (by omega) (by omega)).mp z)), if_neg (fun z => hl (by rw [z]))]
    rfl
def chn (s : Int32) (d : List Nat) : Int32 := d.foldl (fun s c => 31 * s + nI c) s
theorem SG.chainL {n v q cap : Nat} {S : PS} {d : List Nat} (hv : SG S v q cap d) : ∀ (r : List Nat) (i k : Nat) (s : Int32), d.drop i = r → i ≤ d.length → r.length < k →
    fX4_chainedTo_L4 n k S v s (nI i) = some (chn s r) := by
  intro r
  induction r with
  | nil =>
    intro i k s hr hi hk
    obtain ⟨k, rfl⟩ : ∃ k', k = k' + 1 := ⟨k - 1, by simp at hk; omega⟩
    have hie := drop_nil hr hi
    unfold fX4_chainedTo_L4
    simp only [chk, hv.ok5, hv.cnt]
    rw [if_pos (by rw [hie]; exact Int32.le_refl _)]
    rfl
  | cons c r ih =>
    intro i k s hr hi hk
    obtain ⟨k, rfl⟩ : ∃ k', k = k' + 1 := ⟨k - 1, by simp at hk; omega⟩
    obtain ⟨hlt, hg, hr2⟩ := drop_next hr
    have hdl := hv.lt
    simp only [List.length_cons] at hk
    unfold fX4_chainedTo_L4
    simp only [chk, hv.ok5, hv.cnt]
    rw [if_neg (nI_ge hlt (by omega)), hv.at (by omega)]
    simp only [bP, bnd, atI_lt hlt, hg, nI_1]
    exact ih (i + 1) k _ hr2 hlt (by omega)
theorem SG.chain {n v q cap : Nat} {S : PS} {d : List Nat} (hv : SG S v q cap d) (s : Int32) (hn : d.length < n) : fX4_chainedTo n S v s = some (chn s d) := by
  unfold fX4_chainedTo
  have h := SG.chainL (n := n) hv d 0 n s rfl (Nat.zero_le _) hn
  have e0 : nI 0 = (0 : Int32) := nI_0
  rw [e0] at h
  rw [h]
  rfl
theorem SG.replace {S : PS} {v q cap : Nat} {d : List Nat} {c0 : Nat} (h : SG S v q cap (d ++ [c0])) (c : Nat) : ∃ T, fX4_replaceLast S v (nI c) = some T ∧ SG T v q cap (d ++ [c]) ∧ FR (fun b => b = v ∨ b = q) S T := by
  obtain ⟨a1, a2, a3, a4, a5, a6, a7, a8⟩ := h
  have hlen : (d ++ [c0]).length = d.length + 1 := by simp
  have hlen2 : (d ++ [c]).length = d.length + 1 := by simp
  rw [hlen] at a5 a6 a8
  refine ⟨pA S q d.length (nI c), ?_, ⟨a1, a2, a3, a4, by rw [hlen2]; exact a5, by rw [hlen2]; exact a6, a7, ?_⟩, FR.pA.mono (fun b => Or.inr)⟩
  · unfold fX4_replaceLast
    simp only [chk, a1, a2, a3, bP, a4, a5, bnd, nI_pred]
    rw [if_neg (nI_pos (by omega)), if_neg (nI_ge (by omega) (by omega)), inB_nI (show d.length < cap by omega) (by omega), nI_clamp (by omega)]
  · intro i hi
    rw [hlen2] at hi
    rw [pA_A]
    unfold upd
    rw [getD_snoc]
    by_cases h1 : i = d.length
    · subst h1
      rw [if_pos rfl, if_neg (Nat.lt_irrefl _), if_pos rfl]
    · rw [if_neg h1, if_pos (by omega), a8 i (by omega), getD_snoc, if_pos (by omega)]
theorem SG.removeL {n v q cap len : Nat} (hlen : len ≤ cap) (hcap : cap < 1000) : ∀ (m i k : Nat) (S : PS), i + m + 1 = len → m < k → okP S v 5 = true → sR S 50 v = some q → okP S q 8 = true → sN S q = cap → sI S 51 v = nI len →
    ∃ T, fX4_remove_L15 n k S v (nI i) = some T ∧ FR (fun b => b = q) S T ∧ sR T 50 v = some q ∧ sN T q = cap ∧ sI T 51 v = nI len ∧ ∀ j, sA T q j = if i ≤ j ∧ j + 1 < len then sA S q (j + 1) else sA S q j := by
  intro m
  induction m with
  | zero =>
    intro i k S hi hk a1 a2 a3 a4 a5
    obtain ⟨k, rfl⟩ : ∃ k', k = k' + 1 := ⟨k - 1, by omega⟩
    refine ⟨S, ?_, FR.rf, a2, a4, a5, fun j => ?_⟩
    · unfold fX4_remove_L15
      simp only [chk, a1, a5, nI_1]
      rw [if_pos (nI_le (by omega) (by omega))]
    · rw [if_neg (by omega)]
  | succ m ih =>
    intro i k S hi hk a1 a2 a3 a4 a5
    obtain ⟨k, rfl⟩ : ∃ k', k = k' + 1 := ⟨k - 1, by omega⟩
    have hvq : v ≠ q := okP_ne a1 a3 (by decide)
    obtain ⟨T, t1, t2, t3, t4, t5, t6⟩ := ih (i + 1) k (pA S q i (sA S q (i + 1))) (by omega) (by omega) a1 a2 a3 a4 a5
    refine ⟨T, ?_, FR.pA.trans t2, t3, t4, t5, fun j => ?_⟩
    · unfold fX4_remove_L15
      simp only [chk, a1, a2, a3, bP, a4, a5, nI_1]
      rw [if_neg (nI_ge (by omega) (by omega)), if_neg (nI_ge (by omega) (by omega)), inB_nI (show i + 1 < cap by omega) (by omega), inB_nI (show i < cap by omega) (by omega), nI_clamp (by omega), nI_clamp (by omega)]
      simp only [bnd]
      exact t1
    · rw [t6 j, pA_A]
      unfold upd
      by_cases h1 : j = i
      · subst h1
        rw [if_neg (by omega), if_pos rfl, if_pos (by omega)]
      · by_cases h2 : i + 1 ≤ j ∧ j + 1 < len
        · rw [if_pos h2, if_neg (by omega), if_pos (by omega)]
        · rw [if_neg h2, if_neg h1, if_neg (by omega)]
theorem SG.remove {n : Nat} {S : PS} {v q cap : Nat} {a b : List Nat} {c : Nat} (h : SG S v q cap (a ++ c :: b)) (hn : cap < n) : ∃ T, fX4_remove n S v (nI a.length) = some T ∧ SG T v q cap (a ++ b) ∧ FR (fun z => z = v ∨ z = q) S T := by
  obtain ⟨a1, a2, a3, a4, a5, a6, a7, a8⟩ := h
  have hvq : v ≠ q := okP_ne a1 a3 (by decide)
  have hlen : (a ++ c :: b).length = a.length + b.length + 1 := by simp; omega
  rw [hlen] at a5 a6 a8
  obtain ⟨T, t1, t2, t3, t4, t5, t6⟩ := SG.removeL (n := n) a6 a7 b.length a.length n S (by omega) (by omega) a1 a2 a3 a4 a5
  refine ⟨pI T 51 v (nI (a.length + b.length)), ?_, ⟨t2.ok a1, t3, t2.ok a3, t4, ?_, ?_, a7, ?_⟩, (t2.mono (fun z => Or.inr)).trans (FR.pI.mono (fun z => Or.inl))⟩
  · unfold fX4_remove
    simp only [chk, a1, a5]
    rw [if_neg (nI_pos (by omega)), if_pos (nI_lt (by omega) (by omega)), t1]
    simp only [bL1, t2.ok a1, bnd, t5, nI_pred]
  · rw [pI_I]
    simp
  · simp
    omega
  · intro i hi
    rw [List.length_append] at hi
    show sA T q i = _
    rw [t6 i]
    have e1 : ∀ j, j < a.length + b.length + 1 → sA S q j = nI ((a ++ c :: b).getD j 0) := a8
    simp only [List.getD_eq_getElem?_getD] at e1 ⊢
    by_cases h1 : a.length ≤ i
    · rw [if_pos ⟨h1, by omega⟩, e1 _ (by omega), List.getElem?_append_right (by omega), List.getElem?_append_right h1]
      have : i + 1 - a.length = (i - a.length) + 1 := by omega
      rw [this, List.getElem?_cons_succ]
    · rw [if_neg (fun z => h1 z.1), e1 _ (by omega), List.getElem?_append_left (by omega), List.getElem?_append_left (by omega)]
