/-! every call leaves a ledger that is well formed; the start; what the two sides have in common behind a call -/
section WFsec
variable {A : Abs} {w : MW}
theorem WE_nw (h : RM w A) (hW : WF A) (hb : bad A.1 (nwE A.1).2.2.1 = false) : WE (nwE A.1) := by
  simp only [bad, Bool.or_eq_false_iff, decide_eq_false_iff_not] at hb
  have hf : xFault A.1 = none := Decidable.not_not.mp hb.1
  obtain ⟨-, -, -, -, hLV⟩ := mReads (n := 2001) h.1 hf (by decide)
  have hc : cnt (nwE A.1).2.2.1 ≤ 60 := by omega
  exact WE_new hW.1.2 hW.1.1 hf rfl hLV hc
theorem wf_nil : (([] : List Nat).length ≤ 60 ∧ ∀ c ∈ ([] : List Nat), 32 ≤ c ∧ c < 127) := ⟨Nat.zero_le _, fun c hc => nomatch hc⟩
theorem wf_type (hW : WF A) (v : Int32) : WF (q_type A v).2 := by
  unfold q_type
  by_cases h1 : v < 32 ∨ 126 < v
  · rw [if_pos h1]; exact hW
  · rw [if_neg h1]
    by_cases h2 : A.1.length = 60
    · rw [if_pos h2]; exact hW
    · rw [if_neg h2]
      obtain ⟨⟨a1, a2⟩, b⟩ := hW
      refine ⟨⟨by show (A.1 ++ [v.toNatClampNeg]).length ≤ 60; simp; omega, fun c hc => ?_⟩, b⟩
      rcases List.mem_append.mp hc with hc | hc
      · exact a2 c hc
      · rw [List.mem_singleton.mp hc]
        have g1 : ¬ v < 32 := fun z => h1 (Or.inl z)
        have g2 : ¬ 126 < v := fun z => h1 (Or.inr z)
        have hv0 : ¬ v < 0 := fun z => g1 (Int32.lt_trans z (by decide))
        obtain ⟨y, hy, hvy⟩ := nI_of hv0
        rw [hvy] at g1 g2 ⊢
        rw [nI_clamp hy]
        refine ⟨Nat.le_of_not_lt (fun z => g1 (show nI y < nI 32 from nI_lt z (by decide))), ?_⟩
        have : ¬ 126 < y := fun z => g2 (show nI 126 < nI y from nI_lt z hy)
        omega
theorem wf_post (h : RM w A) (hW : WF A) : WF (q_post A).2 := by
  unfold q_post
  by_cases hc : (decide (24 ≤ A.2.1.length) || bad A.1 (nwE A.1).2.2.1) = true
  · rw [if_pos hc]; exact hW
  · rw [if_neg hc]
    have hc2 := Bool.or_eq_false_iff.mp (eq_false_of_ne_true hc)
    have hE := WE_nw h hW hc2.2
    have hl : ¬ 24 ≤ A.2.1.length := of_decide_eq_false hc2.1
    obtain ⟨-, ⟨b1, b2⟩, c, e1, e2⟩ := hW
    refine ⟨wf_nil, ⟨by show (A.2.1 ++ [nwE A.1]).length ≤ 24; rw [List.length_append]; show A.2.1.length + 1 ≤ 24; omega, fun y hy => ?_⟩, c, e1, fun U hU => ⟨(e2 U hU).1, by have := (e2 U hU).2; show U.2.1 < (A.2.1 ++ [nwE A.1]).length; rw [List.length_append]; omega⟩⟩
    rcases List.mem_append.mp hy with hy | hy
    · exact b2 y hy
    · rw [List.mem_singleton.mp hy]; exact hE
theorem wf_write (h : RM w A) (hW : WF A) (v : Int32) : WF (q_write A v).2 := by
  unfold q_write
  by_cases hi : inB v A.2.1.length = true
  · rw [if_pos hi]
    by_cases hb : bad A.1 (nwE A.1).2.2.1 = true
    · rw [if_pos hb]; exact hW
    · rw [if_neg hb]
      by_cases hf : (decide ((nwE A.1).2.1 ≠ (entI A v).2.1) && frz A.2.2.2 v.toNatClampNeg) = true
      · rw [if_pos hf]; exact hW
      · rw [if_neg hf]
        exact WF_set hW (WE_nw h hW (eq_false_of_ne_true hb)) wf_nil
  · rw [if_neg hi]; exact hW
theorem wf_strike (hW : WF A) (v : Int32) : WF (q_strike A v).2 := by
  unfold q_strike
  by_cases hi : inB v A.2.1.length = true
  · rw [if_pos hi]
    by_cases hb : ((entI A v).2.2.2 || frz A.2.2.2 v.toNatClampNeg) = true
    · rw [if_pos hb]; exact hW
    · rw [if_neg hb]
      exact WF_set hW WE_str hW.1
  · rw [if_neg hi]; exact hW
theorem wf_rule (hW : WF A) (k a o N : Int32) : WF (q_rule A k a o N).2 := by
  unfold q_rule
  by_cases hk : okRule k a o N = true
  · rw [if_pos hk]
    by_cases hf : A.2.2.1.length = 8
    · rw [if_pos hf]; exact hW
    · rw [if_neg hf]
      simp only [okRule, Bool.and_eq_true, Bool.or_eq_true, decide_eq_true_eq] at hk
      obtain ⟨⟨⟨⟨⟨⟨h1, h2⟩, h3⟩, h4⟩, h5⟩, h6⟩, h7⟩ := hk
      obtain ⟨a1, a2, ⟨c1, c2⟩, d⟩ := hW
      refine ⟨a1, a2, ⟨by show (A.2.2.1 ++ [(k.toNatClampNeg, a.toNatClampNeg, o.toNatClampNeg, N, false)]).length ≤ 8; rw [List.length_append]; show A.2.2.1.length + 1 ≤ 8; omega, fun R hR => ?_⟩, d⟩
      rcases List.mem_append.mp hR with hR | hR
      · exact c2 R hR
      · rw [List.mem_singleton.mp hR]
        refine ⟨(inB_nI2 h1).1, (inB_nI2 h2).1, (inB_nI2 h3).1, fun hz => ?_, h4, h5⟩
        have hz2 : k.toNatClampNeg = 1 := hz
        have hk1 : k = 1 := by
          have := (inB_nI2 h1).2
          rw [hz2] at this
          exact this
        exact h6.resolve_left (fun z => z hk1)
  · rw [if_neg hk]; exact hW
theorem wf_takeBack (hW : WF A) (v : Int32) : WF (q_takeBack A v).2 := by
  unfold q_takeBack
  by_cases hi : inB v A.2.2.1.length = true
  · rw [if_pos hi]
    by_cases hb : (rulI A v).2.2.2.2 = true
    · rw [if_pos hb]; exact hW
    · rw [if_neg hb]
      have hm : rulI A v ∈ A.2.2.1 := by
        unfold rulI
        rw [List.getD_eq_getElem?_getD, List.getElem?_eq_getElem (inB_nI2 hi).1]
        exact List.getElem_mem _
      obtain ⟨a1, a2, ⟨c1, c2⟩, d⟩ := hW
      refine ⟨a1, a2, ⟨by rw [List.length_set]; exact c1, fun R hR => ?_⟩, d⟩
      rcases List.mem_or_eq_of_mem_set hR with hR | hR
      · exact c2 R hR
      · rw [hR]
        exact c2 (rulI A v) hm
  · rw [if_neg hi]; exact hW
theorem wf_audit (hW : WF A) (f t : Int32) : WF (q_audit A f t).2 := by
  unfold q_audit
  by_cases hi : (inB f A.2.1.length && inB t A.2.1.length) = true
  · rw [if_pos hi]
    by_cases hl : t < f
    · rw [if_pos hl]; exact hW
    · rw [if_neg hl]
      by_cases h6 : A.2.2.2.length = 6
      · rw [if_pos h6]; exact hW
      · rw [if_neg h6]
        rw [Bool.and_eq_true] at hi
        obtain ⟨i1, i2⟩ := inB_nI2 hi.1
        obtain ⟨j1, j2⟩ := inB_nI2 hi.2
        obtain ⟨a1, ⟨b1, b2⟩, c, d1, d2⟩ := hW
        refine ⟨a1, ⟨b1, b2⟩, c, by show (A.2.2.2 ++ [(f.toNatClampNeg, t.toNatClampNeg, prf A.2.1 t.toNatClampNeg, false)]).length ≤ 6; rw [List.length_append]; show A.2.2.2.length + 1 ≤ 6; omega, fun U hU => ?_⟩
        rcases List.mem_append.mp hU with hU | hU
        · exact d2 U hU
        · rw [List.mem_singleton.mp hU]
          refine ⟨?_, j1⟩
          show f.toNatClampNeg ≤ t.toNatClampNeg
          rcases Nat.lt_or_ge t.toNatClampNeg f.toNatClampNeg with h | h
          · have hlt : nI t.toNatClampNeg < nI f.toNatClampNeg := nI_lt h (by omega)
            rw [← i2, ← j2] at hlt
            exact absurd hlt hl
          · exact h
  · rw [if_neg hi]; exact hW
theorem wf_end (hW : WF A) (v : Int32) : WF (q_end A v).2 := by
  unfold q_end
  by_cases hi : inB v A.2.2.2.length = true
  · rw [if_pos hi]
    by_cases hb : (audI A v).2.2.2 = true
    · rw [if_pos hb]; exact hW
    · rw [if_neg hb]
      have hm : audI A v ∈ A.2.2.2 := by
        unfold audI
        rw [List.getD_eq_getElem?_getD, List.getElem?_eq_getElem (inB_nI2 hi).1]
        exact List.getElem_mem _
      obtain ⟨a1, a2, c, d1, d2⟩ := hW
      refine ⟨a1, a2, c, by rw [List.length_set]; exact d1, fun R hR => ?_⟩
      rcases List.mem_or_eq_of_mem_set hR with hR | hR
      · exact d2 R hR
      · rw [hR]
        exact d2 (audI A v) hm
  · rw [if_neg hi]; exact hW
theorem wf_clear (hW : WF A) : WF (q_clear A).2 := ⟨wf_nil, hW.2⟩
theorem wf_signAt (hW : WF A) (e f p : Int32) : WF (q_signAt A e f p).2 := by
  have : (q_signAt A e f p).2 = A := by
    unfold q_signAt
    repeat' split
    all_goals rfl
  rw [this]; exact hW
theorem wf_length (hW : WF A) (e f : Int32) : WF (q_length A e f).2 := by
  have : (q_length A e f).2 = A := by
    unfold q_length
    repeat' split
    all_goals rfl
  rw [this]; exact hW
theorem wf_proof (hW : WF A) (e : Int32) : WF (q_proof A e).2 := by
  have : (q_proof A e).2 = A := by
    unfold q_proof
    repeat' split
    all_goals rfl
  rw [this]; exact hW
theorem wf_gets (hW : WF A) (e f : Int32) : WF (q_gets A e f).2 := by
  have : (q_gets A e f).2 = A := by
    unfold q_gets
    repeat' split
    all_goals rfl
  rw [this]; exact hW
theorem wf_sum (hW : WF A) (e f : Int32) : WF (q_sum A e f).2 := by
  have : (q_sum A e f).2 = A := by
    unfold q_sum
    repeat' split
    all_goals rfl
  rw [this]; exact hW
theorem wf_doubts (hW : WF A) (e : Int32) : WF (q_doubts A e).2 := by
  have : (q_doubts A e).2 = A := by
    unfold q_doubts
    repeat' split
    all_goals rfl
  rw [this]; exact hW
theorem wf_doubted (hW : WF A) (e : Int32) : WF (q_doubted A e).2 := by
  have : (q_doubted A e).2 = A := by
    unfold q_doubted
    repeat' split
    all_goals rfl
  rw [this]; exact hW
theorem wf_isFrozen (hW : WF A) (e : Int32) : WF (q_isFrozen A e).2 := by
  have : (q_isFrozen A e).2 = A := by
    unfold q_isFrozen
    repeat' split
    all_goals rfl
  rw [this]; exact hW
theorem wf_holds (hW : WF A) (e : Int32) : WF (q_holds A e).2 := by
  have : (q_holds A e).2 = A := by
    unfold q_holds
    repeat' split
    all_goals rfl
  rw [this]; exact hW
/-! what is thrown -/
theorem zx_type {v : Int32} {z : Nat} : (q_type A v).1 = .inl z → z = 0 ∨ z = 1 := by
  unfold q_type
  repeat' split
  all_goals (intro h; simp at h; try omega)
theorem zx_post {z : Nat} : (q_post A).1 = .inl z → z = 1 := by
  unfold q_post
  repeat' split
  all_goals (intro h; simp at h; try omega)
theorem zx_write {v : Int32} {z : Nat} : (q_write A v).1 = .inl z → z = 2 ∨ z = 1 := by
  unfold q_write
  repeat' split
  all_goals (intro h; simp at h; try omega)
theorem zx_strike {v : Int32} {z : Nat} : (q_strike A v).1 = .inl z → z = 2 ∨ z = 1 := by
  unfold q_strike
  repeat' split
  all_goals (intro h; simp at h; try omega)
theorem zx_rule {k a o N : Int32} {z : Nat} : (q_rule A k a o N).1 = .inl z → z = 0 ∨ z = 1 := by
  unfold q_rule
  repeat' split
  all_goals (intro h; simp at h; try omega)
theorem zx_takeBack {v : Int32} {z : Nat} : (q_takeBack A v).1 = .inl z → z = 2 ∨ z = 1 := by
  unfold q_takeBack
  repeat' split
  all_goals (intro h; simp at h; try omega)
theorem zx_audit {f t : Int32} {z : Nat} : (q_audit A f t).1 = .inl z → z = 2 ∨ z = 0 ∨ z = 1 := by
  unfold q_audit
  repeat' split
  all_goals (intro h; simp at h; try omega)
theorem zx_end {v : Int32} {z : Nat} : (q_end A v).1 = .inl z → z = 2 ∨ z = 1 := by
  unfold q_end
  repeat' split
  all_goals (intro h; simp at h; try omega)
theorem zx_signAt {e f p : Int32} {z : Nat} : (q_signAt A e f p).1 = .inl z → z = 2 ∨ z = 0 := by
  unfold q_signAt
  repeat' split
  all_goals (intro h; simp at h; try omega)
theorem zx_length {e f : Int32} {z : Nat} : (q_length A e f).1 = .inl z → z = 2 ∨ z = 0 := by
  unfold q_length
  repeat' split
  all_goals (intro h; simp at h; try omega)
theorem zx_proof {e : Int32} {z : Nat} : (q_proof A e).1 = .inl z → z = 2 := by
  unfold q_proof
  repeat' split
  all_goals (intro h; simp at h; try omega)
theorem zx_gets {e f : Int32} {z : Nat} : (q_gets A e f).1 = .inl z → z = 2 ∨ z = 0 := by
  unfold q_gets
  repeat' split
  all_goals (intro h; simp at h; try omega)
theorem zx_sum {e f : Int32} {z : Nat} : (q_sum A e f).1 = .inl z → z = 2 ∨ z = 0 := by
  unfold q_sum
  repeat' split
  all_goals (intro h; simp at h; try omega)
theorem zx_doubts {e : Int32} {z : Nat} : (q_doubts A e).1 = .inl z → z = 2 := by
  unfold q_doubts
  repeat' split
  all_goals (intro h; simp at h; try omega)
theorem zx_doubted {e : Int32} {z : Nat} : (q_doubted A e).1 = .inl z → z = 2 := by
  unfold q_doubted
  repeat' split
  all_goals (intro h; simp at h; try omega)
theorem zx_isFrozen {e : Int32} {z : Nat} : (q_isFrozen A e).1 = .inl z → z = 2 := by
  unfold q_isFrozen
  repeat' split
  all_goals (intro h; simp at h; try omega)
theorem zx_holds {e : Int32} {z : Nat} : (q_holds A e).1 = .inl z → z = 2 := by
  unfold q_holds
  repeat' split
  all_goals (intro h; simp at h; try omega)
end WFsec
theorem WF_0 : WF ([], [], [], []) := ⟨wf_nil, ⟨Nat.zero_le _, fun _ h => nomatch h⟩, ⟨Nat.zero_le _, fun _ h => nomatch h⟩, Nat.zero_le _, fun _ h => nomatch h⟩
theorem RM_0 : RM mW0 ([], [], [], []) := ⟨⟨rfl, fun i hi => absurd hi (Nat.not_lt_zero _), Nat.zero_le _, fun c hc => nomatch hc⟩, ⟨rfl, fun j E he => by simp at he, fun j hj => absurd hj (Nat.not_lt_zero _)⟩, ⟨rfl, fun j R he => by simp at he⟩, rfl, fun j U he => by simp at he⟩
/-- what holds between the landed program's pool and the reference's fields, ahead of each call -/
def REL (e0 x : Nat) (S : PS) (w : MW) : Prop := ∃ A : Abs, RCe e0 S x A ∧ WF A ∧ RM w A
theorem st1 {e0 x : Nat} {q : Ans} {f : Option (Int32 × MW)} {cod : Nat → Int32} (hMO : MO q f cod) (hW : WF q.2) {r : Int32} {T : PS} (h : q.1 = .inr r ∧ RCe e0 T x q.2) : ∃ w1 : MW, f = some (r, w1) ∧ fX7_thrown w1 = some 0 ∧ REL e0 x T w1 := by
  obtain ⟨r', w1, h1, h2, h3⟩ := hMO
  obtain ⟨h4, h5⟩ := h
  rw [h4] at h3
  obtain ⟨h6, h7⟩ := h3
  subst h6
  exact ⟨w1, h1, congrArg some h7, q.2, h5, hW, h2⟩
theorem st2 {e0 x : Nat} {q : Ans} {f : Option (Int32 × MW)} {cod : Nat → Int32} (hMO : MO q f cod) (hW : WF q.2) {z : Nat} {T : PS} (h : q.1 = .inl z ∧ RCe e0 T x q.2) : ∃ (r : Int32) (w1 : MW), f = some (r, w1) ∧ fX7_thrown w1 = some (cod z) ∧ REL e0 x T w1 := by
  obtain ⟨r', w1, h1, h2, h3⟩ := hMO
  obtain ⟨h4, h5⟩ := h
  rw [h4] at h3
  exact ⟨r', w1, h1, congrArg some h3, q.2, h5, hW, h2⟩
theorem CX_mono {l : Launch} {G : JG} {D : va_G} {tys : List (ClassId × FieldType)} {y : MethodName} {ws : List Cond} {rm : Room} {av : List Value} {w : va_W} {post post' : Option Value → va_W → Prop} {px px' : String → va_W → Prop} (h : CX l G D tys y ws rm av w post px) (h1 : ∀ ov w2, post ov w2 → post' ov w2) (h2 : ∀ E w2, px E w2 → px' E w2) : CX l G D tys y ws rm av w post' px' := by
  intro sz p e ha hc hk s m args below hf happ hP hK
  obtain ⟨n, o, g1, g2, g3, g4⟩ := h sz p e ha hc hk s m args below hf happ hP hK
  refine ⟨n, o, g1, g2, g3, ?_⟩
  rcases g4 with ⟨⟨⟨ov, w', a1, a2, a3⟩, a4⟩, L⟩ | ⟨q, b1, E, ce, L, ⟨⟨w', c1, c2⟩, c3⟩, b2⟩
  · exact Or.inl ⟨⟨⟨ov, w', a1, h1 _ _ a2, a3⟩, a4⟩, L⟩
  · exact Or.inr ⟨q, b1, E, ce, L, ⟨⟨w', h2 _ _ c1, c2⟩, c3⟩, b2⟩
/-- the landed program's contract in the form of the law's wrappers -/
def CQ (l : Launch) (gs : JP) (D : va_G) (tys : List (ClassId × FieldType)) (y : MethodName) (ws : List Cond) (rm : Room) (av : List Value) (cI cO : ClassId) (S : PS) (x : Nat) (q : Ans) : Prop :=
  CX l (GP gs) D tys y ws rm av (pW cI cO S) (fun ov w2 => ∃ (r : Int32) (w9 : PS), (q.1 = .inr r ∧ RCe gs.2.1 w9 x q.2) ∧ ov = some (.int r) ∧ w2 = pW cI cO w9) (fun E w2 => ∃ (z : Nat) (w9 : PS), (q.1 = .inl z ∧ RCe gs.2.1 w9 x q.2) ∧ E = exN z ∧ w2 = pW cI cO w9)
theorem CQ_inr {l : Launch} {gs : JP} {D : va_G} {tys : List (ClassId × FieldType)} {y : MethodName} {ws : List Cond} {rm : Room} {av : List Value} {cI cO : ClassId} {S T : PS} {x : Nat} {q : Ans} {r : Int32} (h : CX l (GP gs) D tys y ws rm av (pW cI cO S) (fun ov w2 => ov = some (.int r) ∧ w2 = pW cI cO T) (fun _ _ => False)) (hq : q.1 = .inr r) (hR : RCe gs.2.1 T x q.2) : CQ l gs D tys y ws rm av cI cO S x q :=
  CX_mono h (fun _ _ hh => ⟨r, T, ⟨hq, hR⟩, hh.1, hh.2⟩) (fun _ _ hh => hh.elim)
theorem CQ_inl {l : Launch} {gs : JP} {D : va_G} {tys : List (ClassId × FieldType)} {y : MethodName} {ws : List Cond} {rm : Room} {av : List Value} {cI cO : ClassId} {S T : PS} {x : Nat} {q : Ans} {z : Nat} (h : CX l (GP gs) D tys y ws rm av (pW cI cO S) (fun _ _ => False) (fun E w2 => E = exN z ∧ w2 = pW cI cO T)) (hq : q.1 = .inl z) (hR : RCe gs.2.1 T x q.2) : CQ l gs D tys y ws rm av cI cO S x q :=
  CX_mono h (fun _ _ hh => hh.elim) (fun _ _ hh => ⟨z, T, ⟨hq, hR⟩, hh.1, hh.2⟩)
