/-! the landed program: rule, audit, the constructor -/
section RCsec
variable {e0 : Nat} {S : PS} {x : Nat} {own : Nat → Nat × Nat} {g : Nat → Nat} {ad : Nat → EAd} {ra aa : Nat → Nat} {sp : List Nat} {A : Abs}
theorem needKind (k a o : Int32) : fX6_needRuleKind k a o = some (if (inB k 4 && (decide (¬ k = 2) || decide (¬ a = o))) = true then .inr () else .inl 0) := by
  unfold fX6_needRuleKind
  rcases plc (v := k) (n := 4) (by decide) with ⟨j, hj, rfl, hi, -⟩ | ⟨hno, hi⟩
  · rw [if_neg (nI_pos (by omega)), if_pos (show nI j ≤ (3 : Int32) from nI_le (b := 3) (by omega) (by decide)), hi, Bool.true_and]
    by_cases h2 : nI j = 2
    · rw [if_pos h2]
      by_cases ha : a = o
      · rw [if_pos ha]; simp [h2, ha]
      · rw [if_neg ha]; simp [ha]
    · rw [if_neg h2]; simp [h2]
  · rw [hi, Bool.false_and, show (if (false : Bool) = true then (Sum.inr () : Nat ⊕ Unit) else .inl 0) = .inl 0 from rfl]
    rcases inX_lt hno (by decide) with h0 | ⟨h0, h1, -⟩
    · rw [if_pos h0]
    · rw [if_neg h0, if_neg (show ¬ (k ≤ (3 : Int32)) from fun z => absurd (Int32.le_trans (show (4 : Int32) ≤ k from h1) z) (by decide))]
theorem needNum (k N : Int32) : fX6_needRuleNumber k N = some (if (decide (-999 ≤ N) && decide (N ≤ 999) && (decide (¬ k = 1) || decide (0 ≤ N))) = true then .inr () else .inl 0) := by
  unfold fX6_needRuleNumber fX6_needRuleNumber_J12
  by_cases hk : k = 1
  · rw [if_pos hk]
    by_cases h0 : N < 0
    · rw [if_pos h0]; simp [hk, Int32.not_le.mpr h0]
    · rw [if_neg h0]
      have h0' := Int32.not_lt.mp h0
      have hm : (-999 : Int32) ≤ N := Int32.le_trans (by decide) h0'
      by_cases h9 : N ≤ 999
      · rw [if_pos h9]; simp [h0', h9, hm]
      · rw [if_neg h9]; simp [h9]
  · rw [if_neg hk]
    by_cases h0 : N < -999
    · rw [if_pos h0]; simp [Int32.not_le.mpr h0]
    · rw [if_neg h0]
      have h0' := Int32.not_lt.mp h0
      by_cases h9 : N ≤ 999
      · rw [if_pos h9]; simp [h0', h9, hk]
      · rw [if_neg h9]; simp [h9]
theorem cw_rule {gs : JP} (h : RC gs.2.1 S x own g ad ra aa sp A) (hW : WF A) (k a o N : Int32) : CW gs.2.1 x (q_rule A k a o N) (fX6_rule gs S x k a o N) := by
  have h24 := h.n24r
  have h8 := hW.2.2.1.1
  have hE24 := h.n24
  unfold CW fX6_rule
  have hbad : okRule k a o N = false → (Sum.inl 0 = (q_rule A k a o N).1 ∧ (q_rule A k a o N).2 = A) := by
    intro hb
    unfold q_rule
    rw [if_neg (by rw [hb]; decide)]
    exact ⟨rfl, rfl⟩
  have hQx : okRule k a o N = false → ((q_rule A k a o N).1 = .inl 0 ∧ RCe gs.2.1 S x (q_rule A k a o N).2) := fun hb => ⟨(hbad hb).1.symm, by rw [(hbad hb).2]; exact h.e⟩
  rw [needKind, needAcc, needAcc, needNum]
  cases h1 : (inB k 4 && (decide (¬ k = 2) || decide (¬ a = o))) with
  | false =>
    refine Or.inl ⟨0, rfl, hQx ?_⟩
    unfold okRule
    cases hk4 : inB k 4 with
    | false => simp
    | true => rw [hk4] at h1; simp at h1; simp [h1]
  | true =>
    refine Or.inr ⟨(), rfl, ?_⟩
    simp only [Bool.and_eq_true] at h1
    cases h2 : inB a 8 with
    | false => exact Or.inl ⟨0, rfl, hQx (by unfold okRule; simp [h2])⟩
    | true =>
      refine Or.inr ⟨(), rfl, ?_⟩
      cases h3 : inB o 8 with
      | false => exact Or.inl ⟨0, rfl, hQx (by unfold okRule; simp [h3])⟩
      | true =>
        refine Or.inr ⟨(), rfl, ?_⟩
        cases h4 : (decide (-999 ≤ N) && decide (N ≤ 999) && (decide (¬ k = 1) || decide (0 ≤ N))) with
        | false =>
          refine Or.inl ⟨0, rfl, hQx ?_⟩
          unfold okRule
          rw [h1.1, h2, h3, Bool.true_and, Bool.true_and, Bool.true_and, h4, Bool.false_and]
        | true =>
          refine Or.inr ⟨(), rfl, h.x, _, h.r64, h.o7, _, h.szr, ?_⟩
          have hok : okRule k a o N = true := by
            unfold okRule
            rw [h1.1, h2, h3, Bool.true_and, Bool.true_and, Bool.true_and, h4, Bool.true_and]
            exact h1.2
          have hq : q_rule A k a o N = if A.2.2.1.length = 8 then (.inl 1, A) else (.inr (nI A.2.2.1.length), (A.1, A.2.1, A.2.2.1 ++ [(k.toNatClampNeg, a.toNatClampNeg, o.toNatClampNeg, N, false)], A.2.2.2)) := by
            unfold q_rule
            rw [if_pos hok]
          rw [hq]
          show (if nI A.2.2.1.length < (8 : Int32) then _ else _)
          by_cases hf : A.2.2.1.length = 8
          · rw [if_neg (show ¬ (nI A.2.2.1.length < (8 : Int32)) from nI_nlt (b := 8) (by omega) (by omega)), if_pos hf]
            exact ⟨rfl, h.e⟩
          · rw [if_pos (show nI A.2.2.1.length < (8 : Int32) from nI_lt (b := 8) (by omega) (by decide)), if_neg hf]
            refine ⟨h.x, _, h.r64, ?_⟩
            intro q46 hq46
            rintro z46 rfl
            obtain ⟨n1, n2⟩ := pNw_new (k := 4) hq46
            have F0 : FR (fun _ => False) S (pNw S q46 4) := FR.pNw hq46
            obtain ⟨-, k2⟩ := inB_nI2 h1.1
            obtain ⟨-, a2⟩ := inB_nI2 h2
            obtain ⟨-, o2⟩ := inB_nI2 h3
            unfold fX3_init
            refine ⟨n1, ?_⟩
            rintro w6 rfl
            refine ⟨n1, ?_⟩
            rintro w11 rfl
            refine ⟨n1, ?_⟩
            rintro w16 rfl
            refine ⟨n1, ?_⟩
            rintro w22 rfl
            obtain ⟨S2, hS2⟩ : ∃ S2, S2 = pI (pI (pI (pI (pNw S q46 4) 40 q46 k) 41 q46 a) 42 q46 o) 43 q46 N := ⟨_, rfl⟩
            have F2 : FR (fun _ => False) S S2 := by
              rw [hS2]
              exact FR.weak F0 (((FR.pI.trans FR.pI).trans FR.pI).trans FR.pI) (fun b hb hz => hq46 (hz ▸ hb))
            obtain ⟨own', ho'⟩ : ∃ own' : Nat → Nat × Nat, own' = fun z => if z = q46 then (100, A.2.2.1.length) else own z := ⟨_, rfl⟩
            have h2' := (h.rename (own' := own') (fun z hz => by rw [ho']; exact if_neg (fun y : z = q46 => hq46 (y ▸ hz)))).fresh F2
            have hR : RN S2 own' A.2.2.1.length q46 (k.toNatClampNeg, a.toNatClampNeg, o.toNatClampNeg, N, false) := by
              refine ⟨by rw [hS2]; exact n1, ?_, ?_, ?_, ?_, ?_, by rw [ho']; exact if_pos rfl⟩
              · rw [hS2, pI_Ig (by decide), pI_Ig (by decide), pI_Ig (by decide), pI_I]; exact k2
              · rw [hS2, pI_Ig (by decide), pI_Ig (by decide), pI_I]; exact a2
              · rw [hS2, pI_Ig (by decide), pI_I]; exact o2
              · rw [hS2, pI_I]
              · rw [hS2, pI_Ig (by decide), pI_Ig (by decide), pI_Ig (by decide), pI_Ig (by decide)]; exact n2 44
            rw [← hS2]
            refine ⟨h2'.o7, h2'.addR hR (by omega) (fun T2 own2 g2 ra2 h3' => ?_)⟩
            refine ⟨h3'.x, _, h3'.r64, h3'.o7, _, h3'.szr, ?_⟩
            have hl : (A.2.2.1 ++ [(k.toNatClampNeg, a.toNatClampNeg, o.toNatClampNeg, N, false)]).length = A.2.2.1.length + 1 := by simp
            show Sum.inr (nI A.2.2.1.length) = Sum.inr (nI (A.2.2.1 ++ [(k.toNatClampNeg, a.toNatClampNeg, o.toNatClampNeg, N, false)]).length - 1) ∧ _
            rw [hl, nI_pred]
            exact ⟨rfl, h3'.e⟩
theorem cw_audit {gs : JP} {n : Nat} (h : RC gs.2.1 S x own g ad ra aa sp A) (hW : WF A) (f t : Int32) (hn : 2000 < n) : CW gs.2.1 x (q_audit A f t) (fX6_audit gs n S x f t) := by
  have h24 := h.n24
  have h6 := hW.2.2.2.1
  unfold CW fX6_audit q_audit
  refine ⟨h.x, ?_⟩
  rcases plc (v := f) (show A.2.1.length < 2 ^ 31 by omega) with ⟨i, hi, rfl, hii, hic⟩ | ⟨hno, hii⟩
  · refine Or.inr ⟨(), h.needIn hi, h.x, ?_⟩
    rcases plc (v := t) (show A.2.1.length < 2 ^ 31 by omega) with ⟨j, hj, rfl, hij, hjc⟩ | ⟨hno, hij⟩
    · refine Or.inr ⟨(), h.needIn hj, ?_⟩
      rw [hii, hij, hic, hjc, if_pos (show (true && true) = true from rfl)]
      by_cases hft : nI j < nI i
      · rw [if_pos hft, if_neg (fun z => absurd (Int32.lt_of_lt_of_le hft z) Int32.lt_irrefl)]
        exact ⟨rfl, h.e⟩
      · rw [if_neg hft, if_pos (Int32.not_lt.mp hft)]
        refine ⟨h.x, _, h.r65, h.o9, _, h.sza, ?_⟩
        show (if nI A.2.2.2.length < (6 : Int32) then _ else _)
        by_cases hf : A.2.2.2.length = 6
        · rw [if_neg (show ¬ (nI A.2.2.2.length < (6 : Int32)) from nI_nlt (b := 6) (by omega) (by omega)), if_pos hf]
          exact ⟨rfl, h.e⟩
        · rw [if_pos (show nI A.2.2.2.length < (6 : Int32) from nI_lt (b := 6) (by omega) (by decide)), if_neg hf]
          refine ⟨h.x, _, h.r65, ?_⟩
          intro q51 hq51
          rintro z51 rfl
          obtain ⟨n1, n2⟩ := pNw_new (k := 1) hq51
          have F0 : FR (fun _ => False) S (pNw S q51 1) := FR.pNw hq51
          have h0 := h.fresh F0
          refine ⟨h0.x, _, h0.prf (n := n) (by omega) hj, ?_⟩
          unfold fX0_init
          refine ⟨n1, ?_⟩
          rintro w6 rfl
          refine ⟨n1, ?_⟩
          rintro w11 rfl
          refine ⟨n1, ?_⟩
          rintro w16 rfl
          obtain ⟨S2, hS2⟩ : ∃ S2, S2 = pI (pI (pI (pNw S q51 1) 10 q51 (nI i)) 11 q51 (nI j)) 12 q51 (Jvm.Pilot.CPostlintLaw_law_r3329_88fbce.prf A.2.1 j) := ⟨_, rfl⟩
          have F2 : FR (fun _ => False) S S2 := by
            rw [hS2]
            exact FR.weak F0 ((FR.pI.trans FR.pI).trans FR.pI) (fun b hb hz => hq51 (hz ▸ hb))
          obtain ⟨own', ho'⟩ : ∃ own' : Nat → Nat × Nat, own' = fun z => if z = q51 then (101, A.2.2.2.length) else own z := ⟨_, rfl⟩
          have h2' := (h.rename (own' := own') (fun z hz => by rw [ho']; exact if_neg (fun y : z = q51 => hq51 (y ▸ hz)))).fresh F2
          have hU : AN S2 own' A.2.2.2.length q51 (i, j, Jvm.Pilot.CPostlintLaw_law_r3329_88fbce.prf A.2.1 j, false) := by
            refine ⟨by rw [hS2]; exact n1, ?_, ?_, ?_, ?_, by rw [ho']; exact if_pos rfl⟩
            · rw [hS2, pI_Ig (by decide), pI_Ig (by decide), pI_I]
            · rw [hS2, pI_Ig (by decide), pI_I]
            · rw [hS2, pI_I]
            · rw [hS2, pI_Ig (by decide), pI_Ig (by decide), pI_Ig (by decide)]; exact n2 13
          rw [← hS2]
          refine ⟨h2'.o9, h2'.addA hU (by have := h.n24a; omega) (fun T2 own2 g2 aa2 h3' => ?_)⟩
          refine ⟨h3'.x, _, h3'.r65, h3'.o9, _, h3'.sza, ?_⟩
          have hl : (A.2.2.2 ++ [(i, j, Jvm.Pilot.CPostlintLaw_law_r3329_88fbce.prf A.2.1 j, false)]).length = A.2.2.2.length + 1 := by simp
          show Sum.inr (nI A.2.2.2.length) = Sum.inr (nI (A.2.2.2 ++ [(i, j, Jvm.Pilot.CPostlintLaw_law_r3329_88fbce.prf A.2.1 j, false)]).length - 1) ∧ _
          rw [hl, nI_pred]
          exact ⟨rfl, h3'.e⟩
    · refine Or.inl ⟨2, h.needOut hno, ?_⟩
      rw [hij, Bool.and_false, if_neg (by decide)]
      exact ⟨rfl, h.e⟩
  · refine Or.inl ⟨2, h.needOut hno, ?_⟩
    rw [hii, Bool.false_and, if_neg (by decide)]
    exact ⟨rfl, h.e⟩
theorem cAL {gs : JP} {S : PS} {v : Nat} {Q : PS → Prop} (ho : okP S v 0 = true) (h0 : sI S 2 v = 0) (kk : ∀ T, AL gs.2.1 T v gs.2.1 [] → FR (fun z => z = v) S T → Q T) : fJx4a65c_init_da8c8 gs S v Q := by
  unfold fJx4a65c_init_da8c8 fJxc12de_init_da8c8 fJxa1e45_init_da8c8
  refine ⟨ho, ?_⟩
  rintro w6 rfl
  refine ⟨ho, ?_⟩
  rintro w8 rfl
  exact kk _ ⟨ho, if_pos ⟨rfl, rfl⟩, h0, Nat.zero_le _, (fun _ h => nomatch h), Or.inl ⟨rfl, rfl⟩⟩ (FR.pI.trans FR.pR)
theorem c_init {gs : JP} {S : PS} {x : Nat} (ho : okP S x 6 = true) : fX6_init gs S x (fun T => RCe gs.2.1 T x ([], [], [], [])) := by
  unfold fX6_init
  have hx := (okP_in ho).1
  have e60 : (60 : Int32) = nI 60 := rfl
  have e360 : (360 : Int32) = nI 360 := rfl
  -- a new cell, and what it leaves
  intro a ha
  rintro z5 rfl
  obtain ⟨a1, a2⟩ := pNw_new (k := 5) ha
  have A0 : FR (fun z => z = x) S (pNw S a 5) := FR.pNw ha
  rw [e60]
  refine cSig a1 (a2 51) (by decide) (fun T1 aq s1 f1 q1 m1 => ?_)
  have A1 : FR (fun z => z = x) S T1 := FR.weak A0 f1 (fun b hb hz => absurd (hz ▸ hb) ha)
  have dxa : x ≠ a := fun z => ha (z ▸ hx)
  have daq : aq ∉ sL S := A0.nmem q1
  have dxaq : x ≠ aq := fun z => daq (z ▸ hx)
  refine ⟨A1.ok ho, ?_⟩
  rintro w14 rfl
  have F1 : FR (fun z => z = x) T1 (pR T1 60 x (some a)) := FR.pR
  have s1 := s1.keep F1 (fun z => dxa z.symm) (fun z => dxaq z.symm)
  have r60 : sR (pR T1 60 x (some a)) 60 x = some a := if_pos ⟨rfl, rfl⟩
  have A2 := A1.trans F1
  obtain ⟨S1, hS1⟩ : ∃ S1, S1 = pR T1 60 x (some a) := ⟨_, rfl⟩
  rw [← hS1] at s1 r60 A2 ⊢
  -- the spread row
  intro b hb
  rintro z18 rfl
  obtain ⟨b1, b2⟩ := pNw_new (k := 5) hb
  have B0 : FR (fun z => z = x) S1 (pNw S1 b 5) := FR.pNw hb
  rw [e360]
  refine cSig b1 (b2 51) (by decide) (fun T2 bq s2 f2 q2 m2 => ?_)
  have hx1 := A2.mem hx
  have dxb : x ≠ b := fun z => hb (z ▸ hx1)
  have dbq : bq ∉ sL S1 := B0.nmem q2
  have dxbq : x ≠ bq := fun z => dbq (z ▸ hx1)
  have dab : a ≠ b := fun z => hb (z ▸ (okP_in s1.ok5).1)
  have daqb : aq ≠ b := fun z => hb (z ▸ (okP_in s1.ok8).1)
  have dabq : a ≠ bq := fun z => dbq (z ▸ (okP_in s1.ok5).1)
  have daqbq : aq ≠ bq := fun z => dbq (z ▸ (okP_in s1.ok8).1)
  have B1 : FR (fun _ => False) S1 T2 := FR.weak (FR.pNw hb) f2 (fun c hc hz => hb (hz ▸ hc))
  have s1 := s1.keep B1 id id
  have r60 : sR T2 60 x = some a := (B1.getR hx1 id).trans r60
  refine ⟨B1.ok (A2.ok ho), ?_⟩
  rintro w28 rfl
  have F2 : FR (fun z => z = x) T2 (pR T2 61 x (some b)) := FR.pR
  have s1 := s1.keep F2 (fun z => dxa z.symm) (fun z => dxaq z.symm)
  have s2 := s2.keep F2 (fun z => dxb z.symm) (fun z => dxbq z.symm)
  have r60 : sR (pR T2 61 x (some b)) 60 x = some a := (pR_ne (by decide)).trans r60
  have r61 : sR (pR T2 61 x (some b)) 61 x = some b := if_pos ⟨rfl, rfl⟩
  have A3 : FR (fun z => z = x) S (pR T2 61 x (some b)) := (A2.trans (B1.mono (fun _ h => h.elim))).trans F2
  obtain ⟨S2, hS2⟩ : ∃ S2, S2 = pR T2 61 x (some b) := ⟨_, rfl⟩
  rw [← hS2] at s1 s2 r60 r61 A3 ⊢
  have hx2 := A3.mem hx
  -- the reader
  intro c hc
  rintro z32 rfl
  obtain ⟨c1, c2⟩ := pNw_new (k := 3) hc
  unfold fX2_init
  have C0 : FR (fun _ => False) S2 (pNw S2 c 3) := FR.pNw hc
  have nc : ∀ {z k : Nat}, okP S2 z k = true → z ≠ c := fun hz y => hc (y ▸ (okP_in hz).1)
  have s1 := s1.keep C0 id id
  have s2 := s2.keep C0 id id
  have r60 : sR (pNw S2 c 3) 60 x = some a := (C0.getR hx2 id).trans r60
  have r61 : sR (pNw S2 c 3) 61 x = some b := (C0.getR hx2 id).trans r61
  have dxc : x ≠ c := nc (A3.ok ho)
  have dac : a ≠ c := fun y => hc (y ▸ by
    have := (okP_in s1.ok5).1
    have h2 : a ∈ sL S2 := by
      rcases List.mem_append.mp this with h | h
      · exact h
      · exact absurd (List.mem_singleton.mp h) (okP_ne s1.ok5 c1 (by decide))
    exact h2)
  have inS2 : ∀ {z k : Nat}, okP (pNw S2 c 3) z k = true → k ≠ 3 → z ∈ sL S2 := fun {z k} hz hk => by
    rcases List.mem_append.mp (okP_in hz).1 with h | h
    · exact h
    · exact absurd (List.mem_singleton.mp h) (okP_ne hz c1 hk)
  have daqc : aq ≠ c := fun y => hc (y ▸ inS2 s1.ok8 (by decide))
  have dbc : b ≠ c := fun y => hc (y ▸ inS2 s2.ok5 (by decide))
  have dbqc : bq ≠ c := fun y => hc (y ▸ inS2 s2.ok8 (by decide))
  refine ⟨C0.ok (A3.ok ho), ?_⟩
  rintro w39 rfl
  have F3 : FR (fun z => z = x) (pNw S2 c 3) (pR (pNw S2 c 3) 62 x (some c)) := FR.pR
  have s1 := s1.keep F3 (fun z => dxa z.symm) (fun z => dxaq z.symm)
  have s2 := s2.keep F3 (fun z => dxb z.symm) (fun z => dxbq z.symm)
  have r60 : sR (pR (pNw S2 c 3) 62 x (some c)) 60 x = some a := (pR_ne (by decide)).trans r60
  have r61 : sR (pR (pNw S2 c 3) 62 x (some c)) 61 x = some b := (pR_ne (by decide)).trans r61
  have r62 : sR (pR (pNw S2 c 3) 62 x (some c)) 62 x = some c := if_pos ⟨rfl, rfl⟩
  have c1 : okP (pR (pNw S2 c 3) 62 x (some c)) c 3 = true := F3.ok c1
  have A4 : FR (fun z => z = x) S (pR (pNw S2 c 3) 62 x (some c)) := (A3.trans (C0.mono (fun _ h => h.elim))).trans F3
  obtain ⟨S3, hS3⟩ : ∃ S3, S3 = pR (pNw S2 c 3) 62 x (some c) := ⟨_, rfl⟩
  rw [← hS3] at s1 s2 r60 r61 r62 c1 A4 ⊢
  have hx3 := A4.mem hx
  have ho3 := A4.ok ho
  -- entries
  intro d hd
  rintro z43 rfl
  obtain ⟨d1, d2⟩ := pNw_new (k := 0) hd
  have D0 : FR (fun _ => False) S3 (pNw S3 d 0) := FR.pNw hd
  have nd3 : ∀ {z k : Nat}, okP S3 z k = true → z ≠ d := fun hz y => hd (y ▸ (okP_in hz).1)
  have dxd := nd3 ho3; have dad := nd3 s1.ok5; have daqd := nd3 s1.ok8; have dbd := nd3 s2.ok5; have dbqd := nd3 s2.ok8; have dcd := nd3 c1
  refine cAL d1 (d2 2) (fun T3 l1 f3 => ?_)
  have D1 : FR (fun _ => False) S3 T3 := FR.weak D0 f3 (fun q hq hz => hd (hz ▸ hq))
  refine ⟨D1.ok ho3, ?_⟩
  rintro w50 rfl
  have F4 : FR (fun z => z = x) T3 (pR T3 63 x (some d)) := FR.pR
  have s1 := (s1.keep D1 id id).keep F4 (fun z => dxa z.symm) (fun z => dxaq z.symm)
  have s2 := (s2.keep D1 id id).keep F4 (fun z => dxb z.symm) (fun z => dxbq z.symm)
  have l1 : AL gs.2.1 (pR T3 63 x (some d)) d gs.2.1 [] := l1.keep2 F4 (fun z => dxd z.symm) (fun z => absurd rfl z)
  have c1 : okP (pR T3 63 x (some d)) c 3 = true := F4.ok (D1.ok c1)
  have r60 : sR (pR T3 63 x (some d)) 60 x = some a := (pR_ne (by decide)).trans ((D1.getR hx3 id).trans r60)
  have r61 : sR (pR T3 63 x (some d)) 61 x = some b := (pR_ne (by decide)).trans ((D1.getR hx3 id).trans r61)
  have r62 : sR (pR T3 63 x (some d)) 62 x = some c := (pR_ne (by decide)).trans ((D1.getR hx3 id).trans r62)
  have r63 : sR (pR T3 63 x (some d)) 63 x = some d := if_pos ⟨rfl, rfl⟩
  have A5 : FR (fun z => z = x) S (pR T3 63 x (some d)) := (A4.trans (D1.mono (fun _ h => h.elim))).trans F4
  obtain ⟨S4, hS4⟩ : ∃ S4, S4 = pR T3 63 x (some d) := ⟨_, rfl⟩
  rw [← hS4] at s1 s2 l1 r60 r61 r62 r63 c1 A5 ⊢
  have hx4 := A5.mem hx
  have ho4 := A5.ok ho
  -- rules
  intro e he
  rintro z54 rfl
  obtain ⟨e1, e2⟩ := pNw_new (k := 0) he
  have E0 : FR (fun _ => False) S4 (pNw S4 e 0) := FR.pNw he
  have ne4 : ∀ {z k : Nat}, okP S4 z k = true → z ≠ e := fun hz y => he (y ▸ (okP_in hz).1)
  have dxe := ne4 ho4; have dae := ne4 s1.ok5; have daqe := ne4 s1.ok8; have dbe := ne4 s2.ok5; have dbqe := ne4 s2.ok8; have dce := ne4 c1; have dde := ne4 l1.1
  refine cAL e1 (e2 2) (fun T4 l2 f4 => ?_)
  have E1 : FR (fun _ => False) S4 T4 := FR.weak E0 f4 (fun q hq hz => he (hz ▸ hq))
  refine ⟨E1.ok ho4, ?_⟩
  rintro w61 rfl
  have F5 : FR (fun z => z = x) T4 (pR T4 64 x (some e)) := FR.pR
  have s1 := (s1.keep E1 id id).keep F5 (fun z => dxa z.symm) (fun z => dxaq z.symm)
  have s2 := (s2.keep E1 id id).keep F5 (fun z => dxb z.symm) (fun z => dxbq z.symm)
  have l1 : AL gs.2.1 (pR T4 64 x (some e)) d gs.2.1 [] := (l1.keep2 E1 id (fun z => absurd rfl z)).keep2 F5 (fun z => dxd z.symm) (fun z => absurd rfl z)
  have l2 : AL gs.2.1 (pR T4 64 x (some e)) e gs.2.1 [] := l2.keep2 F5 (fun z => dxe z.symm) (fun z => absurd rfl z)
  have c1 : okP (pR T4 64 x (some e)) c 3 = true := F5.ok (E1.ok c1)
  have r60 : sR (pR T4 64 x (some e)) 60 x = some a := (pR_ne (by decide)).trans ((E1.getR hx4 id).trans r60)
  have r61 : sR (pR T4 64 x (some e)) 61 x = some b := (pR_ne (by decide)).trans ((E1.getR hx4 id).trans r61)
  have r62 : sR (pR T4 64 x (some e)) 62 x = some c := (pR_ne (by decide)).trans ((E1.getR hx4 id).trans r62)
  have r63 : sR (pR T4 64 x (some e)) 63 x = some d := (pR_ne (by decide)).trans ((E1.getR hx4 id).trans r63)
  have r64 : sR (pR T4 64 x (some e)) 64 x = some e := if_pos ⟨rfl, rfl⟩
  have A6 : FR (fun z => z = x) S (pR T4 64 x (some e)) := (A5.trans (E1.mono (fun _ h => h.elim))).trans F5
  obtain ⟨S5, hS5⟩ : ∃ S5, S5 = pR T4 64 x (some e) := ⟨_, rfl⟩
  rw [← hS5] at s1 s2 l1 l2 r60 r61 r62 r63 r64 c1 A6 ⊢
  have hx5 := A6.mem hx
  have ho5 := A6.ok ho
  -- audits
  intro f hf
  rintro z65 rfl
  obtain ⟨g1, g2⟩ := pNw_new (k := 0) hf
  have G0 : FR (fun _ => False) S5 (pNw S5 f 0) := FR.pNw hf
  have nf5 : ∀ {z k : Nat}, okP S5 z k = true → z ≠ f := fun hz y => hf (y ▸ (okP_in hz).1)
  have dxf := nf5 ho5; have daf := nf5 s1.ok5; have daqf := nf5 s1.ok8; have dbf := nf5 s2.ok5; have dbqf := nf5 s2.ok8; have dcf := nf5 c1; have ddf := nf5 l1.1; have def_ := nf5 l2.1
  refine cAL g1 (g2 2) (fun T5 l3 f5 => ?_)
  have G1 : FR (fun _ => False) S5 T5 := FR.weak G0 f5 (fun q hq hz => hf (hz ▸ hq))
  refine ⟨G1.ok ho5, ?_⟩
  rintro w72 rfl
  have F6 : FR (fun z => z = x) T5 (pR T5 65 x (some f)) := FR.pR
  have s1 := (s1.keep G1 id id).keep F6 (fun z => dxa z.symm) (fun z => dxaq z.symm)
  have s2 := (s2.keep G1 id id).keep F6 (fun z => dxb z.symm) (fun z => dxbq z.symm)
  have l1 : AL gs.2.1 (pR T5 65 x (some f)) d gs.2.1 [] := (l1.keep2 G1 id (fun z => absurd rfl z)).keep2 F6 (fun z => dxd z.symm) (fun z => absurd rfl z)
  have l2 : AL gs.2.1 (pR T5 65 x (some f)) e gs.2.1 [] := (l2.keep2 G1 id (fun z => absurd rfl z)).keep2 F6 (fun z => dxe z.symm) (fun z => absurd rfl z)
  have l3 : AL gs.2.1 (pR T5 65 x (some f)) f gs.2.1 [] := l3.keep2 F6 (fun z => dxf z.symm) (fun z => absurd rfl z)
  have c1 : okP (pR T5 65 x (some f)) c 3 = true := F6.ok (G1.ok c1)
  have ne : ∀ {p : Nat → Option Nat → Prop}, True := trivial
  refine ⟨fun z => if z = x then (0, 20) else if z = a then (0, 0) else if z = aq then (0, 1) else if z = b then (0, 2) else if z = bq then (0, 3) else if z = c then (0, 4) else if z = d then (0, 5) else if z = e then (0, 7) else (0, 9), fun k => if k = 0 then a else if k = 1 then aq else if k = 2 then b else if k = 3 then bq else if k = 4 then c else if k = 5 then d else if k = 7 then e else if k = 9 then f else gs.2.1, fun _ => (0, 0, 0, 0, 0, 0), fun _ => 0, fun _ => 0, [], ⟨F6.ok (G1.ok ho5), (pR_ne (by decide)).trans ((G1.getR hx5 id).trans r60), (pR_ne (by decide)).trans ((G1.getR hx5 id).trans r61), (pR_ne (by decide)).trans ((G1.getR hx5 id).trans r62), (pR_ne (by decide)).trans ((G1.getR hx5 id).trans r63), (pR_ne (by decide)).trans ((G1.getR hx5 id).trans r64), if_pos ⟨rfl, rfl⟩, if_pos rfl⟩, ⟨s1, s2, c1⟩, ⟨l1, l2, l3⟩, fun k hk hg => ?_, fun j E he => by simp at he, fun j R hr => by simp at hr, fun j U hu => by simp at hu⟩
  match k, hk with
  | 0, _ =>
    show (if a = x then _ else if a = a then _ else _) = _
    rw [if_neg dxa.symm, if_pos rfl]
  | 1, _ =>
    show (if aq = x then _ else if aq = a then _ else if aq = aq then _ else _) = _
    rw [if_neg dxaq.symm, if_neg (okP_ne s1.ok5 s1.ok8 (by decide)).symm, if_pos rfl]
  | 2, _ =>
    show (if b = x then _ else if b = a then _ else if b = aq then _ else if b = b then _ else _) = _
    rw [if_neg dxb.symm, if_neg dab.symm, if_neg daqb.symm, if_pos rfl]
  | 3, _ =>
    show (if bq = x then _ else if bq = a then _ else if bq = aq then _ else if bq = b then _ else if bq = bq then _ else _) = _
    rw [if_neg dxbq.symm, if_neg dabq.symm, if_neg daqbq.symm, if_neg (okP_ne s2.ok5 s2.ok8 (by decide)).symm, if_pos rfl]
  | 4, _ =>
    show (if c = x then _ else if c = a then _ else if c = aq then _ else if c = b then _ else if c = bq then _ else if c = c then _ else _) = _
    rw [if_neg dxc.symm, if_neg dac.symm, if_neg daqc.symm, if_neg dbc.symm, if_neg dbqc.symm, if_pos rfl]
  | 5, _ =>
    show (if d = x then _ else if d = a then _ else if d = aq then _ else if d = b then _ else if d = bq then _ else if d = c then _ else if d = d then _ else _) = _
    rw [if_neg dxd.symm, if_neg dad.symm, if_neg daqd.symm, if_neg dbd.symm, if_neg dbqd.symm, if_neg dcd.symm, if_pos rfl]
  | 6, _ => exact (hg.elim (fun z => absurd rfl z) (fun z => absurd rfl z.1))
  | 7, _ =>
    show (if e = x then _ else if e = a then _ else if e = aq then _ else if e = b then _ else if e = bq then _ else if e = c then _ else if e = d then _ else if e = e then _ else _) = _
    rw [if_neg dxe.symm, if_neg dae.symm, if_neg daqe.symm, if_neg dbe.symm, if_neg dbqe.symm, if_neg dce.symm, if_neg dde.symm, if_pos rfl]
  | 8, _ => exact (hg.elim (fun z => absurd rfl z) (fun z => absurd rfl z.2.1))
  | 9, _ =>
    show (if f = x then _ else if f = a then _ else if f = aq then _ else if f = b then _ else if f = bq then _ else if f = c then _ else if f = d then _ else if f = e then _ else _) = _
    rw [if_neg dxf.symm, if_neg daf.symm, if_neg daqf.symm, if_neg dbf.symm, if_neg dbqf.symm, if_neg dcf.symm, if_neg ddf.symm, if_neg def_.symm]
  | 10, _ => exact (hg.elim (fun z => absurd rfl z) (fun z => absurd rfl z.2.2))
end RCsec
