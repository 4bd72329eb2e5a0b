/-! each call of the reference: rules, audits, what there is -/
section RMsec
variable {w : MW} {A : Abs}
theorem mo_rule (h : RM w A) (hW : WF A) (k a o N : Int32) : MO (q_rule A k a o N) (fX7_rule w k a o N) (fun z => if z = 0 then (1 : Int32) else if z = 1 then (2 : Int32) else 0) := by
  have h8 := hW.2.2.1.1
  have hJ67 : MO (.inl 0, A) (fX7_rule_J67 w k a o N) (fun z => if z = 0 then (1 : Int32) else if z = 1 then (2 : Int32) else 0) := by
    refine MO.inl (z := 0) (v := 1) (r := 0) (w := w) ?_ h rfl rfl
    simp only [fX7_rule_J67, fX7_rule_J68, fX7_rule_J94, if_true, isOfT (show (1 : Int32) ≠ 0 by decide), b2]
  have hJ63 : MO (if A.2.2.1.length = 8 then (.inl 1, A) else (.inr (nI A.2.2.1.length), (A.1, A.2.1, A.2.2.1 ++ [(k.toNatClampNeg, a.toNatClampNeg, o.toNatClampNeg, N, false)], A.2.2.2))) (fX7_rule_J63 w k a o N) (fun z => if z = 0 then (1 : Int32) else if z = 1 then (2 : Int32) else 0) ∨ ¬ (inB k 4 = true ∧ inB a 8 = true ∧ inB o 8 = true) := by
    by_cases hin : inB k 4 = true ∧ inB a 8 = true ∧ inB o 8 = true
    · refine Or.inl ?_
      obtain ⟨i1, i2, i3⟩ := hin
      obtain ⟨-, k2⟩ := inB_nI2 i1
      obtain ⟨-, a2⟩ := inB_nI2 i2
      obtain ⟨-, o2⟩ := inB_nI2 i3
      have h15 := h.2.2.1.1
      unfold fX7_rule_J63 fX7_rule_J68
      rw [if_neg (show ¬ ((1 : Int32) = 0) by decide), h15]
      by_cases hf : A.2.2.1.length = 8
      · rw [if_pos hf, if_pos (show nI A.2.2.1.length = (8 : Int32) by rw [hf]; rfl)]
        refine MO.inl (z := 1) (v := 2) (r := 0) (w := w) ?_ h rfl rfl
        simp only [fX7_rule_J94, isOfT (show (2 : Int32) ≠ 0 by decide), b2, if_true]
      · rw [if_neg hf, if_neg (show ¬ (nI A.2.2.1.length = (8 : Int32)) from fun z => hf ((nI_eq (b := 8) (by omega) (by decide)).mp z))]
        obtain ⟨m, hm⟩ : ∃ m, m = A.2.2.1.length := ⟨_, rfl⟩
        rw [← hm] at h15 hf h8 ⊢
        obtain ⟨w', hw⟩ : ∃ w', w' = mS (mA (mA (mA (mA (mA (mS w 0 0) 16 m k) 17 m a) 18 m o) 19 m N) 20 m 0) 15 (nI (m + 1)) := ⟨_, rfl⟩
        have f : ∀ q, (q < 16 ∨ 20 < q) → w'.2 q = w.2 q := fun q hq => by
          rw [hw]
          show (if q = 20 then _ else if q = 19 then _ else if q = 18 then _ else if q = 17 then _ else if q = 16 then _ else w.2 q) = _
          rw [if_neg (by omega), if_neg (by omega), if_neg (by omega), if_neg (by omega), if_neg (by omega)]
        have f16 : w'.2 16 = upd (w.2 16) m k := by rw [hw]; rfl
        have f17 : w'.2 17 = upd (w.2 17) m a := by rw [hw]; rfl
        have f18 : w'.2 18 = upd (w.2 18) m o := by rw [hw]; rfl
        have f19 : w'.2 19 = upd (w.2 19) m N := by rw [hw]; rfl
        have f20 : w'.2 20 = upd (w.2 20) m 0 := by rw [hw]; rfl
        have f1 : ∀ q, q ≠ 15 → q ≠ 0 → w'.1 q = w.1 q := fun q q1 q2 => by rw [hw]; show (if q = 15 then _ else if q = 0 then _ else w.1 q) = _; rw [if_neg q1, if_neg q2]
        obtain ⟨⟨d1, d2, d3⟩, ⟨e2, e3, e4⟩, ⟨-, r2⟩, u1, u2⟩ := h
        refine ⟨nI m, w', ?_, ⟨⟨by rw [f1 1 (by decide) (by decide)]; exact d1, by rw [f 2 (by decide)]; exact d2, d3⟩, ⟨by rw [f1 3 (by decide) (by decide)]; exact e2, fun j E he => (e3 j E he).keep (fun q x y => f q (by omega)), by rw [f 14 (by decide)]; exact e4⟩, ⟨?_, fun j R hr => ?_⟩, by rw [f1 21 (by decide) (by decide)]; exact u1, fun j U hu => (u2 j U hu).keep (fun q x y => f q (by omega))⟩, rfl, by rw [hw]; rfl⟩
        · unfold fX7_rule_J94
          rw [isOf0]
          simp only [b2]
          have e15 : (mS w 0 0).1 15 = nI m := h15
          have hb0 : b01 (0 : Int32) = true := by decide
          have j16 := inB_nI (show m < mLen 16 from (by show m < 8; omega)) (by decide)
          have j17 := inB_nI (show m < mLen 17 from (by show m < 8; omega)) (by decide)
          have j18 := inB_nI (show m < mLen 18 from (by show m < 8; omega)) (by decide)
          have j19 := inB_nI (show m < mLen 19 from (by show m < 8; omega)) (by decide)
          have j20 := inB_nI (show m < mLen 20 from (by show m < 8; omega)) (by decide)
          rw [if_neg (show ¬ ((1 : Int32) = 0) by decide)]
          simp only [mA_1, e15, chk, bnd, j16, j17, j18, j19, j20, hb0, nI_clamp (show m < 2 ^ 31 by omega), nI_1]
          rw [← hw]
          have : w'.1 15 = nI (m + 1) := by rw [hw]; rfl
          rw [this, nI_pred]
        · rw [List.length_append, ← hm, hw]
          rfl
        · by_cases hj : j < A.2.2.1.length
          · rw [List.getElem?_append_left hj] at hr
            obtain ⟨s1, s2, s3, s4, s5⟩ := r2 j R hr
            exact ⟨by rw [f16, upd_ne (by omega)]; exact s1, by rw [f17, upd_ne (by omega)]; exact s2, by rw [f18, upd_ne (by omega)]; exact s3, by rw [f19, upd_ne (by omega)]; exact s4, by rw [f20, upd_ne (by omega)]; exact s5⟩
          · rw [List.getElem?_append_right (by omega)] at hr
            have hj0 : j = m := by
              rcases Nat.eq_zero_or_pos (j - A.2.2.1.length) with h | h
              · omega
              · rw [List.getElem?_eq_none (by simp; omega)] at hr; cases hr
            subst hj0
            rw [← hm, Nat.sub_self] at hr
            injection hr with hr
            subst hr
            exact ⟨by rw [f16, upd_at]; exact k2, by rw [f17, upd_at]; exact a2, by rw [f18, upd_at]; exact o2, by rw [f19, upd_at], by rw [f20, upd_at]; rfl⟩
    · exact Or.inr hin
  unfold fX7_rule q_rule okRule
  rw [isIn4, isIn8, isIn8]
  simp only [bP]
  cases h1 : inB k 4 with
  | false => rw [if_pos (show b2i false = (0 : Int32) from rfl)]; simpa using hJ67
  | true =>
    rw [if_neg (show ¬ (b2i true = (0 : Int32)) by decide)]
    cases h2 : inB a 8 with
    | false => rw [if_pos (show b2i false = (0 : Int32) from rfl)]; simpa using hJ67
    | true =>
      rw [if_neg (show ¬ (b2i true = (0 : Int32)) by decide)]
      cases h3 : inB o 8 with
      | false => rw [if_pos (show b2i false = (0 : Int32) from rfl)]; simpa using hJ67
      | true =>
        rw [if_neg (show ¬ (b2i true = (0 : Int32)) by decide)]
        have hJ := hJ63.resolve_right (fun z => z ⟨h1, h2, h3⟩)
        have hisN : fX7_isIn N (-999 : Int32) (999 : Int32) = some (b2i (decide (-999 ≤ N) && decide (N ≤ 999))) := by
          unfold fX7_isIn
          by_cases n1 : N < -999
          · rw [if_pos n1, decide_eq_false (Int32.not_le.mpr n1)]; rfl
          · rw [if_neg n1, decide_eq_true (Int32.not_lt.mp n1)]
            by_cases n2 : 999 < N
            · rw [if_pos n2, decide_eq_false (Int32.not_le.mpr n2)]; rfl
            · rw [if_neg n2, decide_eq_true (Int32.not_lt.mp n2)]; rfl
        rw [hisN]
        simp only [Bool.true_and]
        cases hN : (decide (-999 ≤ N) && decide (N ≤ 999)) with
        | false => rw [if_pos (show b2i false = (0 : Int32) from rfl)]; simpa using hJ67
        | true =>
          rw [if_neg (show ¬ (b2i true = (0 : Int32)) by decide)]
          have hJ53 : MO (if (decide (¬ k = 2) || decide (¬ a = o)) = true then (if A.2.2.1.length = 8 then (.inl 1, A) else (.inr (nI A.2.2.1.length), (A.1, A.2.1, A.2.2.1 ++ [(k.toNatClampNeg, a.toNatClampNeg, o.toNatClampNeg, N, false)], A.2.2.2))) else (.inl 0, A)) (fX7_rule_J53 w k a o N) (fun z => if z = 0 then (1 : Int32) else if z = 1 then (2 : Int32) else 0) := by
            unfold fX7_rule_J53
            by_cases hk2 : k = 2
            · rw [if_pos hk2]
              by_cases hao : a = o
              · rw [if_pos hao, if_neg (by simp [hk2, hao])]; exact hJ67
              · rw [if_neg hao, if_pos (by simp [hao])]; exact hJ
            · rw [if_neg hk2, if_pos (by simp [hk2])]; exact hJ
          by_cases hk1 : k = 1
          · rw [if_pos hk1]
            by_cases hN0 : N < 0
            · rw [if_pos hN0, if_neg (by simp [hk1, Int32.not_le.mpr hN0])]; exact hJ67
            · rw [if_neg hN0]
              have e : (true && (decide (¬ k = 1) || decide (0 ≤ N)) && (decide (¬ k = 2) || decide (¬ a = o))) = (decide (¬ k = 2) || decide (¬ a = o)) := by
                rw [decide_eq_true (Int32.not_lt.mp hN0), Bool.or_true, Bool.true_and, Bool.true_and]
              rw [e]; exact hJ53
          · rw [if_neg hk1]
            have e : (true && (decide (¬ k = 1) || decide (0 ≤ N)) && (decide (¬ k = 2) || decide (¬ a = o))) = (decide (¬ k = 2) || decide (¬ a = o)) := by
              rw [decide_eq_true hk1, Bool.true_or, Bool.true_and, Bool.true_and]
            rw [e]; exact hJ53
theorem mo_takeBack {n : Nat} (h : RM w A) (hW : WF A) (v : Int32) (hn : 2000 < n) : MO (q_takeBack A v) (fX7_takeBack n w v) (fun z => if z = 2 then (1 : Int32) else if z = 1 then (2 : Int32) else 0) := by
  have h8 := hW.2.2.1.1
  unfold fX7_takeBack q_takeBack
  rw [h.isR hW]
  simp only [bP]
  cases hi : inB v A.2.2.1.length with
  | false =>
    rw [if_pos (show b2i false = (0 : Int32) from rfl), if_neg (by decide)]
    refine MO.inl (z := 2) (v := 1) (r := 0) (w := w) ?_ h rfl rfl
    simp only [fX7_takeBack_J29, isOfT (show (1 : Int32) ≠ 0 by decide), b2, if_true]
  | true =>
    rw [if_neg (show ¬ (b2i true = (0 : Int32)) by decide), if_pos rfl]
    obtain ⟨hjl, hv⟩ := inB_nI2 hi
    obtain ⟨j, hj⟩ : ∃ j, j = v.toNatClampNeg := ⟨_, rfl⟩
    rw [← hj] at hjl hv ⊢
    have hold : rulI A v = A.2.2.1.getD j (0, 0, 0, 0, false) := by unfold rulI; rw [← hj]
    have hm := h.mr hjl
    rw [← hold] at hm
    have i20 : inB v (mLen 20) = true := by rw [hv]; exact inB_nI (show j < 8 by omega) (by decide)
    rw [i20, hm.2.2.2.2]
    simp only [chk]
    cases hb : (rulI A v).2.2.2.2 with
    | true =>
      rw [if_neg (show ¬ (b2i true = (0 : Int32)) by decide), if_pos rfl]
      refine MO.inl (z := 1) (v := 2) (r := 0) (w := w) ?_ h rfl rfl
      simp only [fX7_takeBack_J29, isOfT (show (2 : Int32) ≠ 0 by decide), b2, if_true]
    | false =>
      rw [if_pos (show b2i false = (0 : Int32) from rfl), if_neg (by decide)]
      have h2' := h.thr 0
      have hc := h2'.cdb (n := n) hW (by omega) hjl
      rw [← hold, ← hv] at hc
      obtain ⟨w', hw⟩ : ∃ w', w' = mA (mS w 0 0) 20 j 1 := ⟨_, rfl⟩
      have f20 : w'.2 20 = upd (w.2 20) j 1 := by rw [hw]; rfl
      have f : ∀ q, q ≠ 20 → w'.2 q = w.2 q := fun q hq => by rw [hw]; exact if_neg hq
      have f1 : w'.1 = (mS w 0 0).1 := by rw [hw]; rfl
      obtain ⟨⟨d1, d2, d3⟩, ⟨e2, e3, e4⟩, ⟨r1, r2⟩, u1, u2⟩ := h2'
      refine ⟨cdb A.2.1 (rulI A v), w', ?_, ⟨⟨by rw [f1]; exact d1, by rw [f 2 (by decide)]; exact d2, d3⟩, ⟨by rw [f1]; exact e2, fun i E he => (e3 i E he).keep (fun q x y => f q (by omega)), by rw [f 14 (by decide)]; exact e4⟩, ⟨by rw [f1, List.length_set]; exact r1, fun i R hr => ?_⟩, by rw [f1]; exact u1, fun i U hu => (u2 i U hu).keep (fun q x y => f q (by omega))⟩, rfl, by rw [f1]; rfl⟩
      · unfold fX7_takeBack_J29
        rw [isOf0]
        simp only [b2]
        rw [if_neg (show ¬ ((1 : Int32) = 0) by decide), hc]
        simp only [bP, i20, show b01 (1 : Int32) = true by decide, chk, bnd]
        rw [← hj, ← hw]
      · rw [List.getElem?_set] at hr
        by_cases hij : j = i
        · subst hij
          rw [if_pos rfl, if_pos hjl] at hr
          injection hr with hr
          subst hr
          exact ⟨by rw [f 16 (by decide)]; exact hm.1, by rw [f 17 (by decide)]; exact hm.2.1, by rw [f 18 (by decide)]; exact hm.2.2.1, by rw [f 19 (by decide)]; exact hm.2.2.2.1, by rw [f20, upd_at]; rfl⟩
        · rw [if_neg hij] at hr
          obtain ⟨s1, s2, s3, s4, s5⟩ := r2 i R hr
          exact ⟨by rw [f 16 (by decide)]; exact s1, by rw [f 17 (by decide)]; exact s2, by rw [f 18 (by decide)]; exact s3, by rw [f 19 (by decide)]; exact s4, by rw [f20, upd_ne (by omega)]; exact s5⟩
theorem mo_audit (h : RM w A) (hW : WF A) (f t : Int32) : MO (q_audit A f t) (fX7_audit w f t) (fun z => if z = 2 then (1 : Int32) else if z = 0 then (2 : Int32) else if z = 1 then (3 : Int32) else 0) := by
  have h24 := hW.2.1.1
  have h6 := hW.2.2.2.1
  have hJ17 : MO (.inl 2, A) (fX7_audit_J17 w f t) (fun z => if z = 2 then (1 : Int32) else if z = 0 then (2 : Int32) else if z = 1 then (3 : Int32) else 0) := by
    refine MO.inl (z := 2) (v := 1) (r := 0) (w := w) ?_ h rfl rfl
    simp only [fX7_audit_J17, fX7_audit_J44, isOfT (show (1 : Int32) ≠ 0 by decide), b2, if_true]
  unfold fX7_audit q_audit
  rw [h.isE hW, h.isE hW]
  simp only [bP]
  cases hi : inB f A.2.1.length with
  | false => rw [if_pos (show b2i false = (0 : Int32) from rfl), Bool.false_and, if_neg (by decide)]; exact hJ17
  | true =>
    rw [if_neg (show ¬ (b2i true = (0 : Int32)) by decide), Bool.true_and]
    cases hi2 : inB t A.2.1.length with
    | false => rw [if_pos (show b2i false = (0 : Int32) from rfl), if_neg (by decide)]; exact hJ17
    | true =>
      rw [if_neg (show ¬ (b2i true = (0 : Int32)) by decide), if_pos rfl]
      obtain ⟨hal, hv⟩ := inB_nI2 hi
      obtain ⟨hbl, hv2⟩ := inB_nI2 hi2
      obtain ⟨a, ha⟩ : ∃ a, a = f.toNatClampNeg := ⟨_, rfl⟩
      obtain ⟨b, hb⟩ : ∃ b, b = t.toNatClampNeg := ⟨_, rfl⟩
      rw [← ha] at hal hv ⊢
      rw [← hb] at hbl hv2 ⊢
      by_cases hft : t < f
      · rw [if_pos hft, if_neg (fun z => absurd (Int32.lt_of_lt_of_le hft z) Int32.lt_irrefl)]
        refine MO.inl (z := 0) (v := 2) (r := 0) (w := w) ?_ h rfl rfl
        simp only [fX7_audit_J44, isOfT (show (2 : Int32) ≠ 0 by decide), b2, if_true]
      · rw [if_neg hft, if_pos (Int32.not_lt.mp hft), h.2.2.2.1]
        by_cases hfl : A.2.2.2.length = 6
        · rw [if_pos hfl, if_pos (show nI A.2.2.2.length = (6 : Int32) by rw [hfl]; rfl)]
          refine MO.inl (z := 1) (v := 3) (r := 0) (w := w) ?_ h rfl rfl
          simp only [fX7_audit_J44, isOfT (show (3 : Int32) ≠ 0 by decide), b2, if_true]
        · rw [if_neg hfl, if_neg (show ¬ (nI A.2.2.2.length = (6 : Int32)) from fun z => hfl ((nI_eq (b := 6) (by omega) (by decide)).mp z))]
          have h2' := h.thr 0
          obtain ⟨m, hm⟩ : ∃ m, m = A.2.2.2.length := ⟨_, rfl⟩
          have h21 : w.1 21 = nI m := by rw [hm]; exact h.2.2.2.1
          rw [← hm] at hfl h6 ⊢
          have hp14 := h.2.1.2.2 b hbl
          obtain ⟨w', hw⟩ : ∃ w', w' = mS (mA (mA (mA (mA (mS w 0 0) 22 m f) 23 m t) 24 m (prf A.2.1 b)) 25 m 0) 21 (nI (m + 1)) := ⟨_, rfl⟩
          have g : ∀ q, (q < 22 ∨ 25 < q) → w'.2 q = w.2 q := fun q hq => by
            rw [hw]
            show (if q = 25 then _ else if q = 24 then _ else if q = 23 then _ else if q = 22 then _ else w.2 q) = _
            rw [if_neg (by omega), if_neg (by omega), if_neg (by omega), if_neg (by omega)]
          have g22 : w'.2 22 = upd (w.2 22) m f := by rw [hw]; rfl
          have g23 : w'.2 23 = upd (w.2 23) m t := by rw [hw]; rfl
          have g24 : w'.2 24 = upd (w.2 24) m (prf A.2.1 b) := by rw [hw]; rfl
          have g25 : w'.2 25 = upd (w.2 25) m 0 := by rw [hw]; rfl
          have g1 : ∀ q, q ≠ 21 → q ≠ 0 → w'.1 q = w.1 q := fun q q1 q2 => by rw [hw]; show (if q = 21 then _ else if q = 0 then _ else w.1 q) = _; rw [if_neg q1, if_neg q2]
          obtain ⟨⟨d1, d2, d3⟩, ⟨e2, e3, e4⟩, ⟨r1, r2⟩, u1, u2⟩ := h
          refine ⟨nI m, w', ?_, ⟨⟨by rw [g1 1 (by decide) (by decide)]; exact d1, by rw [g 2 (by decide)]; exact d2, d3⟩, ⟨by rw [g1 3 (by decide) (by decide)]; exact e2, fun j E he => (e3 j E he).keep (fun q x y => g q (by omega)), by rw [g 14 (by decide)]; exact e4⟩, ⟨by rw [g1 15 (by decide) (by decide)]; exact r1, fun j R hr => (r2 j R hr).keep (fun q x y => g q (by omega))⟩, ?_, fun j U hu => ?_⟩, rfl, by rw [hw]; rfl⟩
          · unfold fX7_audit_J44
            rw [isOf0]
            simp only [b2]
            have e21 : (mS w 0 0).1 21 = nI m := h21
            have e14 : (mA (mA (mS w 0 0) 22 m f) 23 m t).2 14 b = prf A.2.1 b := hp14
            have hb0 : b01 (0 : Int32) = true := by decide
            have j22 := inB_nI (show m < mLen 22 from (by show m < 6; omega)) (by decide)
            have j23 := inB_nI (show m < mLen 23 from (by show m < 6; omega)) (by decide)
            have j24 := inB_nI (show m < mLen 24 from (by show m < 6; omega)) (by decide)
            have j25 := inB_nI (show m < mLen 25 from (by show m < 6; omega)) (by decide)
            have j14 : inB t (mLen 14) = true := by rw [hv2]; exact inB_nI (show b < 24 by omega) (by decide)
            rw [if_neg (show ¬ ((1 : Int32) = 0) by decide)]
            simp only [mA_1, e21, chk, bnd, j22, j23, j24, j25, j14, hb0, nI_clamp (show m < 2 ^ 31 by omega), nI_1, ← hb, e14]
            rw [← hw]
            have : w'.1 21 = nI (m + 1) := by rw [hw]; rfl
            rw [this, nI_pred]
          · rw [List.length_append, ← hm, hw]
            rfl
          · by_cases hj : j < A.2.2.2.length
            · rw [List.getElem?_append_left hj] at hu
              obtain ⟨s1, s2, s3, s4⟩ := u2 j U hu
              exact ⟨by rw [g22, upd_ne (by omega)]; exact s1, by rw [g23, upd_ne (by omega)]; exact s2, by rw [g24, upd_ne (by omega)]; exact s3, by rw [g25, upd_ne (by omega)]; exact s4⟩
            · rw [List.getElem?_append_right (by omega)] at hu
              have hj0 : j = m := by
                rcases Nat.eq_zero_or_pos (j - A.2.2.2.length) with h | h
                · omega
                · rw [List.getElem?_eq_none (by simp; omega)] at hu; cases hu
              subst hj0
              rw [← hm, Nat.sub_self] at hu
              injection hu with hu
              subst hu
              exact ⟨by rw [g22, upd_at]; exact hv, by rw [g23, upd_at]; exact hv2, by rw [g24, upd_at], by rw [g25, upd_at]; rfl⟩
theorem hld_eq (U : Aud) : (if prf A.2.1 U.2.1 = U.2.2.1 then chk (b01 (1 : Int32)) (some ((1 : Int32), w)) else chk (b01 (0 : Int32)) (some ((0 : Int32), w))) = some (hld A U, w) := by
  unfold hld
  by_cases hc : prf A.2.1 U.2.1 = U.2.2.1
  · rw [if_pos hc, if_pos hc]; rfl
  · rw [if_neg hc, if_neg hc]; rfl
theorem mo_end (h : RM w A) (hW : WF A) (v : Int32) : MO (q_end A v) (fX7_end w v) (fun z => if z = 2 then (1 : Int32) else if z = 1 then (2 : Int32) else 0) := by
  have h6 := hW.2.2.2.1
  have h24 := hW.2.1.1
  unfold fX7_end q_end
  rw [h.isA hW]
  simp only [bP]
  cases hi : inB v A.2.2.2.length with
  | false =>
    rw [if_pos (show b2i false = (0 : Int32) from rfl), if_neg (by decide)]
    refine MO.inl (z := 2) (v := 1) (r := 0) (w := w) ?_ h rfl rfl
    simp only [fX7_end_J29, isOfT (show (1 : Int32) ≠ 0 by decide), b2, if_true, show b01 (0 : Int32) = true by decide, chk]
  | true =>
    rw [if_neg (show ¬ (b2i true = (0 : Int32)) by decide), if_pos rfl]
    obtain ⟨hjl, hv⟩ := inB_nI2 hi
    obtain ⟨j, hj⟩ : ∃ j, j = v.toNatClampNeg := ⟨_, rfl⟩
    rw [← hj] at hjl hv ⊢
    have hold : audI A v = A.2.2.2.getD j (0, 0, 0, false) := by unfold audI; rw [← hj]
    have hm := h.mu hjl
    have hU := hW.2.2.2.2 _ (List.mem_of_getElem? (getU hjl))
    rw [← hold] at hm hU
    have i25 : inB v (mLen 25) = true := by rw [hv]; exact inB_nI (show j < 6 by omega) (by decide)
    have i23 : inB v (mLen 23) = true := by rw [hv]; exact inB_nI (show j < 6 by omega) (by decide)
    have i24 : inB v (mLen 24) = true := by rw [hv]; exact inB_nI (show j < 6 by omega) (by decide)
    rw [i25, hm.2.2.2]
    simp only [chk]
    cases hb : (audI A v).2.2.2 with
    | true =>
      rw [if_neg (show ¬ (b2i true = (0 : Int32)) by decide), if_pos rfl]
      refine MO.inl (z := 1) (v := 2) (r := 0) (w := w) ?_ h rfl rfl
      simp only [fX7_end_J29, isOfT (show (2 : Int32) ≠ 0 by decide), b2, if_true, show b01 (0 : Int32) = true by decide, chk]
    | false =>
      rw [if_pos (show b2i false = (0 : Int32) from rfl), if_neg (by decide)]
      have h2' := h.thr 0
      obtain ⟨w', hw⟩ : ∃ w', w' = mA (mS w 0 0) 25 j 1 := ⟨_, rfl⟩
      have f25 : w'.2 25 = upd (w.2 25) j 1 := by rw [hw]; rfl
      have f : ∀ q, q ≠ 25 → w'.2 q = w.2 q := fun q hq => by rw [hw]; exact if_neg hq
      have f1 : w'.1 = (mS w 0 0).1 := by rw [hw]; rfl
      have hp14 := h.2.1.2.2 _ hU.2
      obtain ⟨⟨d1, d2, d3⟩, ⟨e2, e3, e4⟩, ⟨r1, r2⟩, u1, u2⟩ := h2'
      refine ⟨hld A (audI A v), w', ?_, ⟨⟨by rw [f1]; exact d1, by rw [f 2 (by decide)]; exact d2, d3⟩, ⟨by rw [f1]; exact e2, fun i E he => (e3 i E he).keep (fun q x y => f q (by omega)), by rw [f 14 (by decide)]; exact e4⟩, ⟨by rw [f1]; exact r1, fun i R hr => (r2 i R hr).keep (fun q x y => f q (by omega))⟩, by rw [f1, List.length_set]; exact u1, fun i U hu => ?_⟩, rfl, by rw [f1]; rfl⟩
      · unfold fX7_end_J29
        rw [isOf0]
        simp only [b2]
        have e23 : w'.2 23 j = nI (audI A v).2.1 := by rw [f 23 (by decide)]; exact hm.2.1
        have e24 : w'.2 24 j = (audI A v).2.2.1 := by rw [f 24 (by decide)]; exact hm.2.2.1
        have e14 : w'.2 14 (audI A v).2.1 = prf A.2.1 (audI A v).2.1 := by rw [f 14 (by decide)]; exact hp14
        rw [if_neg (show ¬ ((1 : Int32) = 0) by decide), i25, ← hj]
        simp only [chk, show b01 (1 : Int32) = true by decide, bnd]
        rw [← hw, i23, e23, inB_nI (show (audI A v).2.1 < mLen 14 from (by show _ < 24; omega)) (by decide), i24, nI_clamp (show (audI A v).2.1 < 2 ^ 31 by omega), e14, e24]
        exact hld_eq (w := w') (audI A v)
      · rw [List.getElem?_set] at hu
        by_cases hij : j = i
        · subst hij
          rw [if_pos rfl, if_pos hjl] at hu
          injection hu with hu
          subst hu
          exact ⟨by rw [f 22 (by decide)]; exact hm.1, by rw [f 23 (by decide)]; exact hm.2.1, by rw [f 24 (by decide)]; exact hm.2.2.1, by rw [f25, upd_at]; rfl⟩
        · rw [if_neg hij] at hu
          obtain ⟨s1, s2, s3, s4⟩ := u2 i U hu
          exact ⟨by rw [f 22 (by decide)]; exact s1, by rw [f 23 (by decide)]; exact s2, by rw [f 24 (by decide)]; exact s3, by rw [f25, upd_ne (by omega)]; exact s4⟩
theorem mo_holds (h : RM w A) (hW : WF A) (v : Int32) : MO (q_holds A v) (fX7_holds w v) (fun z => if z = 2 then (1 : Int32) else 0) := by
  have h6 := hW.2.2.2.1
  have h24 := hW.2.1.1
  unfold fX7_holds q_holds
  rw [h.isA hW]
  simp only [bP]
  cases hi : inB v A.2.2.2.length with
  | false =>
    rw [if_pos (show b2i false = (0 : Int32) from rfl), if_neg (by decide)]
    refine MO.inl (z := 2) (v := 1) (r := 0) (w := w) ?_ h rfl rfl
    simp only [fX7_holds_J14, isOfT (show (1 : Int32) ≠ 0 by decide), b2, if_true, show b01 (0 : Int32) = true by decide, chk]
  | true =>
    rw [if_neg (show ¬ (b2i true = (0 : Int32)) by decide), if_pos rfl]
    obtain ⟨hjl, hv⟩ := inB_nI2 hi
    obtain ⟨j, hj⟩ : ∃ j, j = v.toNatClampNeg := ⟨_, rfl⟩
    rw [← hj] at hjl hv
    have hold : audI A v = A.2.2.2.getD j (0, 0, 0, false) := by unfold audI; rw [← hj]
    have hm := h.mu hjl
    have hU := hW.2.2.2.2 _ (List.mem_of_getElem? (getU hjl))
    rw [← hold] at hm hU
    have i23 : inB v (mLen 23) = true := by rw [hv]; exact inB_nI (show j < 6 by omega) (by decide)
    have i24 : inB v (mLen 24) = true := by rw [hv]; exact inB_nI (show j < 6 by omega) (by decide)
    have hp14 := h.2.1.2.2 _ hU.2
    refine MO.inr (w := w) ?_ h rfl
    unfold fX7_holds_J14
    rw [isOf0]
    simp only [b2]
    have e23 : (mS w 0 0).2 23 j = nI (audI A v).2.1 := hm.2.1
    have e24 : (mS w 0 0).2 24 j = (audI A v).2.2.1 := hm.2.2.1
    have e14 : (mS w 0 0).2 14 (audI A v).2.1 = prf A.2.1 (audI A v).2.1 := hp14
    rw [if_neg (show ¬ ((1 : Int32) = 0) by decide), i23, ← hj, e23, inB_nI (show (audI A v).2.1 < mLen 14 from (by show _ < 24; omega)) (by decide), i24, nI_clamp (show (audI A v).2.1 < 2 ^ 31 by omega), e14, e24]
    simp only [chk]
    exact hld_eq (w := mS w 0 0) (audI A v)
theorem mo_proof (h : RM w A) (hW : WF A) (v : Int32) : MO (q_proof A v) (fX7_proof w v) (fun z => if z = 2 then (1 : Int32) else 0) := by
  have h24 := hW.2.1.1
  unfold fX7_proof q_proof
  rw [h.isE hW]
  simp only [bP]
  cases hi : inB v A.2.1.length with
  | false =>
    rw [if_pos (show b2i false = (0 : Int32) from rfl), if_neg (by decide)]
    refine MO.inl (z := 2) (v := 1) (r := 0) (w := w) ?_ h rfl rfl
    simp only [fX7_proof_J14, isOfT (show (1 : Int32) ≠ 0 by decide), b2, if_true]
  | true =>
    rw [if_neg (show ¬ (b2i true = (0 : Int32)) by decide), if_pos rfl]
    obtain ⟨hjl, hv⟩ := inB_nI2 hi
    refine MO.inr (w := w) ?_ h rfl
    have i14 : inB v (mLen 14) = true := by
      obtain ⟨j, hj⟩ : ∃ j, j = v.toNatClampNeg := ⟨_, rfl⟩
      rw [← hj] at hjl hv
      rw [hv]; exact inB_nI (show j < 24 by omega) (by decide)
    have hp : (mS w 0 0).2 14 v.toNatClampNeg = prf A.2.1 v.toNatClampNeg := h.2.1.2.2 _ hjl
    unfold fX7_proof_J14
    rw [isOf0]
    simp only [b2]
    rw [if_neg (show ¬ ((1 : Int32) = 0) by decide), i14, hp]
    rfl
theorem mo_proofAnew (h : RM w A) (hW : WF A) (v : Int32) : MO (q_proof A v) (fX7_proofAnew w v) (fun z => if z = 2 then (1 : Int32) else 0) := by
  obtain ⟨r, w1, k1, k2, k3⟩ := mo_proof h hW v
  refine ⟨r, w1, ?_, k2, k3⟩
  unfold fX7_proofAnew
  rw [k1]
  rfl
theorem mo_gets {n : Nat} (h : RM w A) (hW : WF A) (e a : Int32) (hn : 2000 < n) : MO (q_gets A e a) (fX7_gets n w e a) (fun z => if z = 2 then (1 : Int32) else if z = 0 then (2 : Int32) else 0) := by
  have h24 := hW.2.1.1
  unfold fX7_gets q_gets
  rw [h.isE hW]
  simp only [bP]
  cases hi : inB e A.2.1.length with
  | false =>
    rw [if_pos (show b2i false = (0 : Int32) from rfl), if_neg (by decide)]
    refine MO.inl (z := 2) (v := 1) (r := 0) (w := w) ?_ h rfl rfl
    simp only [fX7_gets_J28, isOfT (show (1 : Int32) ≠ 0 by decide), b2, if_true]
  | true =>
    rw [if_neg (show ¬ (b2i true = (0 : Int32)) by decide), if_pos rfl, isIn8]
    simp only []
    cases hi2 : inB a 8 with
    | false =>
      rw [if_pos (show b2i false = (0 : Int32) from rfl), if_neg (by decide)]
      refine MO.inl (z := 0) (v := 2) (r := 0) (w := w) ?_ h rfl rfl
      simp only [fX7_gets_J28, isOfT (show (2 : Int32) ≠ 0 by decide), b2, if_true]
    | true =>
      rw [if_neg (show ¬ (b2i true = (0 : Int32)) by decide), if_pos rfl]
      obtain ⟨hjl, hv⟩ := inB_nI2 hi
      obtain ⟨hal, hv2⟩ := inB_nI2 hi2
      refine MO.inr (w := w) ?_ h rfl
      have hg := (h.thr 0).me hjl |>.got (n := n) (by omega) (hW.ent hjl) hal (by omega)
      rw [← hv, ← hv2] at hg
      unfold fX7_gets_J28
      rw [isOf0]
      simp only [b2]
      rw [if_neg (show ¬ ((1 : Int32) = 0) by decide), hg]
      rfl
theorem mo_sum {n : Nat} (h : RM w A) (hW : WF A) (e a : Int32) (hn : 2000 < n) : MO (q_sum A e a) (fX7_sum n w e a) (fun z => if z = 2 then (1 : Int32) else if z = 0 then (2 : Int32) else 0) := by
  have h24 := hW.2.1.1
  have hJ18 : ∀ m, m ≤ A.2.1.length → e = nI m - 1 → MO (if inB a 8 = true then (.inr (smU a.toNatClampNeg 0 (A.2.1.take m)), A) else (.inl 0, A)) (fX7_sum_J18 n w e a) (fun z => if z = 2 then (1 : Int32) else if z = 0 then (2 : Int32) else 0) := by
    intro m hm hem
    unfold fX7_sum_J18
    rw [isIn8]
    simp only [bP]
    cases hi2 : inB a 8 with
    | false =>
      rw [if_pos (show b2i false = (0 : Int32) from rfl), if_neg (by decide)]
      refine MO.inl (z := 0) (v := 2) (r := 0) (w := w) ?_ h rfl rfl
      simp only [fX7_sum_J33, isOfT (show (2 : Int32) ≠ 0 by decide), b2, if_true]
    | true =>
      rw [if_neg (show ¬ (b2i true = (0 : Int32)) by decide), if_pos rfl]
      obtain ⟨hal, hv2⟩ := inB_nI2 hi2
      refine MO.inr (w := w) ?_ h rfl
      have hg := (h.thr 0).smU (n := n) hW hm hem hal (by omega)
      rw [← hv2] at hg
      unfold fX7_sum_J33
      rw [isOf0]
      simp only [b2]
      rw [if_neg (show ¬ ((1 : Int32) = 0) by decide), hg]
      rfl
  unfold fX7_sum q_sum
  by_cases he : e = -1
  · rw [if_pos he, if_pos (by simp [he]), if_pos he]
    exact hJ18 0 (Nat.zero_le _) (by rw [he]; rfl)
  · rw [if_neg he, if_neg he, h.isE hW]
    simp only [bP]
    cases hi : inB e A.2.1.length with
    | false =>
      rw [if_pos (show b2i false = (0 : Int32) from rfl), if_neg (by simp [he])]
      refine MO.inl (z := 2) (v := 1) (r := 0) (w := w) ?_ h rfl rfl
      simp only [fX7_sum_J33, isOfT (show (1 : Int32) ≠ 0 by decide), b2, if_true]
    | true =>
      rw [if_neg (show ¬ (b2i true = (0 : Int32)) by decide), if_pos (by simp)]
      obtain ⟨hjl, hv⟩ := inB_nI2 hi
      refine hJ18 _ hjl ?_
      rw [nI_pred]
      exact hv
theorem mo_doubts {n : Nat} (h : RM w A) (hW : WF A) (e : Int32) (hn : 2000 < n) : MO (q_doubts A e) (fX7_doubts n w e) (fun z => if z = 2 then (1 : Int32) else 0) := by
  have h8 := hW.2.2.1.1
  unfold fX7_doubts q_doubts
  rw [h.isE hW]
  simp only [bP]
  cases hi : inB e A.2.1.length with
  | false =>
    rw [if_pos (show b2i false = (0 : Int32) from rfl), if_neg (by decide)]
    refine MO.inl (z := 2) (v := 1) (r := 0) (w := w) ?_ h rfl rfl
    simp only [fX7_doubts_J14, isOfT (show (1 : Int32) ≠ 0 by decide), b2, if_true]
  | true =>
    rw [if_neg (show ¬ (b2i true = (0 : Int32)) by decide), if_pos rfl]
    obtain ⟨hjl, hv⟩ := inB_nI2 hi
    refine MO.inr (w := w) ?_ h rfl
    have hl := RM.dbsL (n := n) (h.thr 0) hW (by omega) hjl A.2.2.1.length 0 n 0 (by omega) (by omega)
    have e0 : nI 0 = (0 : Int32) := nI_0
    rw [e0, ← hv] at hl
    unfold fX7_doubts_J14
    rw [isOf0]
    simp only [b2]
    rw [if_neg (show ¬ ((1 : Int32) = 0) by decide), hl]
    rfl
theorem mo_doubted {n : Nat} (h : RM w A) (hW : WF A) (v : Int32) (hn : 2000 < n) : MO (q_doubted A v) (fX7_doubted n w v) (fun z => if z = 2 then (1 : Int32) else 0) := by
  unfold fX7_doubted q_doubted
  rw [h.isR hW]
  simp only [bP]
  cases hi : inB v A.2.2.1.length with
  | false =>
    rw [if_pos (show b2i false = (0 : Int32) from rfl), if_neg (by decide)]
    refine MO.inl (z := 2) (v := 1) (r := 0) (w := w) ?_ h rfl rfl
    simp only [fX7_doubted_J14, isOfT (show (1 : Int32) ≠ 0 by decide), b2, if_true]
  | true =>
    rw [if_neg (show ¬ (b2i true = (0 : Int32)) by decide), if_pos rfl]
    obtain ⟨hjl, hv⟩ := inB_nI2 hi
    refine MO.inr (w := w) ?_ h rfl
    have hc := (h.thr 0).cdb (n := n) hW (by omega) hjl
    rw [← hv] at hc
    unfold fX7_doubted_J14
    rw [isOf0]
    simp only [b2]
    rw [if_neg (show ¬ ((1 : Int32) = 0) by decide), hc]
    rfl
theorem mo_isFrozen {n : Nat} (h : RM w A) (hW : WF A) (v : Int32) (hn : 2000 < n) : MO (q_isFrozen A v) (fX7_isFrozen n w v) (fun z => if z = 2 then (1 : Int32) else 0) := by
  have h24 := hW.2.1.1
  unfold fX7_isFrozen q_isFrozen
  rw [h.isE hW]
  simp only [bP]
  cases hi : inB v A.2.1.length with
  | false =>
    rw [if_pos (show b2i false = (0 : Int32) from rfl), if_neg (by decide)]
    refine MO.inl (z := 2) (v := 1) (r := 0) (w := w) ?_ h rfl rfl
    simp only [fX7_isFrozen_J14, isOfT (show (1 : Int32) ≠ 0 by decide), b2, if_true, show b01 (0 : Int32) = true by decide, chk]
  | true =>
    rw [if_neg (show ¬ (b2i true = (0 : Int32)) by decide), if_pos rfl]
    obtain ⟨hjl, hv⟩ := inB_nI2 hi
    refine MO.inr (w := w) ?_ h rfl
    have hz := (h.thr 0).frz (n := n) hW (j := v.toNatClampNeg) (by omega) (by omega)
    rw [← hv] at hz
    unfold fX7_isFrozen_J14
    rw [isOf0]
    simp only [b2]
    rw [if_neg (show ¬ ((1 : Int32) = 0) by decide), hz]
    simp only [bP]
    cases frz A.2.2.2 v.toNatClampNeg <;> rfl
end RMsec
