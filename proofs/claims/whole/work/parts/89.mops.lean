/-! each call of the reference answers and leaves what it should -/
def MO (q : Ans) (f : Option (Int32 × MW)) (cod : Nat → Int32) : Prop := ∃ (r : Int32) (w1 : MW), f = some (r, w1) ∧ RM w1 q.2 ∧ (match q.1 with | .inl z => w1.1 0 = cod z | .inr r' => r = r' ∧ w1.1 0 = 0)
theorem MO.inl {q : Ans} {f : Option (Int32 × MW)} {cod : Nat → Int32} {r : Int32} {w : MW} {z : Nat} {v : Int32} (hf : f = some (r, mS w 0 v)) (hR : RM w q.2) (hq : q.1 = .inl z) (hv : v = cod z) : MO q f cod := ⟨r, _, hf, hR.thr v, by rw [hq]; exact hv⟩
theorem MO.inr {q : Ans} {f : Option (Int32 × MW)} {cod : Nat → Int32} {r : Int32} {w : MW} (hf : f = some (r, mS w 0 0)) (hR : RM w q.2) (hq : q.1 = .inr r) : MO q f cod := ⟨r, _, hf, hR.thr 0, by rw [hq]; exact ⟨rfl, rfl⟩⟩
section RMsec
variable {w : MW} {A : Abs}
theorem RM_prv {n : Nat} {w : MW} {d : List Nat} {es : List Ent} {rs : List Rul} {us : List Aud} (hd : mDraft w d) (h3 : w.1 3 = nI es.length) (h24 : es.length ≤ 24) (hE : ∀ j E, es[j]? = some E → ME w j E ∧ E.2.1.length ≤ 60) (hr : w.1 15 = nI rs.length ∧ ∀ j R, rs[j]? = some R → MR w j R) (hu : w.1 21 = nI us.length ∧ ∀ j U, us[j]? = some U → MU w j U) (hn : 60 < n) : ∃ w2, fX7_proves n w = some w2 ∧ RM w2 (d, es, rs, us) ∧ w2.1 = w.1 := by
  obtain ⟨w2, k1, k2, k3, k4⟩ := mProves (n := n) h3 h24 hE hn
  obtain ⟨d1, d2, d3⟩ := hd
  refine ⟨w2, k1, ⟨⟨by rw [k2]; exact d1, by rw [k3 2 (by decide)]; exact d2, d3⟩, ⟨by rw [k2]; exact h3, fun j E he => (hE j E he).1.keep (fun q a b => by rcases Nat.eq_or_lt_of_le a with h | h; exact k3 q (by omega); exact k3 q (by omega)), k4⟩, ⟨by rw [k2]; exact hr.1, fun j R h => (hr.2 j R h).keep (fun q a b => k3 q (by omega))⟩, by rw [k2]; exact hu.1, fun j U h => (hu.2 j U h).keep (fun q a b => k3 q (by omega))⟩, k2⟩
theorem RM_lay {n : Nat} {w : MW} {d W : List Nat} {ps : List Pst} {es : List Ent} {rs : List Rul} {us : List Aud} {j : Nat} (hd : mDraft w d) (hR : RDN w W ps) (hW : W.length ≤ 60) (hps : ps.length ≤ 15) (h3 : w.1 3 = nI es.length) (h24 : es.length ≤ 24) (hj : es[j]? = some (d, W, ps, false)) (hE : ∀ i E, i ≠ j → es[i]? = some E → ME w i E ∧ E.1.length ≤ 60 ∧ E.2.1.length ≤ 60 ∧ E.2.2.1.length ≤ 15) (hr : w.1 15 = nI rs.length ∧ ∀ j R, rs[j]? = some R → MR w j R) (hu : w.1 21 = nI us.length ∧ ∀ j U, us[j]? = some U → MU w j U) (hn : 100 < n) : ∃ w1 w2, fX7_lays n w (nI j) = some w1 ∧ fX7_proves n w1 = some w2 ∧ RM w2 ([], es, rs, us) ∧ w2.1 = (mS w 1 0).1 := by
  have hj24 : j < es.length := (List.getElem?_eq_some_iff.mp hj).1
  obtain ⟨w1, k1, k2, k3, k4, k5⟩ := mLays (n := n) (j := j) hd hR hW hps (by omega) hn
  have f1 : ∀ q, q ≠ 1 → w1.1 q = w.1 q := fun q hq => by rw [k4]; exact if_neg hq
  obtain ⟨w2, p1, p2, p3⟩ := RM_prv (n := n) (w := w1) (d := []) (es := es) (rs := rs) (us := us) ⟨by rw [k4]; rfl, fun i hi => absurd hi (Nat.not_lt_zero _), by decide, fun c hc => nomatch hc⟩ (by rw [f1 3 (by decide)]; exact h3) h24 (fun i E he => by
    by_cases hij : i = j
    · subst hij
      rw [hj] at he
      injection he with he
      subst he
      exact ⟨k2, hW⟩
    · obtain ⟨a, b, c, e⟩ := hE i E hij he
      exact ⟨k3 i E hij b c e a, c⟩) ⟨by rw [f1 15 (by decide)]; exact hr.1, fun j R h => (hr.2 j R h).keep (fun q a b => k5 q (by omega))⟩ ⟨by rw [f1 21 (by decide)]; exact hu.1, fun j U h => (hu.2 j U h).keep (fun q a b => k5 q (by omega))⟩ (by omega)
  exact ⟨w1, w2, k1, p1, p2, p3.trans k4⟩
theorem WF.el (hW : WF A) {i : Nat} {E : Ent} (h : A.2.1[i]? = some E) : E.1.length ≤ 60 ∧ E.2.1.length ≤ 60 ∧ E.2.2.1.length ≤ 15 := by
  obtain ⟨w1, w2, w3, w4, w5, w6, w7, w8, w9, w10, w11⟩ := hW.2.1.2 E (List.mem_of_getElem? h)
  exact ⟨w3, w4, w10⟩
theorem mo_type (h : RM w A) (hW : WF A) (v : Int32) : MO (q_type A v) (fX7_type w v) (fun z => if z = 0 then (1 : Int32) else if z = 1 then (2 : Int32) else 0) := by
  obtain ⟨d1, d2, d3, d4⟩ := h.1
  unfold fX7_type fX7_isIn q_type
  have hb0 : b01 (0 : Int32) = true := by decide
  have hb1 : b01 (1 : Int32) = true := by decide
  by_cases hr : v < 32 ∨ 126 < v
  · rw [if_pos hr]
    refine MO.inl (z := 0) (v := 1) (r := 0) (w := w) ?_ h rfl rfl
    have : (if v < 32 then chk (b01 (0 : Int32)) (some (0 : Int32)) else if 126 < v then chk (b01 (0 : Int32)) (some (0 : Int32)) else chk (b01 (1 : Int32)) (some (1 : Int32))) = some 0 := by
      by_cases h1 : v < 32
      · rw [if_pos h1, hb0]; rfl
      · rw [if_neg h1, if_pos (hr.resolve_left h1), hb0]; rfl
    rw [this]
    simp only [bP, if_true, fX7_type_J30, isOfT (show (1 : Int32) ≠ 0 by decide), b2]
  · have h1 : ¬ v < 32 := fun z => hr (Or.inl z)
    have h2 : ¬ 126 < v := fun z => hr (Or.inr z)
    rw [if_neg hr, if_neg h1, if_neg h2, hb1]
    simp only [chk, bP]
    rw [if_neg (show ¬ ((1 : Int32) = 0) by decide), d1]
    by_cases hf : A.1.length = 60
    · rw [if_pos hf, if_pos (show nI A.1.length = (60 : Int32) by rw [hf]; rfl)]
      refine MO.inl (z := 1) (v := 2) (r := 0) (w := w) ?_ h rfl rfl
      simp only [fX7_type_J30, isOfT (show (2 : Int32) ≠ 0 by decide), b2, if_true]
    · rw [if_neg hf, if_neg (show ¬ (nI A.1.length = (60 : Int32)) from fun z => hf ((nI_eq (b := 60) (by omega) (by decide)).mp z))]
      have hv0 : ¬ v < 0 := fun z => h1 (Int32.lt_trans z (by decide))
      obtain ⟨c, hc, rfl⟩ := nI_of hv0
      have hc32 : 32 ≤ c := Nat.le_of_not_lt (fun z => h1 (show nI c < nI 32 from nI_lt z (by decide)))
      have hc126 : c < 127 := by
        have : ¬ 126 < c := fun z => h2 (show nI 126 < nI c from nI_lt z hc)
        omega
      have e1 : (mS w 0 0).1 1 = nI A.1.length := d1
      have e1' : ∀ x, (mA (mS w 0 0) 2 A.1.length x).1 1 = nI A.1.length := fun _ => d1
      have hl : (A.1 ++ [c]).length = A.1.length + 1 := by simp
      refine ⟨nI (A.1.length + 1), mS (mA (mS w 0 0) 2 A.1.length (nI c)) 1 (nI (A.1.length + 1)), ?_, ?_, rfl, rfl⟩
      · simp only [fX7_type_J30, isOf0, b2]
        rw [if_neg (show ¬ ((1 : Int32) = 0) by decide), e1, inB_nI (show A.1.length < mLen 2 from (by show A.1.length < 60; omega)) (by decide), nI_clamp (show A.1.length < 2 ^ 31 by omega)]
        simp only [chk, bnd, e1', nI_1]
        rfl
      · rw [nI_clamp hc]
        obtain ⟨-, ⟨e2, e3, e4⟩, ⟨r1, r2⟩, u1, u2⟩ := h
        refine ⟨⟨by rw [hl]; rfl, fun i hi => ?_, (by show (A.1 ++ [c]).length ≤ 60; omega), fun z hz => ?_⟩, ⟨e2, fun j E he => (e3 j E he).keep (fun k a b => by show (if k = 2 then _ else w.2 k) = _; rw [if_neg (by omega)]), e4⟩, ⟨r1, fun j R hr => (r2 j R hr).keep (fun k a b => by show (if k = 2 then _ else w.2 k) = _; rw [if_neg (by omega)])⟩, u1, fun j U hu => (u2 j U hu).keep (fun k a b => by show (if k = 2 then _ else w.2 k) = _; rw [if_neg (by omega)])⟩
        · show upd (w.2 2) A.1.length (nI c) i = _
          rw [hl] at hi
          rw [getD_snocN hi]
          by_cases hil : i < A.1.length
          · rw [if_pos hil, upd_ne (by omega)]; exact d2 i hil
          · have : i = A.1.length := by omega
            subst this
            rw [if_neg hil, upd_at]
        · rcases List.mem_append.mp hz with hz | hz
          · exact d4 z hz
          · rw [List.mem_singleton.mp hz]; omega
theorem mo_clear (h : RM w A) : MO (q_clear A) (fX7_clear w) (fun _ => 0) := by
  obtain ⟨⟨d1, d2, d3, d4⟩, ⟨e2, e3, e4⟩, ⟨r1, r2⟩, u1, u2⟩ := h
  refine ⟨nI A.1.length, mS (mS w 0 0) 1 0, ?_, ⟨⟨rfl, fun i hi => absurd hi (Nat.not_lt_zero _), Nat.zero_le _, fun c hc => nomatch hc⟩, ⟨e2, e3, e4⟩, ⟨r1, r2⟩, u1, u2⟩, rfl, rfl⟩
  unfold fX7_clear
  simp only [bnd]
  have : (mS w 0 0).1 1 = nI A.1.length := d1
  rw [this]
theorem mo_fault {n : Nat} (h : RM w A) (hn : 60 < n) : MO (q_fault A) (fX7_fault n w) (fun _ => 0) := by
  refine MO.inr (w := w) ?_ h rfl
  unfold fX7_fault
  simp only [bnd]
  rw [mFault (n := n) (h.thr 0).1 hn]
  rfl
theorem mo_entries (h : RM w A) : MO (q_entries A) (fX7_entries w) (fun _ => 0) := by
  refine MO.inr (w := w) ?_ h rfl
  unfold fX7_entries
  simp only [bnd]
  have : (mS w 0 0).1 3 = nI A.2.1.length := h.2.1.1
  rw [this]
theorem b2i_ne {b : Bool} (h : b = true) : ¬ b2i b = 0 := by rw [h]; decide
theorem mo_post {n : Nat} (h : RM w A) (hW : WF A) (hn : 2000 < n) : MO (q_post A) (fX7_post n w) (fun z => if z = 1 then (1 : Int32) else 0) := by
  obtain ⟨w2, k1, k2, k3⟩ := mCan (n := n) h.1 hn
  have h2 := h.keepF k2
  have h24 := hW.2.1.1
  unfold fX7_post q_post
  rw [k1]
  simp only [b2]
  have hJ21 : MO (.inl 1, A) (fX7_post_J21 n w2) (fun z => if z = 1 then (1 : Int32) else 0) := by
    refine MO.inl (z := 1) (v := 1) (r := 0) (w := w2) ?_ h2 rfl rfl
    simp only [fX7_post_J21, fX7_post_J22, isOfT (show (1 : Int32) ≠ 0 by decide), b2, if_true]
  cases hb : bad A.1 (nwE A.1).2.2.1 with
  | true =>
    rw [if_pos (show b2i (!true) = (0 : Int32) from rfl), Bool.or_true, if_pos rfl]
    exact hJ21
  | false =>
    rw [if_neg (show ¬ (b2i (!false) = (0 : Int32)) by decide), Bool.or_false, h2.2.1.1]
    by_cases hfull : 24 ≤ A.2.1.length
    · rw [if_pos (show (24 : Int32) ≤ nI A.2.1.length from nI_le (a := 24) hfull (by omega)), if_pos (decide_eq_true hfull)]
      exact hJ21
    · rw [if_neg (show ¬ ((24 : Int32) ≤ nI A.2.1.length) from nI_ge (b := 24) (by omega) (by decide)), if_neg (by simp; omega)]
      have hrd := k3 hb
      have hf : xFault A.1 = none := by
        simp only [bad, Bool.or_eq_false_iff, decide_eq_false_iff_not] at hb
        exact Decidable.not_not.mp hb.1
      have hLV := (mReads (n := n) h.1 hf hn)
      obtain ⟨-, -, -, -, hLV⟩ := hLV
      obtain ⟨s1, s2, s3⟩ := nwE_small hW.1.1 hLV
      have h2' := h2.thr 0
      obtain ⟨w3, hw3⟩ : ∃ w3, w3 = mS (mS w2 0 0) 3 (nI (A.2.1.length + 1)) := ⟨_, rfl⟩
      have hl : (A.2.1 ++ [nwE A.1]).length = A.2.1.length + 1 := by simp
      have hRD : RDN w3 (nwE A.1).2.1 (nwE A.1).2.2.1 := by rw [hw3]; exact hrd
      obtain ⟨w4, w5, p1, p2, p3, p4⟩ := RM_lay (n := n) (w := w3) (d := A.1) (es := A.2.1 ++ [nwE A.1]) (rs := A.2.2.1) (us := A.2.2.2) (j := A.2.1.length) (by rw [hw3]; exact h2'.1) hRD s3 s2 (by rw [hw3, hl]; rfl) (by rw [hl]; omega) (by rw [List.getElem?_append_right (Nat.le_refl _), Nat.sub_self]; rfl) (fun i E hij he => by
        have hil : i < A.2.1.length := by
          have := (List.getElem?_eq_some_iff.mp he).1
          rw [hl] at this
          omega
        rw [List.getElem?_append_left hil] at he
        exact ⟨by rw [hw3]; exact h2'.2.1.2.1 i E he, hW.el he⟩) (by rw [hw3]; exact h2'.2.2.1) (by rw [hw3]; exact h2'.2.2.2) (by omega)
      refine ⟨nI A.2.1.length, w5, ?_, p3, rfl, by rw [p4, hw3]; rfl⟩
      simp only [fX7_post_J22, isOf0, b2]
      rw [if_neg (show ¬ ((1 : Int32) = 0) by decide)]
      have e3 : (mS w2 0 0).1 3 = nI A.2.1.length := h2.2.1.1
      have e4 : w3.1 3 = nI (A.2.1.length + 1) := by rw [hw3]; rfl
      have e5 : w5.1 3 = nI (A.2.1.length + 1) := by rw [p4]; exact e4
      simp only [bnd, e3, nI_1, ← hw3, e4, nI_pred, p1, bP, p2, e5]
theorem mo_write {n : Nat} (h : RM w A) (hW : WF A) (v : Int32) (hn : 2000 < n) : MO (q_write A v) (fX7_write n w v) (fun z => if z = 2 then (1 : Int32) else if z = 1 then (2 : Int32) else 0) := by
  have h24 := hW.2.1.1
  have hb0 : b01 (0 : Int32) = true := by decide
  unfold fX7_write q_write
  rw [h.isE hW]
  simp only [bP]
  cases hi : inB v A.2.1.length with
  | false =>
    rw [if_pos (show b2i false = (0 : Int32) from rfl), if_neg (by decide)]
    refine MO.inl (z := 2) (v := 1) (r := 0) (w := w) ?_ h rfl rfl
    simp only [fX7_write_J21, fX7_write_J22, fX7_write_J39, fX7_write_J40, fX7_write_J73, if_true, show b2i false = (0 : Int32) from rfl, isOfT (show (1 : Int32) ≠ 0 by decide), b2, hb0, chk]
  | true =>
    rw [if_neg (show ¬ (b2i true = (0 : Int32)) by decide), if_pos rfl]
    obtain ⟨hjl, hv⟩ := inB_nI2 hi
    obtain ⟨j, hj⟩ : ∃ j, j = v.toNatClampNeg := ⟨_, rfl⟩
    rw [← hj] at hjl hv
    obtain ⟨w2, k1, k2, k3⟩ := mCan (n := n) h.1 hn
    have h2 := h.keepF k2
    rw [k1]
    simp only [b2]
    have hJ68 : ∀ t0, MO (.inl 1, A) (fX7_write_J68 n w2 v t0) (fun z => if z = 2 then (1 : Int32) else if z = 1 then (2 : Int32) else 0) := by
      intro t0
      refine MO.inl (z := 1) (v := 2) (r := 0) (w := w2) ?_ h2 rfl rfl
      simp only [fX7_write_J68, fX7_write_J73, isOfT (show (2 : Int32) ≠ 0 by decide), b2, if_true, hb0, chk]
    have hb1 : b2i true = (1 : Int32) := rfl
    cases hb : bad A.1 (nwE A.1).2.2.1 with
    | true =>
      rw [if_pos (show b2i (!true) = (0 : Int32) from rfl), if_pos rfl]
      unfold fX7_write_J21 fX7_write_J22 fX7_write_J39 fX7_write_J40
      rw [if_pos rfl, if_neg (show ¬ (b2i true = (0 : Int32)) by decide), if_pos rfl]
      exact hJ68 _
    | false =>
      rw [if_neg (show ¬ (b2i (!false) = (0 : Int32)) by decide), if_neg (by decide)]
      have hrd := k3 hb
      have hf : xFault A.1 = none := by
        simp only [bad, Bool.or_eq_false_iff, decide_eq_false_iff_not] at hb
        exact Decidable.not_not.mp hb.1
      obtain ⟨-, -, -, -, hLV⟩ := (mReads (n := n) h.1 hf hn)
      obtain ⟨s1, s2, s3⟩ := nwE_small hW.1.1 hLV
      have hc60 : cnt (nwE A.1).2.2.1 ≤ 60 := by
        simp only [bad, Bool.or_eq_false_iff, decide_eq_false_iff_not] at hb
        omega
      have hWE := WE_new hW.1.2 hW.1.1 hf rfl hLV hc60
      have hold : entI A v = A.2.1.getD j ([], [], [], false) := by unfold entI; rw [← hj]
      have hWEo := hW.ent hjl
      have hMEo := h2.me hjl
      have hoth := mOther (n := n) hMEo (by omega) hrd.1 hrd.2.1 (fun c hc => (hWE.2.1 c hc).2) (fun c hc => (hWEo.2.1 c hc).2) s3 hWEo.2.2.2.1 (by omega)
      rw [← hold] at hoth
      -- the draft becomes the entry's text
      have hJ72 : ∀ b : Bool, b = decide ((nwE A.1).2.1 ≠ (entI A v).2.1) → MO (.inr (b2i b), ([], A.2.1.set j (nwE A.1), A.2.2)) (fX7_write_J72 n w2 v (b2i b)) (fun z => if z = 2 then (1 : Int32) else if z = 1 then (2 : Int32) else 0) := by
        intro b _
        have h2' := h2.thr 0
        obtain ⟨w4, w5, p1, p2, p3, p4⟩ := RM_lay (n := n) (w := mS w2 0 0) (d := A.1) (es := A.2.1.set j (nwE A.1)) (rs := A.2.2.1) (us := A.2.2.2) (j := j) h2'.1 hrd s3 s2 (by rw [List.length_set]; exact h2'.2.1.1) (by rw [List.length_set]; exact h24) (by rw [List.getElem?_set, if_pos rfl, if_pos hjl]; rfl) (fun i E hij he => by
          rw [List.getElem?_set, if_neg (fun z => hij z.symm)] at he
          exact ⟨h2'.2.1.2.1 i E he, hW.el he⟩) h2'.2.2.1 h2'.2.2.2 (by omega)
        refine ⟨b2i b, w5, ?_, p3, rfl, by rw [p4]; rfl⟩
        unfold fX7_write_J72 fX7_write_J73
        rw [isOf0]
        simp only [b2]
        rw [if_neg (show ¬ ((1 : Int32) = 0) by decide), hv, p1]
        simp only [bP, p2, b2i_01, chk]
      unfold fX7_write_J22
      rw [if_neg (show ¬ ((1 : Int32) = 0) by decide)]
      have hv' : fX7_isOther n w2 v = some (b2i (decide ((nwE A.1).2.1 ≠ (entI A v).2.1))) := by rw [hv]; rw [hv] at hoth; exact hoth
      rw [hv']
      simp only [bP]
      rw [← hj]
      cases ho : decide ((nwE A.1).2.1 ≠ (entI A v).2.1) with
      | false =>
        rw [if_pos (show b2i false = (0 : Int32) from rfl), Bool.false_and, if_neg (by decide)]
        unfold fX7_write_J39 fX7_write_J40
        rw [if_neg (show ¬ (b2i true = (0 : Int32)) by decide), if_neg (show ¬ ((1 : Int32) = 0) by decide), if_pos rfl]
        exact hJ72 false ho.symm
      | true =>
        rw [if_neg (show ¬ (b2i true = (0 : Int32)) by decide), Bool.true_and]
        unfold fX7_write_J40
        rw [if_neg (show ¬ (b2i true = (0 : Int32)) by decide), if_neg (show ¬ ((1 : Int32) = 0) by decide), if_neg (show ¬ ((1 : Int32) = 0) by decide)]
        have hfz := h2.frz (n := n) hW (j := j) (by omega) (by omega)
        rw [← hv] at hfz
        rw [hfz]
        simp only [bP]
        cases hz : frz A.2.2.2 j with
        | false =>
          rw [if_pos (show b2i false = (0 : Int32) from rfl), if_neg (by decide)]
          exact hJ72 true ho.symm
        | true =>
          rw [if_neg (show ¬ (b2i true = (0 : Int32)) by decide), if_pos rfl]
          exact hJ68 _
theorem mStrL {n : Nat} (h : RM w A) (hW : WF A) : ∀ (r : List Ent) (i k : Nat) (s : Int32), A.2.1.drop i = r → i ≤ 30 → r.length < k → fX7_strike_L104 n k w s (nI i) = some (r.foldl (fun s E => if E.2.2.2 = true then s else s + 1) s) := by
  have h24 := hW.2.1.1
  intro r
  induction r with
  | nil =>
    intro i k s hdr hi hk
    obtain ⟨k, rfl⟩ : ∃ k', k = k' + 1 := ⟨k - 1, by simp at hk; omega⟩
    unfold fX7_strike_L104
    rw [h.2.1.1, if_pos (nI_le (ldnil hdr) (by omega))]
    rfl
  | cons E r ih =>
    intro i k s hdr hi hk
    obtain ⟨k, rfl⟩ : ∃ k', k = k' + 1 := ⟨k - 1, by simp at hk; omega⟩
    obtain ⟨hlt, hg, hdr2⟩ := ldrop hdr
    simp only [List.length_cons] at hk
    have hm := (h.2.1.2.1 i E hg).1
    unfold fX7_strike_L104
    rw [h.2.1.1, if_neg (nI_ge hlt (by omega)), inB_nI (show i < mLen 4 from (by show i < 24; omega)) (by decide), nI_clamp (show i < 2 ^ 31 by omega), hm]
    simp only [chk, bnd, nI_1, Int32.add_zero]
    rw [List.foldl_cons]
    cases E.2.2.2 with
    | true =>
      rw [if_neg (show ¬ (b2i true = (0 : Int32)) by decide)]
      exact ih (i + 1) k _ hdr2 (by omega) (by omega)
    | false =>
      rw [if_pos (show b2i false = (0 : Int32) from rfl)]
      exact ih (i + 1) k _ hdr2 (by omega) (by omega)
theorem WE_str : WE strE := by
  refine ⟨by decide, by decide, by decide, by decide, ⟨⟨(fun h => nomatch h), (fun h => nomatch h)⟩, trivial⟩, fun _ => ⟨rfl, rfl, rfl⟩, (fun h => nomatch h), rfl, by decide, by decide, fun p hp => nomatch hp⟩
theorem mem_set_of {α : Type} {L : List α} {j : Nat} {x y : α} (h : y ∈ L.set j x) : y ∈ L ∨ y = x := List.mem_or_eq_of_mem_set h
theorem WF_set (hW : WF A) {j : Nat} {E : Ent} (hE : WE E) {d : List Nat} (hd : d.length ≤ 60 ∧ ∀ c ∈ d, 32 ≤ c ∧ c < 127) : WF (d, A.2.1.set j E, A.2.2) := by
  obtain ⟨a, ⟨b1, b2⟩, c, e1, e2⟩ := hW
  refine ⟨hd, ⟨by rw [List.length_set]; exact b1, fun y hy => ?_⟩, c, e1, fun U hU => ?_⟩
  · rcases mem_set_of hy with h | h
    · exact b2 y h
    · rw [h]; exact hE
  · rw [List.length_set]; exact e2 U hU
theorem mo_strike {n : Nat} (h : RM w A) (hW : WF A) (v : Int32) (hn : 2000 < n) : MO (q_strike A v) (fX7_strike n w v) (fun z => if z = 2 then (1 : Int32) else if z = 1 then (2 : Int32) else 0) := by
  have h24 := hW.2.1.1
  unfold fX7_strike q_strike
  rw [h.isE hW]
  simp only [bP]
  cases hi : inB v A.2.1.length with
  | false =>
    rw [if_pos (show b2i false = (0 : Int32) from rfl), if_neg (by decide)]
    refine MO.inl (z := 2) (v := 1) (r := 0) (w := w) ?_ h rfl rfl
    simp only [fX7_strike_J37, isOfT (show (1 : Int32) ≠ 0 by decide), b2, if_true]
  | true =>
    rw [if_neg (show ¬ (b2i true = (0 : Int32)) by decide), if_pos rfl]
    obtain ⟨hjl, hv⟩ := inB_nI2 hi
    obtain ⟨j, hj⟩ : ∃ j, j = v.toNatClampNeg := ⟨_, rfl⟩
    rw [← hj] at hjl hv ⊢
    have hold : entI A v = A.2.1.getD j ([], [], [], false) := by unfold entI; rw [← hj]
    have hMEo := h.me hjl
    rw [← hold] at hMEo
    have i4 : inB v (mLen 4) = true := by rw [hv]; exact inB_nI (show j < 24 by omega) (by decide)
    have hJ32 : MO (.inl 1, A) (fX7_strike_J32 n w v) (fun z => if z = 2 then (1 : Int32) else if z = 1 then (2 : Int32) else 0) := by
      refine MO.inl (z := 1) (v := 2) (r := 0) (w := w) ?_ h rfl rfl
      simp only [fX7_strike_J32, fX7_strike_J37, isOfT (show (2 : Int32) ≠ 0 by decide), b2, if_true]
    rw [i4, hMEo.1]
    simp only [chk]
    cases hs : (entI A v).2.2.2 with
    | true =>
      rw [if_neg (show ¬ (b2i true = (0 : Int32)) by decide), Bool.true_or, if_pos rfl]
      exact hJ32
    | false =>
      rw [if_pos (show b2i false = (0 : Int32) from rfl), Bool.false_or]
      have hfz := h.frz (n := n) hW (j := j) (by omega) (by omega)
      rw [← hv] at hfz
      rw [hfz]
      simp only []
      cases hz : frz A.2.2.2 j with
      | true =>
        rw [if_neg (show ¬ (b2i true = (0 : Int32)) by decide), if_pos rfl]
        exact hJ32
      | false =>
        rw [if_pos (show b2i false = (0 : Int32) from rfl), if_neg (by decide)]
        have h2' := h.thr 0
        obtain ⟨wa, hwa⟩ : ∃ wa, wa = mA (mA (mA (mA (mA (mA (mS w 0 0) 4 j 1) 5 j 1) 6 (60 * j) 45) 7 j 1) 8 (60 * j) 45) 9 j 0 := ⟨_, rfl⟩
        have f : ∀ q, (q < 4 ∨ 9 < q) → wa.2 q = w.2 q := fun q hq => by
          rw [hwa]
          show (if q = 9 then _ else if q = 8 then _ else if q = 7 then _ else if q = 6 then _ else if q = 5 then _ else if q = 4 then _ else w.2 q) = _
          rw [if_neg (by omega), if_neg (by omega), if_neg (by omega), if_neg (by omega), if_neg (by omega), if_neg (by omega)]
        have f4 : wa.2 4 = upd (w.2 4) j 1 := by rw [hwa]; rfl
        have f5 : wa.2 5 = upd (w.2 5) j 1 := by rw [hwa]; rfl
        have f6 : wa.2 6 = upd (w.2 6) (60 * j) 45 := by rw [hwa]; rfl
        have f7 : wa.2 7 = upd (w.2 7) j 1 := by rw [hwa]; rfl
        have f8 : wa.2 8 = upd (w.2 8) (60 * j) 45 := by rw [hwa]; rfl
        have f9 : wa.2 9 = upd (w.2 9) j 0 := by rw [hwa]; rfl
        have hf1 : wa.1 = (mS w 0 0).1 := by rw [hwa]; rfl
        have hME' : ∀ i E, (A.2.1.set j strE)[i]? = some E → ME wa i E ∧ E.2.1.length ≤ 60 := by
          intro i E he
          rw [List.getElem?_set] at he
          by_cases hij : j = i
          · subst hij
            rw [if_pos rfl, if_pos hjl] at he
            injection he with he
            subst he
            refine ⟨⟨by rw [f4, upd_at]; rfl, by rw [f5, upd_at]; rfl, fun k hk => ?_, by rw [f7, upd_at]; rfl, fun k hk => ?_, by rw [f9, upd_at]; rfl, fun k p hp => by simp [strE] at hp⟩, by decide⟩
            · have hk0 : k = 0 := by simp [strE] at hk; omega
              subst hk0
              rw [f6, Nat.add_zero, upd_at]; rfl
            · have hk0 : k = 0 := by simp [strE] at hk; omega
              subst hk0
              rw [f8, Nat.add_zero, upd_at]; rfl
          · rw [if_neg hij] at he
            obtain ⟨c1, c2, c3⟩ := hW.el he
            obtain ⟨m1, m2, m3, m4, m5, m6, m7⟩ := h.2.1.2.1 i E he
            refine ⟨⟨by rw [f4, upd_ne (by omega)]; exact m1, by rw [f5, upd_ne (by omega)]; exact m2, fun k hk => by rw [f6, upd_ne (by omega)]; exact m3 k hk, by rw [f7, upd_ne (by omega)]; exact m4, fun k hk => by rw [f8, upd_ne (by omega)]; exact m5 k hk, by rw [f9, upd_ne (by omega)]; exact m6, fun k p hp => by rw [f 10 (by omega), f 11 (by omega), f 12 (by omega), f 13 (by omega)]; exact m7 k p hp⟩, c2⟩
        obtain ⟨d1, d2, d3⟩ := h2'.1
        obtain ⟨w5, p1, p2, p3⟩ := RM_prv (n := n) (w := wa) (d := A.1) (es := A.2.1.set j strE) (rs := A.2.2.1) (us := A.2.2.2) ⟨by rw [hf1]; exact d1, by rw [f 2 (by omega)]; exact d2, d3⟩ (by rw [hf1, List.length_set]; exact h2'.2.1.1) (by rw [List.length_set]; exact h24) hME' ⟨by rw [hf1]; exact h2'.2.2.1.1, fun i R hr => (h2'.2.2.1.2 i R hr).keep (fun q a b => f q (by omega))⟩ ⟨by rw [hf1]; exact h2'.2.2.2.1, fun i U hu => (h2'.2.2.2.2 i U hu).keep (fun q a b => f q (by omega))⟩ (by omega)
        have hW2 := WF_set hW (j := j) WE_str hW.1
        have hcl := mStrL (n := n) p2 hW2 (A.2.1.set j strE) 0 n 0 rfl (by decide) (by rw [List.length_set]; omega)
        have e0 : nI 0 = (0 : Int32) := nI_0
        rw [e0] at hcl
        refine ⟨cun (A.2.1.set j strE), w5, ?_, p2, rfl, by rw [p3, hf1]; rfl⟩
        unfold fX7_strike_J37
        rw [isOf0]
        simp only [b2]
        have e60 : (60 : Int32) * nI j = nI (60 * j) := nI_mul 60 j
        have hb01 : b01 (1 : Int32) = true := by decide
        rw [if_neg (show ¬ ((1 : Int32) = 0) by decide), hv, e60, inB_nI (show j < mLen 4 from (by show j < 24; omega)) (by decide), inB_nI (show j < mLen 5 from (by show j < 24; omega)) (by decide), inB_nI (show j < mLen 7 from (by show j < 24; omega)) (by decide), inB_nI (show j < mLen 9 from (by show j < 24; omega)) (by decide), inB_nI (show 60 * j < mLen 6 from (by show 60 * j < 1440; omega)) (by decide), inB_nI (show 60 * j < mLen 8 from (by show 60 * j < 1440; omega)) (by decide), nI_clamp (show j < 2 ^ 31 by omega), nI_clamp (show 60 * j < 2 ^ 31 by omega), hb01]
        simp only [chk, bnd]
        rw [← hwa, p1]
        simp only [bP]
        rw [hcl]
        rfl
end RMsec
