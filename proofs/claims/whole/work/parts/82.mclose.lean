/-! the reference closes a group -/
def RIp (w : MW) (N P G : Nat) (ids : List (List Nat)) (L : List (List Itm)) (ps : List Pst) (i : Nat) : Prop := w.1 31 = nI N ∧ w.1 38 = nI P ∧ w.1 40 = nI G ∧ IDS w ids ∧ MAT w N P G ids L ∧ LPS w L ∧ PSM w ps ∧ 3 * N ≤ i ∧ P ≤ 15 * N ∧ G ≤ 60 * N
/-- the postings since a group began, each taken so often -/
def tmS (w : MW) (b R : Nat) (t : Int32) : MW := (w.1, fun j => if j = 30 then (fun k => if b ≤ k ∧ k < R then w.2 30 k * t else w.2 30 k) else w.2 j)
theorem mTimesL {n : Nat} {w : MW} {b R : Nat} (hR : w.1 26 = nI R) (hR16 : R ≤ 16) (x1 x2 t : Int32) : ∀ (m i k : Nat), i + m = R → b ≤ i → m < k → fX7_readsDraft_L129 n k (tmS w b i t) x1 x2 t (nI i) = some (x1, x2, t, tmS w b R t) := by
  intro m
  induction m with
  | zero =>
    intro i k hi hb hk
    obtain ⟨k, rfl⟩ : ∃ k', k = k' + 1 := ⟨k - 1, by omega⟩
    have : i = R := by omega
    subst this
    unfold fX7_readsDraft_L129
    have e : (tmS w b i t).1 26 = nI i := hR
    rw [e, if_pos (Int32.le_refl _)]
  | succ m ih =>
    intro i k hi hb hk
    obtain ⟨k, rfl⟩ : ∃ k', k = k' + 1 := ⟨k - 1, by omega⟩
    unfold fX7_readsDraft_L129
    have e : (tmS w b i t).1 26 = nI R := hR
    rw [e, if_neg (nI_ge (show i < R by omega) (by omega)), inB_nI (show i < mLen 30 from (by show i < 16; omega)) (by decide), nI_clamp (by omega)]
    simp only [chk, bnd, nI_1]
    rw [← ih (i + 1) k (by omega) (by omega) (by omega)]
    congr 1
    refine Prod.ext rfl (funext fun j => ?_)
    show (if j = 30 then upd ((tmS w b i t).2 30) i ((tmS w b i t).2 30 i * t) else if j = 30 then _ else w.2 j) = if j = 30 then _ else w.2 j
    by_cases hj : j = 30
    · rw [if_pos hj, if_pos hj]
      refine funext fun z => ?_
      have e3 : ∀ z, (tmS w b i t).2 30 z = if b ≤ z ∧ z < i then w.2 30 z * t else w.2 30 z := fun z => rfl
      unfold upd
      rw [e3, e3]
      by_cases hz : z = i
      · subst hz
        rw [if_pos rfl, if_neg (by omega), if_pos (by omega)]
      · rw [if_neg hz]
        by_cases h2 : b ≤ z ∧ z < i
        · rw [if_pos h2, if_pos (by omega)]
        · rw [if_neg h2, if_neg (by omega)]
    · rw [if_neg hj, if_neg hj, if_neg hj]
theorem tmS_0 {w : MW} {b : Nat} {t : Int32} : tmS w b b t = w := by
  refine Prod.ext rfl (funext fun j => ?_)
  show (if j = 30 then _ else w.2 j) = w.2 j
  by_cases hj : j = 30
  · rw [if_pos hj, hj]
    exact funext fun z => if_neg (by omega)
  · exact if_neg hj
theorem RI_times {w : MW} {N P G i : Nat} {ids : List (List Nat)} {L : List (List Itm)} {lv : List Itm} {t : Nat} (H : RI w N P G ids (lv :: L) i) : RIp (tmS w (alP L).length (alP (lv :: L)).length (nI t)) N P G ids (lv :: L) (alP L ++ (lv.flatMap ipo).map (mulP t)) i := by
  obtain ⟨h1, h2, h3, h4, h5, h6, ⟨h7a, h7b⟩, h8⟩ := H
  obtain ⟨w', hw⟩ : ∃ w', w' = tmS w (alP L).length (alP (lv :: L)).length (nI t) := ⟨_, rfl⟩
  have f : ∀ k, k ≠ 30 → w'.2 k = w.2 k := fun k hk => by rw [hw]; exact if_neg hk
  have f30 : ∀ k, w'.2 30 k = if (alP L).length ≤ k ∧ k < (alP (lv :: L)).length then w.2 30 k * nI t else w.2 30 k := fun k => by rw [hw]; rfl
  have f1 : w'.1 = w.1 := by rw [hw]; rfl
  rw [← hw]
  have hal : alP (lv :: L) = alP L ++ lv.flatMap ipo := rfl
  have hE : EXT w w' N P G N P G := ⟨Nat.le_refl _, Nat.le_refl _, Nat.le_refl _, fun k j hk1 hk2 hj => by rw [f k (by omega)], fun j _ => by rw [f 39 (by decide)], fun j _ => by rw [f 41 (by decide)]⟩
  have hIDS : ∀ ids : List (List Nat), IDS w ids → IDS w' ids := by
    intro ids
    induction ids with
    | nil => exact fun _ => trivial
    | cons l ls ih => exact fun h => ⟨⟨by rw [f 42 (by decide)]; exact h.1.1, fun k hk => by rw [f 43 (by decide)]; exact h.1.2 k hk⟩, ih h.2⟩
  refine ⟨by rw [f1]; exact h1, by rw [f1]; exact h2, by rw [f1]; exact h3, hIDS _ h4, h5.keep hE, h6.keep (fun d _ => by rw [f 44 (by decide)]), ⟨by rw [f1, h7a, hal]; simp, fun k p hp => ?_⟩, h8⟩
  rw [f 27 (by decide), f 28 (by decide), f 29 (by decide), f30]
  by_cases hk : k < (alP L).length
  · rw [List.getElem?_append_left hk] at hp
    obtain ⟨q1, q2, q3, q4⟩ := h7b k p (by rw [hal, List.getElem?_append_left hk]; exact hp)
    rw [if_neg (by omega)]
    exact ⟨q1, q2, q3, q4⟩
  · rw [List.getElem?_append_right (by omega), List.getElem?_map] at hp
    cases hq : (lv.flatMap ipo)[k - (alP L).length]? with
    | none => rw [hq] at hp; cases hp
    | some q =>
      rw [hq] at hp
      simp only [Option.map_some, Option.some.injEq] at hp
      subst hp
      obtain ⟨q1, q2, q3, q4⟩ := h7b k q (by rw [hal, List.getElem?_append_right (by omega)]; exact hq)
      have hlt : k - (alP L).length < (lv.flatMap ipo).length := (List.getElem?_eq_some_iff.mp hq).1
      rw [if_pos ⟨by omega, by rw [hal, List.length_append]; omega⟩, q4, nI_mul]
      exact ⟨q1, q2, q3, rfl⟩
theorem getD_app {a b : List Nat} {k : Nat} : (a ++ b).getD k 0 = if k < a.length then a.getD k 0 else b.getD (k - a.length) 0 := by
  simp only [List.getD_eq_getElem?_getD]
  by_cases h : k < a.length
  · rw [List.getElem?_append_left h, if_pos h]
  · rw [List.getElem?_append_right (by omega), if_neg h]
/-- the items of a closed group come to the level around -/
theorem mUpL {n : Nat} {d e m2 : Nat} (hd : d = e + 1) (hd6 : d < 6) (x1 : Int32) (hx1 : x1 = nI d) {l : List Nat} (hml : m2 + l.length ≤ 31) : ∀ (r : List Nat) (j k : Nat) (w : MW), l.drop j = r → j ≤ l.length → r.length < k → w.2 42 e = nI (m2 + j) → (∀ i, i < l.length → w.2 43 (32 * d + i) = nI (l.getD i 0)) →
    ∃ w', fX7_closes_L26 n k w x1 (nI l.length) (nI j) = some w' ∧ w'.1 = w.1 ∧ (∀ q, q ≠ 42 → q ≠ 43 → w'.2 q = w.2 q) ∧ (∀ q, w'.2 42 q = if q = e then nI (m2 + l.length) else w.2 42 q) ∧ ∀ q, w'.2 43 q = if 32 * e + m2 + j ≤ q ∧ q < 32 * e + m2 + l.length then nI (l.getD (q - (32 * e + m2)) 0) else w.2 43 q := by
  intro r
  induction r with
  | nil =>
    intro j k w hdr hj hk h42 h43
    obtain ⟨k, rfl⟩ : ∃ k', k = k' + 1 := ⟨k - 1, by simp at hk; omega⟩
    have hje : j = l.length := drop_nil hdr hj
    refine ⟨w, ?_, rfl, fun _ _ _ => rfl, fun q => ?_, fun q => ?_⟩
    · unfold fX7_closes_L26
      rw [if_pos (by rw [hje]; exact Int32.le_refl _)]
    · by_cases hq : q = e
      · rw [if_pos hq, hq, h42, hje]
      · rw [if_neg hq]
    · rw [if_neg (by omega)]
  | cons c r ih =>
    intro j k w hdr hj hk h42 h43
    obtain ⟨k, rfl⟩ : ∃ k', k = k' + 1 := ⟨k - 1, by simp at hk; omega⟩
    obtain ⟨hlt, hg, hdr2⟩ := drop_next hdr
    simp only [List.length_cons] at hk
    have hjo := mJoins (v := nI c) (show e < 6 by omega) h42 (by omega)
    obtain ⟨w1, hw1⟩ : ∃ w1, w1 = mA (mA w 43 (32 * e + (m2 + j)) (nI c)) 42 e (nI (m2 + j + 1)) := ⟨_, rfl⟩
    rw [← hw1] at hjo
    have g42 : w1.2 42 = upd (w.2 42) e (nI (m2 + j + 1)) := by rw [hw1]; rfl
    have g43 : w1.2 43 = upd (w.2 43) (32 * e + (m2 + j)) (nI c) := by rw [hw1]; rfl
    obtain ⟨w', k1, k2, k3, k4, k5⟩ := ih (j + 1) k w1 hdr2 hlt (by omega) (by rw [g42, upd_at]; rfl) (fun i hi => by rw [g43, upd_ne (by omega)]; exact h43 i hi)
    refine ⟨w', ?_, by rw [k2, hw1]; rfl, fun q q1 q2 => by rw [k3 q q1 q2, hw1]; show (if q = 42 then _ else if q = 43 then _ else w.2 q) = _; rw [if_neg q1, if_neg q2], fun q => ?_, fun q => ?_⟩
    · unfold fX7_closes_L26
      have e1 : (32 : Int32) * nI d = nI (32 * d) := nI_mul 32 d
      have e2 : nI d - (1 : Int32) = nI e := by rw [hd]; exact nI_pred e
      rw [if_neg (nI_ge hlt (by omega)), hx1, e1, nI_add, inB_nI (show 32 * d + j < mLen 43 from (by show 32 * d + j < 192; omega)) (by decide), nI_clamp (by omega), h43 j hlt, hg, e2]
      simp only [chk, hjo, bP, nI_1]
      rw [← hx1]
      exact k1
    · rw [k4, g42]
      by_cases hq : q = e
      · rw [if_pos hq, if_pos hq]
      · rw [if_neg hq, if_neg hq, upd_ne hq]
    · rw [k5, g43]
      by_cases h1 : 32 * e + m2 + (j + 1) ≤ q ∧ q < 32 * e + m2 + l.length
      · rw [if_pos h1, if_pos (by omega)]
      · rw [if_neg h1]
        by_cases h2 : q = 32 * e + (m2 + j)
        · rw [h2, upd_at, if_pos (by omega)]
          have : 32 * e + (m2 + j) - (32 * e + m2) = j := by omega
          rw [this, hg]
        · rw [upd_ne h2, if_neg (by omega)]
theorem MAT_app {w : MW} {N P G : Nat} {l l2 : List Nat} {lv lv2 : List Itm} (h : l.length = lv.length ∧ ∀ k x, lv[k]? = some x → MIT w N P G (l.getD k 0) x) (h2 : l2.length = lv2.length ∧ ∀ k x, lv2[k]? = some x → MIT w N P G (l2.getD k 0) x) : (l2 ++ l).length = (lv2 ++ lv).length ∧ ∀ k x, (lv2 ++ lv)[k]? = some x → MIT w N P G ((l2 ++ l).getD k 0) x := by
  refine ⟨by simp [h.1, h2.1], fun k x hx => ?_⟩
  rw [List.getD_eq_getElem?_getD]
  by_cases hk : k < lv2.length
  · rw [List.getElem?_append_left hk] at hx
    rw [List.getElem?_append_left (by omega), ← List.getD_eq_getElem?_getD]
    exact h2.2 k x hx
  · rw [List.getElem?_append_right (by omega)] at hx
    rw [List.getElem?_append_right (by omega), ← List.getD_eq_getElem?_getD, h2.1]
    exact h.2 _ x hx
theorem RI_up {n : Nat} {w : MW} {N P G i d : Nat} {ids : List (List Nat)} {L : List (List Itm)} {l l2 : List Nat} {lv lv2 : List Itm} {ps : List Pst} (H : RIp w N P G (l :: l2 :: ids) (lv :: lv2 :: L) ps i) (hd : d = L.length + 1) (hd6 : d < 6) (hml : l2.length + l.length ≤ 31) (hne : lv ≠ []) (hcap : ∀ l' ∈ ids, l'.length ≤ 31) (hn : 60 < n) :
    ∃ w', fX7_closes n w (nI d) (nI 1) = some w' ∧ RIp w' N P G ((l2 ++ l) :: ids) ((lv2 ++ lv) :: L) ps i ∧ MFR w w' := by
  obtain ⟨h1, h2, h3, ⟨⟨h4a, h4b⟩, ⟨h4c, h4d⟩, h4⟩, ⟨h5a, h5b, h5⟩, ⟨h6a, h6b, h6⟩, h7, h8⟩ := H
  have hil : ids.length = L.length := h5.len
  have hl1 : (l2 :: ids).length = d := by simp [hil, hd]
  rw [hl1] at h4a h4b
  obtain ⟨w', k1, k2, k3, k4, k5⟩ := mUpL (n := n) (d := d) (e := ids.length) (m2 := l2.length) (by omega) hd6 (nI d) rfl hml l 0 n w rfl (Nat.zero_le _) (by omega) h4c h4b
  have e0 : nI 0 = (0 : Int32) := nI_0
  rw [e0] at k1
  have hE : EXT w w' N P G N P G := ⟨Nat.le_refl _, Nat.le_refl _, Nat.le_refl _, fun k j hk1 hk2 hj => by rw [k3 k (by omega) (by omega)], fun j _ => by rw [k3 39 (by decide) (by decide)], fun j _ => by rw [k3 41 (by decide) (by decide)]⟩
  have hma := MAT_app h5a h5b
  refine ⟨w', ?_, ⟨by rw [k2]; exact h1, by rw [k2]; exact h2, by rw [k2]; exact h3, ⟨⟨?_, fun k hk => ?_⟩, h4.keep (fun d' hd' => ⟨by rw [k4, if_neg (by omega)], fun k hk => by rw [k5, if_neg (by omega)]⟩) (fun l' hl' => by have := hcap l' hl'; omega)⟩, ⟨⟨hma.1, fun k x hx => (hma.2 k x hx).keep hE⟩, h5.keep hE⟩, ⟨fun hne => by rw [k3 44 (by decide) (by decide)]; exact h6b hne, h6.keep (fun d _ => by rw [k3 44 (by decide) (by decide)])⟩, h7.keep (by rw [k2]) (fun k j hk1 hk2 _ => by rw [k3 k (by omega) (by omega)]), h8⟩, fun k hk => ⟨by rw [k2], k3 k (by omega) (by omega)⟩⟩
  · unfold fX7_closes
    have e1 : (32 : Int32) * nI d = nI (32 * d) := nI_mul 32 d
    rw [inB_nI (show d < mLen 42 from hd6) (by decide), nI_clamp (show d < 2 ^ 31 by omega), h4a, e1, inB_nI (show 32 * d < mLen 43 from (by show 32 * d < 192; omega)) (by decide)]
    simp only [chk, bnd]
    rw [if_pos (show nI 1 = (1 : Int32) from rfl), k1]
    rfl
  · rw [k4, if_pos rfl, List.length_append]
  · rw [k5]
    rw [List.length_append] at hk
    rw [getD_app]
    by_cases hk2 : k < l2.length
    · rw [if_neg (by omega), if_pos hk2, h4d k hk2]
    · rw [if_pos (by omega), if_neg hk2]
      have : 32 * ids.length + k - (32 * ids.length + l2.length) = k - l2.length := by omega
      rw [this]
