/-! the reference lays an entry and proves all -/
def blk (w : MW) (f p m : Nat) (g : Nat → Int32) : MW := (w.1, fun k => if k = f then (fun i => if p ≤ i ∧ i < p + m then g (i - p) else w.2 f i) else w.2 k)
theorem blk_0 {w : MW} {f p : Nat} {g : Nat → Int32} : blk w f p 0 g = w := by
  refine Prod.ext rfl (funext fun k => ?_)
  show (if k = f then _ else w.2 k) = w.2 k
  by_cases hk : k = f
  · rw [if_pos hk, hk]
    exact funext fun i => if_neg (by omega)
  · exact if_neg hk
theorem blk_at {w : MW} {f p m : Nat} {g : Nat → Int32} (i : Nat) : (blk w f p m g).2 f i = if p ≤ i ∧ i < p + m then g (i - p) else w.2 f i := by
  have : (blk w f p m g).2 f = fun i => if p ≤ i ∧ i < p + m then g (i - p) else w.2 f i := if_pos rfl
  rw [this]
theorem blk_ne {w : MW} {f p m k : Nat} {g : Nat → Int32} (h : k ≠ f) : (blk w f p m g).2 k = w.2 k := if_neg h
theorem blk_put {w : MW} {f p m : Nat} {g : Nat → Int32} {v : Int32} (hv : v = g m) : mA (blk w f p m g) f (p + m) v = blk w f p (m + 1) g := by
  refine Prod.ext rfl (funext fun k => ?_)
  by_cases hk : k = f
  · subst hk
    refine funext fun i => ?_
    rw [blk_at]
    show (if k = k then upd ((blk w k p m g).2 k) (p + m) v else _) i = _
    rw [if_pos rfl]
    unfold upd
    by_cases hi : i = p + m
    · rw [if_pos hi, if_pos (by omega), hv, hi, Nat.add_sub_cancel_left]
    · rw [if_neg hi, blk_at]
      by_cases h2 : p ≤ i ∧ i < p + m
      · rw [if_pos h2, if_pos (by omega)]
      · rw [if_neg h2, if_neg (by omega)]
  · show (if k = f then _ else (blk w f p m g).2 k) = _
    rw [if_neg hk, blk_ne hk, blk_ne hk]
theorem mLay1 {n : Nat} {w : MW} {j L : Nat} {g : Nat → Int32} (h1 : w.1 1 = nI L) (hL : L ≤ 60) (hj : j < 24) (hg : ∀ k, k < L → w.2 2 k = g k) : ∀ (m i k : Nat), i + m = L → m < k → fX7_lays_L19 n k (blk w 6 (60 * j) i g) (nI j) (nI i) = some (nI j, blk w 6 (60 * j) L g) := by
  have e60 : (60 : Int32) * nI j = nI (60 * j) := nI_mul 60 j
  intro m
  induction m with
  | zero =>
    intro i k hi hk
    obtain ⟨k, rfl⟩ : ∃ k', k = k' + 1 := ⟨k - 1, by omega⟩
    have : i = L := by omega
    subst this
    unfold fX7_lays_L19
    have e : (blk w 6 (60 * j) i g).1 1 = nI i := h1
    rw [e, if_pos (Int32.le_refl _)]
  | succ m ih =>
    intro i k hi hk
    obtain ⟨k, rfl⟩ : ∃ k', k = k' + 1 := ⟨k - 1, by omega⟩
    unfold fX7_lays_L19
    have e : (blk w 6 (60 * j) i g).1 1 = nI L := h1
    have e2 : (blk w 6 (60 * j) i g).2 2 i = g i := by rw [blk_ne (by decide)]; exact hg i (by omega)
    rw [e, if_neg (nI_ge (show i < L by omega) (by omega)), inB_nI (show i < mLen 2 from (by show i < 60; omega)) (by decide), e60, nI_add, inB_nI (show 60 * j + i < mLen 6 from (by show 60 * j + i < 1440; omega)) (by decide), nI_clamp (show 60 * j + i < 2 ^ 31 by omega), nI_clamp (show i < 2 ^ 31 by omega), e2]
    simp only [chk, bnd, nI_1]
    rw [blk_put rfl]
    exact ih (i + 1) k (by omega) (by omega)
theorem mLay2 {n : Nat} {w : MW} {j L : Nat} {g : Nat → Int32} (h1 : w.1 45 = nI L) (hL : L ≤ 60) (hj : j < 24) (hg : ∀ k, k < L → w.2 46 k = g k) : ∀ (m i k : Nat), i + m = L → m < k → fX7_lays_L62 n k (blk w 8 (60 * j) i g) (nI j) (nI i) = some (nI j, blk w 8 (60 * j) L g) := by
  have e60 : (60 : Int32) * nI j = nI (60 * j) := nI_mul 60 j
  intro m
  induction m with
  | zero =>
    intro i k hi hk
    obtain ⟨k, rfl⟩ : ∃ k', k = k' + 1 := ⟨k - 1, by omega⟩
    have : i = L := by omega
    subst this
    unfold fX7_lays_L62
    have e : (blk w 8 (60 * j) i g).1 45 = nI i := h1
    rw [e, if_pos (Int32.le_refl _)]
  | succ m ih =>
    intro i k hi hk
    obtain ⟨k, rfl⟩ : ∃ k', k = k' + 1 := ⟨k - 1, by omega⟩
    unfold fX7_lays_L62
    have e : (blk w 8 (60 * j) i g).1 45 = nI L := h1
    have e2 : (blk w 8 (60 * j) i g).2 46 i = g i := by rw [blk_ne (by decide)]; exact hg i (by omega)
    rw [e, if_neg (nI_ge (show i < L by omega) (by omega)), inB_nI (show i < mLen 46 from (by show i < 60; omega)) (by decide), e60, nI_add, inB_nI (show 60 * j + i < mLen 8 from (by show 60 * j + i < 1440; omega)) (by decide), nI_clamp (show 60 * j + i < 2 ^ 31 by omega), nI_clamp (show i < 2 ^ 31 by omega), e2]
    simp only [chk, bnd, nI_1]
    rw [blk_put rfl]
    exact ih (i + 1) k (by omega) (by omega)
def bl4 (w : MW) (p m : Nat) (g0 g1 g2 g3 : Nat → Int32) : MW := blk (blk (blk (blk w 10 p m g0) 11 p m g1) 12 p m g2) 13 p m g3
theorem mA_blk {w : MW} {f f' p m i : Nat} {g : Nat → Int32} {v : Int32} (h : f' ≠ f) : mA (blk w f p m g) f' i v = blk (mA w f' i v) f p m g := by
  refine Prod.ext rfl (funext fun k => ?_)
  by_cases hk : k = f
  · subst hk
    show (if k = f' then _ else (blk w k p m g).2 k) = (blk (mA w f' i v) k p m g).2 k
    rw [if_neg (fun z => h z.symm)]
    refine funext fun i' => ?_
    rw [blk_at, blk_at]
    have : (mA w f' i v).2 k i' = w.2 k i' := by
      show (if k = f' then _ else w.2 k) i' = _
      rw [if_neg (fun z => h z.symm)]
    rw [this]
  · rw [blk_ne hk]
    show (if k = f' then upd ((blk w f p m g).2 f') i v else (blk w f p m g).2 k) = if k = f' then _ else w.2 k
    by_cases hk2 : k = f'
    · rw [if_pos hk2, if_pos hk2, blk_ne h]
    · rw [if_neg hk2, if_neg hk2, blk_ne hk]
theorem mLay3 {n : Nat} {w : MW} {j R : Nat} {g0 g1 g2 g3 : Nat → Int32} (h1 : w.1 26 = nI R) (hR : R ≤ 15) (hj : j < 24) (h0 : ∀ k, k < R → w.2 27 k = g0 k ∧ w.2 28 k = g1 k ∧ w.2 29 k = g2 k ∧ w.2 30 k = g3 k) (hb : ∀ k, k < R → b01 (g1 k) = true) : ∀ (m i k : Nat), i + m = R → m < k → fX7_lays_L105 n k (bl4 w (16 * j) i g0 g1 g2 g3) (nI j) (nI i) = some (bl4 w (16 * j) R g0 g1 g2 g3) := by
  have e16 : (16 : Int32) * nI j = nI (16 * j) := nI_mul 16 j
  intro m
  induction m with
  | zero =>
    intro i k hi hk
    obtain ⟨k, rfl⟩ : ∃ k', k = k' + 1 := ⟨k - 1, by omega⟩
    have : i = R := by omega
    subst this
    unfold fX7_lays_L105
    have e : (bl4 w (16 * j) i g0 g1 g2 g3).1 26 = nI i := h1
    rw [e, if_pos (Int32.le_refl _)]
  | succ m ih =>
    intro i k hi hk
    obtain ⟨k, rfl⟩ : ∃ k', k = k' + 1 := ⟨k - 1, by omega⟩
    obtain ⟨a0, a1, a2, a3⟩ := h0 i (by omega)
    unfold fX7_lays_L105
    have e : (bl4 w (16 * j) i g0 g1 g2 g3).1 26 = nI R := h1
    obtain ⟨x0, hx0⟩ : ∃ x0, x0 = bl4 w (16 * j) i g0 g1 g2 g3 := ⟨_, rfl⟩
    have r27 : x0.2 27 i = g0 i := by rw [hx0]; exact a0
    have r28 : (mA x0 10 (16 * j + i) (g0 i)).2 28 i = g1 i := by rw [hx0]; exact a1
    have r29 : (mA (mA x0 10 (16 * j + i) (g0 i)) 11 (16 * j + i) (g1 i)).2 29 i = g2 i := by rw [hx0]; exact a2
    have r30 : (mA (mA (mA x0 10 (16 * j + i) (g0 i)) 11 (16 * j + i) (g1 i)) 12 (16 * j + i) (g2 i)).2 30 i = g3 i := by rw [hx0]; exact a3
    have i27 := inB_nI (show i < mLen 27 from (by show i < 16; omega)) (by decide)
    have i28 := inB_nI (show i < mLen 28 from (by show i < 16; omega)) (by decide)
    have i29 := inB_nI (show i < mLen 29 from (by show i < 16; omega)) (by decide)
    have i30 := inB_nI (show i < mLen 30 from (by show i < 16; omega)) (by decide)
    have j10 := inB_nI (show 16 * j + i < mLen 10 from (by show 16 * j + i < 384; omega)) (by decide)
    have j11 := inB_nI (show 16 * j + i < mLen 11 from (by show 16 * j + i < 384; omega)) (by decide)
    have j12 := inB_nI (show 16 * j + i < mLen 12 from (by show 16 * j + i < 384; omega)) (by decide)
    have j13 := inB_nI (show 16 * j + i < mLen 13 from (by show 16 * j + i < 384; omega)) (by decide)
    rw [e, if_neg (nI_ge (show i < R by omega) (by omega)), e16, nI_add, ← hx0]
    simp only [chk, bnd, nI_1, i27, i28, i29, i30, j10, j11, j12, j13, nI_clamp (show 16 * j + i < 2 ^ 31 by omega), nI_clamp (show i < 2 ^ 31 by omega), r27, r28, hb i (by omega), r29, r30]
    have hst : mA (mA (mA (mA x0 10 (16 * j + i) (g0 i)) 11 (16 * j + i) (g1 i)) 12 (16 * j + i) (g2 i)) 13 (16 * j + i) (g3 i) = bl4 w (16 * j) (i + 1) g0 g1 g2 g3 := by
      rw [hx0]
      unfold bl4
      rw [mA_blk (f' := 10) (f := 13) (by decide), mA_blk (f' := 10) (f := 12) (by decide), mA_blk (f' := 10) (f := 11) (by decide), blk_put rfl, mA_blk (f' := 11) (f := 13) (by decide), mA_blk (f' := 11) (f := 12) (by decide), blk_put rfl, mA_blk (f' := 12) (f := 13) (by decide), blk_put rfl, blk_put rfl]
    rw [hst]
    exact ih (i + 1) k (by omega) (by omega)
theorem mLays {n : Nat} {w : MW} {d W : List Nat} {ps : List Pst} {j : Nat} (hD : mDraft w d) (hR : RDN w W ps) (hW : W.length ≤ 60) (hps : ps.length ≤ 15) (hj : j < 24) (hn : 100 < n) : ∃ w', fX7_lays n w (nI j) = some w' ∧ ME w' j (d, W, ps, false) ∧ (∀ i E, i ≠ j → E.1.length ≤ 60 → E.2.1.length ≤ 60 → E.2.2.1.length ≤ 15 → ME w i E → ME w' i E) ∧ w'.1 = (mS w 1 0).1 ∧ ∀ k, (k < 4 ∨ 13 < k) → w'.2 k = w.2 k := by
  obtain ⟨d1, d2, d3, d4⟩ := hD
  obtain ⟨r1, r2, r3, r4⟩ := hR
  have e0 : nI 0 = (0 : Int32) := nI_0
  obtain ⟨gp, hgp⟩ : ∃ gp : Nat → Pst, gp = fun k => ps.getD k (0, false, 0, 0) := ⟨_, rfl⟩
  have hgpk : ∀ k, k < ps.length → ps[k]? = some (gp k) := fun k hk => by rw [hgp]; simp [List.getD_eq_getElem?_getD, List.getElem?_eq_getElem hk]
  obtain ⟨wa, hwa⟩ : ∃ wa, wa = mA (mA w 4 j 0) 5 j (nI d.length) := ⟨_, rfl⟩
  have l1 := mLay1 (n := n) (w := wa) (j := j) (L := d.length) (g := fun k => nI (d.getD k 0)) (by rw [hwa]; exact d1) d3 hj (fun k hk => by rw [hwa]; exact d2 k hk) d.length 0 n (by omega) (by omega)
  rw [blk_0, e0] at l1
  obtain ⟨wb, hwb⟩ : ∃ wb, wb = blk wa 6 (60 * j) d.length (fun k => nI (d.getD k 0)) := ⟨_, rfl⟩
  rw [← hwb] at l1
  obtain ⟨wc, hwc⟩ : ∃ wc, wc = mA wb 7 j (nI W.length) := ⟨_, rfl⟩
  have l2 := mLay2 (n := n) (w := wc) (j := j) (L := W.length) (g := fun k => nI (W.getD k 0)) (by rw [hwc, hwb, hwa]; exact r1) hW hj (fun k hk => by rw [hwc, hwb, hwa]; exact r2 k hk) W.length 0 n (by omega) (by omega)
  rw [blk_0, e0] at l2
  obtain ⟨wd, hwd⟩ : ∃ wd, wd = blk wc 8 (60 * j) W.length (fun k => nI (W.getD k 0)) := ⟨_, rfl⟩
  rw [← hwd] at l2
  obtain ⟨we, hwe⟩ : ∃ we, we = mA wd 9 j (nI ps.length) := ⟨_, rfl⟩
  have l3 := mLay3 (n := n) (w := we) (j := j) (R := ps.length) (g0 := fun k => nI (gp k).1) (g1 := fun k => b2i (gp k).2.1) (g2 := fun k => nI (gp k).2.2.1) (g3 := fun k => nI (gp k).2.2.2) (by rw [hwe, hwd, hwc, hwb, hwa]; exact r3) hps hj (fun k hk => by rw [hwe, hwd, hwc, hwb, hwa]; exact r4 k _ (hgpk k hk)) (fun k _ => b2i_01 _) ps.length 0 n (by omega) (by omega)
  have hb0 : bl4 we (16 * j) 0 (fun k => nI (gp k).1) (fun k => b2i (gp k).2.1) (fun k => nI (gp k).2.2.1) (fun k => nI (gp k).2.2.2) = we := by
    unfold bl4
    rw [blk_0, blk_0, blk_0, blk_0]
  rw [hb0, e0] at l3
  obtain ⟨wf, hwf⟩ : ∃ wf, wf = bl4 we (16 * j) ps.length (fun k => nI (gp k).1) (fun k => b2i (gp k).2.1) (fun k => nI (gp k).2.2.1) (fun k => nI (gp k).2.2.2) := ⟨_, rfl⟩
  rw [← hwf] at l3
  have f4 : wf.2 4 = upd (w.2 4) j 0 := by rw [hwf, hwe, hwd, hwc, hwb, hwa]; rfl
  have f5 : wf.2 5 = upd (w.2 5) j (nI d.length) := by rw [hwf, hwe, hwd, hwc, hwb, hwa]; rfl
  have f6 : ∀ i, wf.2 6 i = if 60 * j ≤ i ∧ i < 60 * j + d.length then nI (d.getD (i - 60 * j) 0) else w.2 6 i := fun i => by
    have : wf.2 6 = wb.2 6 := by rw [hwf, hwe, hwd, hwc]; rfl
    rw [this, hwb, blk_at, hwa]
    rfl
  have f7 : wf.2 7 = upd (w.2 7) j (nI W.length) := by rw [hwf, hwe, hwd, hwc, hwb, hwa]; rfl
  have f8 : ∀ i, wf.2 8 i = if 60 * j ≤ i ∧ i < 60 * j + W.length then nI (W.getD (i - 60 * j) 0) else w.2 8 i := fun i => by
    have : wf.2 8 = wd.2 8 := by rw [hwf, hwe]; rfl
    rw [this, hwd, blk_at, hwc, hwb, hwa]
    rfl
  have f9 : wf.2 9 = upd (w.2 9) j (nI ps.length) := by rw [hwf, hwe, hwd, hwc, hwb, hwa]; rfl
  have f10 : ∀ i, wf.2 10 i = if 16 * j ≤ i ∧ i < 16 * j + ps.length then nI (gp (i - 16 * j)).1 else w.2 10 i := fun i => by
    rw [hwf]; unfold bl4
    rw [blk_ne (by decide), blk_ne (by decide), blk_ne (by decide), blk_at, hwe, hwd, hwc, hwb, hwa]; rfl
  have f11 : ∀ i, wf.2 11 i = if 16 * j ≤ i ∧ i < 16 * j + ps.length then b2i (gp (i - 16 * j)).2.1 else w.2 11 i := fun i => by
    rw [hwf]; unfold bl4
    rw [blk_ne (by decide), blk_ne (by decide), blk_at, hwe, hwd, hwc, hwb, hwa]; rfl
  have f12 : ∀ i, wf.2 12 i = if 16 * j ≤ i ∧ i < 16 * j + ps.length then nI (gp (i - 16 * j)).2.2.1 else w.2 12 i := fun i => by
    rw [hwf]; unfold bl4
    rw [blk_ne (by decide), blk_at, hwe, hwd, hwc, hwb, hwa]; rfl
  have f13 : ∀ i, wf.2 13 i = if 16 * j ≤ i ∧ i < 16 * j + ps.length then nI (gp (i - 16 * j)).2.2.2 else w.2 13 i := fun i => by
    rw [hwf]; unfold bl4
    rw [blk_at, hwe, hwd, hwc, hwb, hwa]; rfl
  have hf1 : wf.1 = w.1 := by rw [hwf, hwe, hwd, hwc, hwb, hwa]; rfl
  refine ⟨mS wf 1 0, ?_, ⟨?_, ?_, fun k hk => ?_, ?_, fun k hk => ?_, ?_, fun k p hp => ?_⟩, fun i E hij c1 c2 c3 hE => ?_, by show (mS wf 1 0).1 = _; funext k; show (if k = 1 then 0 else wf.1 k) = if k = 1 then 0 else w.1 k; rw [hf1], fun k hk => ?_⟩
  · unfold fX7_lays
    rw [inB_nI (show j < mLen 4 from hj) (by decide), inB_nI (show j < mLen 5 from hj) (by decide), nI_clamp (show j < 2 ^ 31 by omega)]
    have hb00 : b01 (0 : Int32) = true := by decide
    have g1 : (mA w 4 j 0).1 1 = nI d.length := d1
    have g45 : wb.1 45 = nI W.length := by rw [hwb, hwa]; exact r1
    have g26 : wd.1 26 = nI ps.length := by rw [hwd, hwc, hwb, hwa]; exact r3
    have i7 := inB_nI (show j < mLen 7 from hj) (by decide)
    have i9 := inB_nI (show j < mLen 9 from hj) (by decide)
    simp only [chk, bnd, hb00, g1, ← hwa, l1, bL2, i7, nI_clamp (show j < 2 ^ 31 by omega), g45, ← hwc, l2, i9, g26, ← hwe, l3, bL1]
  · show wf.2 4 j = _
    rw [f4, upd_at]; rfl
  · show wf.2 5 j = _
    rw [f5, upd_at]
  · show wf.2 6 _ = _
    have hk : k < d.length := hk
    rw [f6, if_pos (by omega), Nat.add_sub_cancel_left]
  · show wf.2 7 j = _
    rw [f7, upd_at]
  · show wf.2 8 _ = _
    have hk : k < W.length := hk
    rw [f8, if_pos (by omega), Nat.add_sub_cancel_left]
  · show wf.2 9 j = _
    rw [f9, upd_at]
  · have hk : k < ps.length := (List.getElem?_eq_some_iff.mp hp).1
    have hpk : gp k = p := Option.some.inj ((hgpk k hk).symm.trans hp)
    show wf.2 10 _ = _ ∧ wf.2 11 _ = _ ∧ wf.2 12 _ = _ ∧ wf.2 13 _ = _
    rw [f10, f11, f12, f13, if_pos (by omega), if_pos (by omega), if_pos (by omega), if_pos (by omega), Nat.add_sub_cancel_left, hpk]
    exact ⟨rfl, rfl, rfl, rfl⟩
  · obtain ⟨m1, m2, m3, m4, m5, m6, m7⟩ := hE
    refine ⟨?_, ?_, fun k hk => ?_, ?_, fun k hk => ?_, ?_, fun k p hp => ?_⟩
    · show wf.2 4 i = _; rw [f4, upd_ne hij]; exact m1
    · show wf.2 5 i = _; rw [f5, upd_ne hij]; exact m2
    · show wf.2 6 _ = _; rw [f6, if_neg (by omega)]; exact m3 k hk
    · show wf.2 7 i = _; rw [f7, upd_ne hij]; exact m4
    · show wf.2 8 _ = _; rw [f8, if_neg (by omega)]; exact m5 k hk
    · show wf.2 9 i = _; rw [f9, upd_ne hij]; exact m6
    · have hk : k < E.2.2.1.length := (List.getElem?_eq_some_iff.mp hp).1
      show wf.2 10 _ = _ ∧ wf.2 11 _ = _ ∧ wf.2 12 _ = _ ∧ wf.2 13 _ = _
      rw [f10, f11, f12, f13, if_neg (by omega), if_neg (by omega), if_neg (by omega), if_neg (by omega)]
      exact m7 k p hp
  · show wf.2 k = w.2 k
    rw [hwf, hwe, hwd, hwc, hwb, hwa]
    unfold bl4
    rw [blk_ne (by omega), blk_ne (by omega), blk_ne (by omega), blk_ne (by omega), mA_2, if_neg (by omega), blk_ne (by omega), mA_2, if_neg (by omega), blk_ne (by omega), mA_2, if_neg (by omega), mA_2, if_neg (by omega)]
/-! proofs -/
theorem ME.prL {n : Nat} {w : MW} {j : Nat} {E : Ent} (h : ME w j E) (hj : j < 24) (hl : E.2.1.length ≤ 60) : ∀ (r : List Nat) (i k : Nat) (s : Int32), E.2.1.drop i = r → i ≤ E.2.1.length → r.length < k → fX7_proves_L32 n k w (nI j) s (nI i) = some (nI j, chn s r) := by
  obtain ⟨-, -, -, h7, h8, -⟩ := h
  have e60 : (60 : Int32) * nI j = nI (60 * j) := nI_mul 60 j
  intro r
  induction r with
  | nil =>
    intro i k s hdr hi hk
    obtain ⟨k, rfl⟩ : ∃ k', k = k' + 1 := ⟨k - 1, by simp at hk; omega⟩
    have hie := drop_nil hdr hi
    unfold fX7_proves_L32
    rw [inB_nI (show j < mLen 7 from hj) (by decide), nI_clamp (show j < 2 ^ 31 by omega), h7]
    simp only [chk]
    rw [if_pos (by rw [hie]; exact Int32.le_refl _)]
    rfl
  | cons c r ih =>
    intro i k s hdr hi hk
    obtain ⟨k, rfl⟩ : ∃ k', k = k' + 1 := ⟨k - 1, by simp at hk; omega⟩
    obtain ⟨hlt, hg, hdr2⟩ := drop_next hdr
    simp only [List.length_cons] at hk
    unfold fX7_proves_L32
    rw [inB_nI (show j < mLen 7 from hj) (by decide), nI_clamp (show j < 2 ^ 31 by omega), h7, e60, nI_add]
    simp only [chk]
    rw [if_neg (nI_ge hlt (by omega)), inB_nI (show 60 * j + i < mLen 8 from (by show 60 * j + i < 1440; omega)) (by decide), nI_clamp (show 60 * j + i < 2 ^ 31 by omega), h8 i hlt, hg]
    simp only [bnd, nI_1]
    exact ih (i + 1) k _ hdr2 hlt (by omega)
theorem prf_step {es : List Ent} {m : Nat} (hm : m < es.length) : prf es m = chn ((if m = 0 then 0 else prf es (m - 1)) + 17) (es.getD m ([], [], [], false)).2.1 := by
  unfold prf chU
  have h1 : es.take (m + 1) = es.take m ++ [es.getD m ([], [], [], false)] := by
    rw [List.take_add_one, getE hm]
    rfl
  rw [h1, List.foldl_append]
  cases m with
  | zero => rfl
  | succ m => rfl
theorem mPrvL {n : Nat} {w : MW} {es : List Ent} (h3 : w.1 3 = nI es.length) (h24 : es.length ≤ 24) (hE : ∀ j E, es[j]? = some E → ME w j E ∧ E.2.1.length ≤ 60) (hn : 60 < n) : ∀ (m i k : Nat) (w1 : MW), i + m = es.length → m < k → w1.1 = w.1 → (∀ q, q ≠ 14 → w1.2 q = w.2 q) → (∀ j, j < i → w1.2 14 j = prf es j) →
    ∃ w', fX7_proves_L2 n k w1 (nI i) = some w' ∧ w'.1 = w.1 ∧ (∀ q, q ≠ 14 → w'.2 q = w.2 q) ∧ ∀ j, j < es.length → w'.2 14 j = prf es j := by
  intro m
  induction m with
  | zero =>
    intro i k w1 hi hk a1 a2 a3
    obtain ⟨k, rfl⟩ : ∃ k', k = k' + 1 := ⟨k - 1, by omega⟩
    have : i = es.length := by omega
    subst this
    refine ⟨w1, ?_, a1, a2, a3⟩
    unfold fX7_proves_L2
    rw [a1, h3, if_pos (Int32.le_refl _)]
  | succ m ih =>
    intro i k w1 hi hk a1 a2 a3
    obtain ⟨k, rfl⟩ : ∃ k', k = k' + 1 := ⟨k - 1, by omega⟩
    have hil : i < es.length := by omega
    obtain ⟨hME, hl⟩ := hE i _ (getE hil)
    have hME1 := hME.keep (w1 := w1) (fun k a b => a2 k (by omega))
    have hJ : ∀ p0 : Int32, p0 = (if i = 0 then 0 else prf es (i - 1)) → ∃ w', fX7_proves_J26 n (fX7_proves_L2 n k) w1 (nI i) p0 = some w' ∧ w'.1 = w.1 ∧ (∀ q, q ≠ 14 → w'.2 q = w.2 q) ∧ ∀ j, j < es.length → w'.2 14 j = prf es j := by
      intro p0 hp0
      have hin := ME.prL (n := n) hME1 (by omega) hl _ 0 n (p0 + 17) rfl (Nat.zero_le _) (by rw [List.drop_zero]; omega)
      have e0 : nI 0 = (0 : Int32) := nI_0
      rw [e0, List.drop_zero, hp0, ← prf_step hil] at hin
      obtain ⟨w', k1, k2, k3, k4⟩ := ih (i + 1) k (mA w1 14 i (prf es i)) (by omega) (by omega) a1 (fun q hq => by rw [mA_2, if_neg hq]; exact a2 q hq) (fun j hj => by
        rw [mA_2, if_pos rfl]
        by_cases hji : j = i
        · rw [hji, upd_at]
        · rw [upd_ne hji]; exact a3 j (by omega))
      refine ⟨w', ?_, k2, k3, k4⟩
      unfold fX7_proves_J26
      rw [hp0]
      simp only [bnd, hin, bL2, chk, nI_1]
      rw [inB_nI (show i < mLen 14 from (by show i < 24; omega)) (by decide), nI_clamp (show i < 2 ^ 31 by omega)]
      exact k1
    unfold fX7_proves_L2
    rw [a1, h3, if_neg (nI_ge hil (by omega))]
    by_cases h0 : i = 0
    · rw [if_pos (show nI i = (0 : Int32) by rw [h0]; rfl)]
      exact hJ 0 (by rw [if_pos h0])
    · obtain ⟨i', rfl⟩ : ∃ i', i = i' + 1 := ⟨i - 1, by omega⟩
      rw [if_neg (nI_ne0 (by omega) (by omega)), nI_pred, inB_nI (show i' < mLen 14 from (by show i' < 24; omega)) (by decide), nI_clamp (show i' < 2 ^ 31 by omega)]
      simp only [chk]
      exact hJ _ (by rw [if_neg h0, a3 i' (by omega), Nat.add_sub_cancel])
theorem mProves {n : Nat} {w : MW} {es : List Ent} (h3 : w.1 3 = nI es.length) (h24 : es.length ≤ 24) (hE : ∀ j E, es[j]? = some E → ME w j E ∧ E.2.1.length ≤ 60) (hn : 60 < n) : ∃ w', fX7_proves n w = some w' ∧ w'.1 = w.1 ∧ (∀ q, q ≠ 14 → w'.2 q = w.2 q) ∧ ∀ j, j < es.length → w'.2 14 j = prf es j := by
  obtain ⟨w', k1, k2⟩ := mPrvL (n := n) h3 h24 hE hn es.length 0 n w (by omega) (by omega) rfl (fun _ _ => rfl) (fun j hj => absurd hj (Nat.not_lt_zero _))
  have e0 : nI 0 = (0 : Int32) := nI_0
  rw [e0] at k1
  refine ⟨w', ?_, k2⟩
  unfold fX7_proves
  rw [k1]
  rfl
/-! is a draft that was read written otherwise -/
theorem mOthL {n : Nat} {w : MW} {j : Nat} {E : Ent} {W : List Nat} (hE : ME w j E) (hj : j < 24) (h45 : w.1 45 = nI W.length) (h46 : ∀ i, i < W.length → w.2 46 i = nI (W.getD i 0)) (hW : ∀ c ∈ W, c < 127) (hEl : ∀ c ∈ E.2.1, c < 127) (hl : W.length = E.2.1.length) (h60 : W.length ≤ 60) : ∀ (r : List Nat) (i k : Nat), W.drop i = r → i ≤ W.length → r.length < k → fX7_isOther_L21 n k w (nI j) 0 (nI i) = some (b2i (decide (r ≠ E.2.1.drop i))) := by
  obtain ⟨-, -, -, h7, h8, -⟩ := hE
  have e60 : (60 : Int32) * nI j = nI (60 * j) := nI_mul 60 j
  intro r
  induction r with
  | nil =>
    intro i k hdr hi hk
    obtain ⟨k, rfl⟩ : ∃ k', k = k' + 1 := ⟨k - 1, by simp at hk; omega⟩
    have hie := drop_nil hdr hi
    unfold fX7_isOther_L21
    rw [h45, if_pos (by rw [hie]; exact Int32.le_refl _), List.drop_eq_nil_of_le (by omega)]
    rfl
  | cons c r ih =>
    intro i k hdr hi hk
    obtain ⟨k, rfl⟩ : ∃ k', k = k' + 1 := ⟨k - 1, by simp at hk; omega⟩
    obtain ⟨hlt, hg, hdr2⟩ := drop_next hdr
    simp only [List.length_cons] at hk
    have hlt2 : i < E.2.1.length := by omega
    have h3 : E.2.1.drop i = E.2.1.getD i 0 :: E.2.1.drop (i + 1) := by
      rw [List.drop_eq_getElem_cons hlt2, List.getD_eq_getElem?_getD, List.getElem?_eq_getElem hlt2]
      rfl
    have hc : c < 127 := drop_mem hdr hW c List.mem_cons_self
    have hc2 := hEl _ (getD_mem hlt2)
    have hrec := ih (i + 1) k hdr2 hlt (by omega)
    unfold fX7_isOther_L21
    rw [h45, if_neg (nI_ge hlt (by omega)), if_pos rfl, inB_nI (show i < mLen 46 from (by show i < 60; omega)) (by decide), e60, nI_add, inB_nI (show 60 * j + i < mLen 8 from (by show 60 * j + i < 1440; omega)) (by decide), nI_clamp (show i < 2 ^ 31 by omega), nI_clamp (show 60 * j + i < 2 ^ 31 by omega), h46 i hlt, hg, h8 i hlt2, h3, nI_1]
    simp only [chk]
    by_cases hcc : c = E.2.1.getD i 0
    · rw [if_pos (by rw [hcc]), hrec]
      congr 2
      rw [← hcc]
      simp
    · rw [if_neg (fun z => hcc ((nI_eqc hc _ hc2).mp z))]
      have hne : c :: r ≠ E.2.1.getD i 0 :: E.2.1.drop (i + 1) := fun z => hcc (List.cons.inj z).1
      rw [decide_eq_true hne]
      -- the loop ends with 1
      cases k with
      | zero => omega
      | succ k =>
        unfold fX7_isOther_L21
        by_cases hend : W.length ≤ i + 1
        · rw [h45, if_pos (nI_le hend (by omega))]
          rfl
        · rw [h45, if_neg (nI_ge (by omega) (by omega)), if_neg (show ¬ ((1 : Int32) = 0) by decide)]
          rfl
theorem mOther {n : Nat} {w : MW} {j : Nat} {E : Ent} {W : List Nat} (hE : ME w j E) (hj : j < 24) (h45 : w.1 45 = nI W.length) (h46 : ∀ i, i < W.length → w.2 46 i = nI (W.getD i 0)) (hW : ∀ c ∈ W, c < 127) (hEl : ∀ c ∈ E.2.1, c < 127) (h60 : W.length ≤ 60) (hE60 : E.2.1.length ≤ 60) (hn : 60 < n) : fX7_isOther n w (nI j) = some (b2i (decide (W ≠ E.2.1))) := by
  have h7 := hE.2.2.2.1
  unfold fX7_isOther
  rw [inB_nI (show j < mLen 7 from hj) (by decide), nI_clamp (show j < 2 ^ 31 by omega), h45, h7]
  simp only [chk]
  by_cases hl : W.length = E.2.1.length
  · rw [if_pos (by rw [hl])]
    have h := mOthL (n := n) hE hj h45 h46 hW hEl hl h60 W 0 n rfl (Nat.zero_le _) (by omega)
    have e0 : nI 0 = (0 : Int32) := nI_0
    rw [e0, List.drop_zero] at h
    unfold fX7_isOther_J18
    rw [h]
    simp only [bL1, b2i_01, chk]
  · rw [if_neg (fun z => hl ((nI_eq (by omega) (by omega)).mp z))]
    have hne : W ≠ E.2.1 := fun z => hl (by rw [z])
    rw [decide_eq_true hne]
    unfold fX7_isOther_J18
    obtain ⟨n, rfl⟩ : ∃ n', n = n' + 1 := ⟨n - 1, by omega⟩
    unfold fX7_isOther_L21
    by_cases hend : W.length ≤ 0
    · rw [h45, if_pos (show nI W.length ≤ (0 : Int32) from nI_le (b := 0) hend (by decide))]
      rfl
    · rw [h45, if_neg (show ¬ (nI W.length ≤ (0 : Int32)) from nI_nle (by omega) (by omega)), if_neg (show ¬ ((1 : Int32) = 0) by decide)]
      rfl
