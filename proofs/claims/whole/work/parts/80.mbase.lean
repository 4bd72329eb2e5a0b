/-! the reference reads a draft: what it holds while it reads -/
theorem mA_1 {w : MW} {k i : Nat} {v : Int32} : (mA w k i v).1 = w.1 := rfl
theorem mS_2 {w : MW} {k : Nat} {v : Int32} : (mS w k v).2 = w.2 := rfl
theorem mS_1 {w : MW} {k j : Nat} {v : Int32} : (mS w k v).1 j = if j = k then v else w.1 j := rfl
theorem mA_2 {w : MW} {k j i : Nat} {v : Int32} : (mA w k i v).2 j = if j = k then upd (w.2 k) i v else w.2 j := rfl
theorem upd_at {f : Nat → Int32} {i : Nat} {v : Int32} : upd f i v i = v := if_pos rfl
theorem upd_ne {f : Nat → Int32} {i j : Nat} {v : Int32} (h : j ≠ i) : upd f i v j = f j := if_neg h
/-- fields below 26 are the ledger's -/
def MFR (w w1 : MW) : Prop := ∀ k, k < 26 → w1.1 k = w.1 k ∧ w1.2 k = w.2 k
theorem MFR.rf {w : MW} : MFR w w := fun _ _ => ⟨rfl, rfl⟩
theorem MFR.trans {w w1 w2 : MW} (h1 : MFR w w1) (h2 : MFR w1 w2) : MFR w w2 := fun k hk => ⟨(h2 k hk).1.trans (h1 k hk).1, (h2 k hk).2.trans (h1 k hk).2⟩
theorem MFR.mS {w : MW} {k : Nat} {v : Int32} (hk : 26 ≤ k) : MFR w (mS w k v) := fun j hj => ⟨if_neg (by omega), rfl⟩
theorem MFR.mA {w : MW} {k i : Nat} {v : Int32} (hk : 26 ≤ k) : MFR w (mA w k i v) := fun j hj => ⟨rfl, if_neg (by omega)⟩
theorem mDraft.keep {w w1 : MW} {d : List Nat} (h : mDraft w d) (hF : MFR w w1) : mDraft w1 d := by
  obtain ⟨h1, h2, h3, h4⟩ := h
  exact ⟨(hF 1 (by decide)).1.trans h1, fun i hi => by rw [(hF 2 (by decide)).2]; exact h2 i hi, h3, h4⟩
theorem mDraft.at {w : MW} {d r : List Nat} {i c : Nat} (h : mDraft w d) (hr : d.drop i = c :: r) : w.2 2 i = nI c := by
  obtain ⟨hlt, hg, -⟩ := drop_next hr
  rw [h.2.1 i hlt, hg]
theorem mDraft.lt {w : MW} {d : List Nat} (h : mDraft w d) : ∀ c ∈ d, c < 127 := fun c hc => (h.2.2.2 c hc).2
/-- texts put at the end of the signs -/
def pT (w : MW) (G : Nat) (x : List Nat) : MW := (fun k => if k = 40 then nI (G + x.length) else w.1 k, fun k => if k = 41 then (fun i => if G ≤ i ∧ i < G + x.length then nI (x.getD (i - G) 0) else w.2 41 i) else w.2 k)
theorem pT_nil {w : MW} {G : Nat} (h : w.1 40 = nI G) : pT w G [] = w := by
  refine Prod.ext (funext fun k => ?_) (funext fun k => ?_)
  · by_cases hk : k = 40
    · subst hk; exact h.symm
    · exact if_neg hk
  · by_cases hk : k = 41
    · subst hk
      refine funext fun i => ?_
      show (if G ≤ i ∧ i < G + 0 then _ else _) = _
      rw [if_neg (by omega)]
    · exact if_neg hk
theorem puts1 {w : MW} {G : Nat} {x : List Nat} {c : Nat} (hG : G + x.length < 4096) : fX7_putsSign (pT w G x) (nI c) = some (pT w G (x ++ [c])) := by
  unfold fX7_putsSign
  have e1 : (pT w G x).1 40 = nI (G + x.length) := rfl
  rw [e1, inB_nI (show G + x.length < mLen 41 from hG) (by decide), nI_clamp (by omega)]
  simp only [chk, bnd, mA_1, e1, nI_1]
  congr 1
  have hl : (x ++ [c]).length = x.length + 1 := by simp
  refine Prod.ext (funext fun k => ?_) (funext fun k => ?_)
  · show (if k = 40 then nI (G + x.length + 1) else if k = 40 then _ else w.1 k) = if k = 40 then nI (G + (x ++ [c]).length) else w.1 k
    by_cases hk : k = 40
    · rw [if_pos hk, if_pos hk, hl]; rfl
    · rw [if_neg hk, if_neg hk, if_neg hk]
  · show (if k = 41 then upd _ _ _ else if k = 41 then _ else w.2 k) = if k = 41 then _ else w.2 k
    by_cases hk : k = 41
    · rw [if_pos hk, if_pos hk]
      refine funext fun i => ?_
      have e2 : (pT w G x).2 41 i = if G ≤ i ∧ i < G + x.length then nI (x.getD (i - G) 0) else w.2 41 i := rfl
      show upd _ _ _ i = if G ≤ i ∧ i < G + (x ++ [c]).length then _ else _
      rw [hl]
      unfold upd
      rw [e2]
      by_cases hi : i = G + x.length
      · subst hi
        rw [if_pos rfl, if_pos (by omega), Nat.add_sub_cancel_left, getD_snoc, if_neg (Nat.lt_irrefl _), if_pos rfl]
      · rw [if_neg hi]
        by_cases h2 : G ≤ i ∧ i < G + x.length
        · rw [if_pos h2, if_pos (by omega), getD_snoc, if_pos (by omega)]
        · rw [if_neg h2, if_neg (by omega)]
    · rw [if_neg hk, if_neg hk, if_neg hk]
theorem num_hi : ∀ v, v < 1000 → (48 : Int32) + nI v / (100 : Int32) = nI (48 + v / 100) ∧ (48 : Int32) + ((nI v / (10 : Int32)) - (nI v / (10 : Int32)) / (10 : Int32) * (10 : Int32)) = nI (48 + v / 10 % 10) ∧ (48 : Int32) + (nI v - nI v / (10 : Int32) * (10 : Int32)) = nI (48 + v % 10) := by decide +kernel
theorem putsNum {w : MW} {G : Nat} {x : List Nat} {v : Nat} (hv : v < 1000) (hG : G + x.length + 3 ≤ 4096) : fX7_putsNumber (pT w G x) (nI v) = some (pT w G (x ++ dgs v)) := by
  obtain ⟨h1, h2, h3⟩ := num_hi v hv
  have nz10 : nz (10 : Int32) = true := by decide
  have nz100 : nz (100 : Int32) = true := by decide
  have hJ37 : ∀ y : List Nat, G + y.length < 4096 → fX7_putsNumber_J37 (pT w G y) (nI v) = some (pT w G (y ++ [48 + v % 10])) := by
    intro y hy
    unfold fX7_putsNumber_J37
    simp only [nz10, chk, h3, puts1 hy, bP]
  have hJ17 : ∀ y : List Nat, G + y.length + 1 < 4096 → fX7_putsNumber_J17 (pT w G y) (nI v) = some (pT w G (y ++ ((if 9 < v then [48 + v / 10 % 10] else []) ++ [48 + v % 10]))) := by
    intro y hy
    unfold fX7_putsNumber_J17
    by_cases h9 : 9 < v
    · rw [if_neg (show ¬ (nI v ≤ (9 : Int32)) from nI_ge (a := 9) h9 (by omega)), if_pos h9]
      simp only [nz10, chk, h2, puts1 (show G + y.length < 4096 by omega), bP]
      rw [hJ37 _ (by rw [List.length_append]; simp; omega)]
      simp
    · rw [if_pos (show nI v ≤ (9 : Int32) from nI_le (b := 9) (by omega) (by decide)), if_neg h9, hJ37 y (by omega)]
      simp
  unfold fX7_putsNumber dgs
  by_cases h99 : 99 < v
  · rw [if_neg (show ¬ (nI v ≤ (99 : Int32)) from nI_ge (a := 99) h99 (by omega)), if_pos h99]
    simp only [nz100, chk, h1, puts1 (show G + x.length < 4096 by omega), bP]
    rw [hJ17 _ (by rw [List.length_append]; simp; omega)]
    simp
  · rw [if_pos (show nI v ≤ (99 : Int32) from nI_le (b := 99) (by omega) (by decide)), if_neg h99, hJ17 x (by omega)]
    simp
def SEG (w : MW) (G p : Nat) (x : List Nat) : Prop := p + x.length ≤ G ∧ ∀ i, i < x.length → w.2 41 (p + i) = nI (x.getD i 0)
def TXI (w : MW) (N G id : Nat) (x : List Nat) : Prop := id < N ∧ ∃ p, w.2 34 id = nI p ∧ w.2 35 id = nI x.length ∧ SEG w G p x
theorem putsItL {n : Nat} {w : MW} {N G id : Nat} {y : List Nat} (hT : TXI w N G id y) (hN : N ≤ 64) (hG : G ≤ 4096) : ∀ (r : List Nat) (i k : Nat) (x : List Nat), y.drop i = r → i ≤ y.length → r.length < k → G + x.length + r.length < 4096 →
    fX7_putsItem_L2 n k (pT w G x) (nI id) (nI i) = some (pT w G (x ++ r)) := by
  obtain ⟨t1, p, t2, t3, t4, t5⟩ := hT
  intro r
  induction r with
  | nil =>
    intro i k x hdr hi hk hx
    obtain ⟨k, rfl⟩ : ∃ k', k = k' + 1 := ⟨k - 1, by simp at hk; omega⟩
    have hie : i = y.length := drop_nil hdr hi
    unfold fX7_putsItem_L2
    rw [inB_nI (show id < mLen 35 from Nat.lt_of_lt_of_le t1 hN) (by decide), nI_clamp (by omega)]
    have e35 : (pT w G x).2 35 id = nI y.length := t3
    simp only [chk, e35]
    rw [if_pos (by rw [hie]; exact Int32.le_refl _), List.append_nil]
  | cons c r ih =>
    intro i k x hdr hi hk hx
    obtain ⟨k, rfl⟩ : ∃ k', k = k' + 1 := ⟨k - 1, by simp at hk; omega⟩
    obtain ⟨hlt, hg, hdr2⟩ := drop_next hdr
    simp only [List.length_cons] at hk hx
    unfold fX7_putsItem_L2
    rw [inB_nI (show id < mLen 35 from Nat.lt_of_lt_of_le t1 hN) (by decide), inB_nI (show id < mLen 34 from Nat.lt_of_lt_of_le t1 hN) (by decide), nI_clamp (by omega)]
    have e35 : (pT w G x).2 35 id = nI y.length := t3
    have e34 : (pT w G x).2 34 id = nI p := t2
    have e41 : (pT w G x).2 41 (p + i) = nI c := by
      show (if G ≤ p + i ∧ p + i < G + x.length then _ else w.2 41 (p + i)) = _
      rw [if_neg (by omega), t5 i hlt, hg]
    simp only [chk, e35, e34, nI_add]
    rw [if_neg (nI_ge hlt (by omega)), inB_nI (show p + i < mLen 41 from (by show p + i < 4096; omega)) (by decide), nI_clamp (by omega), e41]
    simp only [puts1 (show G + x.length < 4096 by omega), bP, nI_1]
    rw [ih (i + 1) k (x ++ [c]) hdr2 hlt (by omega) (by simp; omega)]
    simp
theorem putsIt {n : Nat} {w : MW} {N G id : Nat} {y x : List Nat} (hT : TXI w N G id y) (hN : N ≤ 64) (hG : G ≤ 4096) (hn : y.length < n) (hx : G + x.length + y.length < 4096) : fX7_putsItem n (pT w G x) (nI id) = some (pT w G (x ++ y)) := by
  have h := putsItL (n := n) hT hN hG y 0 n x rfl (Nat.zero_le _) hn hx
  have e0 : nI 0 = (0 : Int32) := nI_0
  rw [e0] at h
  unfold fX7_putsItem
  rw [h]
  rfl
def MIT (w : MW) (N P G id : Nat) (x : Itm) : Prop := TXI w N G id (itx x) ∧ w.2 32 id = b2i x.1 ∧ w.2 33 id = nI x.2.1 ∧
  (x.1 = true → ∃ (fp : Nat) (xs : List (List Nat)), w.2 36 id = nI fp ∧ w.2 37 id = nI xs.length ∧ xs ≠ [] ∧ xs.length ≤ 15 ∧ fp + xs.length ≤ P ∧ jn xs = x.2.2.1 ∧ ∀ k y, xs[k]? = some y → ∃ pid, w.2 39 (fp + k) = nI pid ∧ TXI w N G pid y)
/-- what was there stays -/
def EXT (w w1 : MW) (N P G N1 P1 G1 : Nat) : Prop := N ≤ N1 ∧ P ≤ P1 ∧ G ≤ G1 ∧ (∀ k i, 32 ≤ k → k < 38 → i < N → w1.2 k i = w.2 k i) ∧ (∀ i, i < P → w1.2 39 i = w.2 39 i) ∧ ∀ i, i < G → w1.2 41 i = w.2 41 i
theorem TXI.keep {w w1 : MW} {N P G N1 P1 G1 id : Nat} {x : List Nat} (h : TXI w N G id x) (hE : EXT w w1 N P G N1 P1 G1) : TXI w1 N1 G1 id x := by
  obtain ⟨h1, p, h2, h3, h4, h5⟩ := h
  obtain ⟨e1, e2, e3, e4, e5, e6⟩ := hE
  exact ⟨by omega, p, by rw [e4 34 id (by decide) (by decide) h1]; exact h2, by rw [e4 35 id (by decide) (by decide) h1]; exact h3, by omega, fun i hi => by rw [e6 _ (by omega)]; exact h5 i hi⟩
theorem MIT.keep {w w1 : MW} {N P G N1 P1 G1 id : Nat} {x : Itm} (h : MIT w N P G id x) (hE : EXT w w1 N P G N1 P1 G1) : MIT w1 N1 P1 G1 id x := by
  obtain ⟨h1, h2, h3, h4⟩ := h
  have hid := h1.1
  obtain ⟨e1, e2, e3, e4, e5, e6⟩ := hE
  refine ⟨h1.keep ⟨e1, e2, e3, e4, e5, e6⟩, by rw [e4 32 id (by decide) (by decide) hid]; exact h2, by rw [e4 33 id (by decide) (by decide) hid]; exact h3, fun hg => ?_⟩
  obtain ⟨fp, xs, g1, g2, g3, g4, g5, g6, g7⟩ := h4 hg
  refine ⟨fp, xs, by rw [e4 36 id (by decide) (by decide) hid]; exact g1, by rw [e4 37 id (by decide) (by decide) hid]; exact g2, g3, g4, by omega, g6, fun k y hy => ?_⟩
  obtain ⟨pid, p1, p2⟩ := g7 k y hy
  have hk : k < xs.length := (List.getElem?_eq_some_iff.mp hy).1
  exact ⟨pid, by rw [e5 _ (by omega)]; exact p1, p2.keep ⟨e1, e2, e3, e4, e5, e6⟩⟩
def IDS (w : MW) : List (List Nat) → Prop
  | [] => True
  | l :: ls => (w.2 42 ls.length = nI l.length ∧ ∀ k, k < l.length → w.2 43 (32 * ls.length + k) = nI (l.getD k 0)) ∧ IDS w ls
def MAT (w : MW) (N P G : Nat) : List (List Nat) → List (List Itm) → Prop
  | [], [] => True
  | l :: ls, m :: ms => (l.length = m.length ∧ ∀ k x, m[k]? = some x → MIT w N P G (l.getD k 0) x) ∧ MAT w N P G ls ms
  | _, _ => False
def LPS (w : MW) : List (List Itm) → Prop
  | [] => True
  | _ :: ls => (ls ≠ [] → w.2 44 ls.length = nI (alP ls).length) ∧ LPS w ls
def PSM (w : MW) (ps : List Pst) : Prop := w.1 26 = nI ps.length ∧ ∀ k p, ps[k]? = some p → w.2 27 k = nI p.1 ∧ w.2 28 k = b2i p.2.1 ∧ w.2 29 k = nI p.2.2.1 ∧ w.2 30 k = nI p.2.2.2
def RI (w : MW) (N P G : Nat) (ids : List (List Nat)) (L : List (List Itm)) (i : Nat) : Prop := w.1 31 = nI N ∧ w.1 38 = nI P ∧ w.1 40 = nI G ∧ IDS w ids ∧ MAT w N P G ids L ∧ LPS w L ∧ PSM w (alP L) ∧ 3 * N ≤ i ∧ P ≤ 15 * N ∧ G ≤ 60 * N
theorem MAT.len {w : MW} {N P G : Nat} : ∀ {ids : List (List Nat)} {L : List (List Itm)}, MAT w N P G ids L → ids.length = L.length := by
  intro ids
  induction ids with
  | nil => intro L h; cases L with
    | nil => rfl
    | cons m ms => exact h.elim
  | cons l ls ih => intro L h; cases L with
    | nil => exact h.elim
    | cons m ms => simp only [List.length_cons, ih h.2]
theorem MAT.keep {w w1 : MW} {N P G N1 P1 G1 : Nat} (hE : EXT w w1 N P G N1 P1 G1) : ∀ {ids : List (List Nat)} {L : List (List Itm)}, MAT w N P G ids L → MAT w1 N1 P1 G1 ids L := by
  intro ids
  induction ids with
  | nil => intro L h; cases L with
    | nil => trivial
    | cons m ms => exact h.elim
  | cons l ls ih => intro L h; cases L with
    | nil => exact h.elim
    | cons m ms => exact ⟨⟨h.1.1, fun k x hx => (h.1.2 k x hx).keep hE⟩, ih h.2⟩
theorem IDS.keep {w w1 : MW} : ∀ {ids : List (List Nat)}, IDS w ids → (∀ d, d < ids.length → w1.2 42 d = w.2 42 d ∧ ∀ k, k < 32 → w1.2 43 (32 * d + k) = w.2 43 (32 * d + k)) → (∀ l ∈ ids, l.length ≤ 32) → IDS w1 ids := by
  intro ids
  induction ids with
  | nil => exact fun _ _ _ => trivial
  | cons l ls ih =>
    intro h hk hl
    obtain ⟨k1, k2⟩ := hk ls.length (by simp)
    have := hl l List.mem_cons_self
    exact ⟨⟨k1.trans h.1.1, fun k hkl => (k2 k (by omega)).trans (h.1.2 k hkl)⟩, ih h.2 (fun d hd => hk d (by simp; omega)) (fun m hm => hl m (List.mem_cons_of_mem _ hm))⟩
theorem LPS.keep {w w1 : MW} : ∀ {L : List (List Itm)}, LPS w L → (∀ d, d < L.length → w1.2 44 d = w.2 44 d) → LPS w1 L := by
  intro L
  induction L with
  | nil => exact fun _ _ => trivial
  | cons lv ls ih => exact fun h hk => ⟨fun hne => (hk ls.length (by simp)).trans (h.1 hne), ih h.2 (fun d hd => hk d (by simp; omega))⟩
theorem PSM.keep {w w1 : MW} {ps : List Pst} (h : PSM w ps) (h26 : w1.1 26 = w.1 26) (hk : ∀ k i, 27 ≤ k → k < 31 → i < ps.length → w1.2 k i = w.2 k i) : PSM w1 ps := by
  refine ⟨h26.trans h.1, fun k p hp => ?_⟩
  have hlt : k < ps.length := (List.getElem?_eq_some_iff.mp hp).1
  obtain ⟨a, b, c, d⟩ := h.2 k p hp
  exact ⟨(hk 27 k (by decide) (by decide) hlt).trans a, (hk 28 k (by decide) (by decide) hlt).trans b, (hk 29 k (by decide) (by decide) hlt).trans c, (hk 30 k (by decide) (by decide) hlt).trans d⟩
