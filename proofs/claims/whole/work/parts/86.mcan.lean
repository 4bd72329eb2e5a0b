/-! the reference: the written form of a draft that was read, how many postings it counts, whether it can be an entry -/
def nwS (w : MW) (x : List Nat) : MW := (fun k => if k = 45 then nI x.length else w.1 k, fun k => if k = 46 then (fun i => if i < x.length then nI (x.getD i 0) else w.2 46 i) else w.2 k)
theorem nwS_nil {w : MW} : nwS w [] = mS w 45 0 := by
  refine Prod.ext rfl (funext fun k => ?_)
  show (if k = 46 then _ else w.2 k) = w.2 k
  by_cases hk : k = 46
  · rw [if_pos hk, hk]
    exact funext fun i => if_neg (Nat.not_lt_zero _)
  · exact if_neg hk
theorem nwS_put {w : MW} {x : List Nat} {c : Nat} : mS (mA (nwS w x) 46 x.length (nI c)) 45 (nI (x.length + 1)) = nwS w (x ++ [c]) := by
  have hl : (x ++ [c]).length = x.length + 1 := by simp
  refine Prod.ext (funext fun k => ?_) (funext fun k => ?_)
  · show (if k = 45 then nI (x.length + 1) else if k = 45 then _ else w.1 k) = if k = 45 then nI ((x ++ [c]).length) else w.1 k
    by_cases hk : k = 45
    · rw [if_pos hk, if_pos hk, hl]
    · rw [if_neg hk, if_neg hk, if_neg hk]
  · show (if k = 46 then upd _ _ _ else if k = 46 then _ else w.2 k) = if k = 46 then _ else w.2 k
    by_cases hk : k = 46
    · rw [if_pos hk, if_pos hk]
      refine funext fun i => ?_
      have e2 : (nwS w x).2 46 i = if i < x.length then nI (x.getD i 0) else w.2 46 i := rfl
      show upd _ _ _ i = if i < (x ++ [c]).length then _ else _
      rw [hl]
      unfold upd
      rw [e2]
      by_cases hi : i = x.length
      · subst hi
        rw [if_pos rfl, if_pos (by omega), getD_snoc, if_neg (Nat.lt_irrefl _), if_pos rfl]
      · rw [if_neg hi]
        by_cases h2 : i < x.length
        · rw [if_pos h2, if_pos (by omega), getD_snoc, if_pos h2]
        · rw [if_neg h2, if_neg (by omega)]
    · rw [if_neg hk, if_neg hk, if_neg hk]
theorem mCopyL {n : Nat} {w : MW} {N G id : Nat} {v2 : Int32} {y : List Nat} (hT : TXI w N G id y) (hN : N ≤ 64) (hG : G ≤ 4096) : ∀ (r : List Nat) (i k : Nat) (x : List Nat), y.drop i = r → i ≤ y.length → r.length < k → x.length + r.length ≤ 60 →
    fX7_readsDraft_L244 n k (nwS w x) v2 (nI id) (nI i) = some (v2, nwS w (x ++ r)) := by
  obtain ⟨t1, p, t2, t3, t4, t5⟩ := hT
  intro r
  induction r with
  | nil =>
    intro i k x hdr hi hk hx
    obtain ⟨k, rfl⟩ : ∃ k', k = k' + 1 := ⟨k - 1, by simp at hk; omega⟩
    have hie : i = y.length := drop_nil hdr hi
    unfold fX7_readsDraft_L244
    rw [inB_nI (show id < mLen 35 from Nat.lt_of_lt_of_le t1 hN) (by decide), nI_clamp (by omega)]
    have e35 : (nwS w x).2 35 id = nI y.length := t3
    simp only [chk, e35]
    rw [if_pos (by rw [hie]; exact Int32.le_refl _), List.append_nil]
  | cons c r ih =>
    intro i k x hdr hi hk hx
    obtain ⟨k, rfl⟩ : ∃ k', k = k' + 1 := ⟨k - 1, by simp at hk; omega⟩
    obtain ⟨hlt, hg, hdr2⟩ := drop_next hdr
    simp only [List.length_cons] at hk hx
    unfold fX7_readsDraft_L244
    rw [inB_nI (show id < mLen 35 from Nat.lt_of_lt_of_le t1 hN) (by decide), inB_nI (show id < mLen 34 from Nat.lt_of_lt_of_le t1 hN) (by decide), nI_clamp (by omega)]
    have e35 : (nwS w x).2 35 id = nI y.length := t3
    have e34 : (nwS w x).2 34 id = nI p := t2
    have e41 : (nwS w x).2 41 (p + i) = nI c := (t5 i hlt).trans (by rw [hg])
    have e45 : (nwS w x).1 45 = nI x.length := rfl
    simp only [chk, e35, e34, nI_add]
    rw [if_neg (nI_ge hlt (by omega)), inB_nI (show p + i < mLen 41 from (by show p + i < 4096; omega)) (by decide), nI_clamp (by omega), e41, e45, inB_nI (show x.length < mLen 46 from (by show x.length < 60; omega)) (by decide), nI_clamp (show x.length < 2 ^ 31 by omega)]
    simp only [bnd, mA_1, e45, nI_1]
    rw [nwS_put, ih (i + 1) k (x ++ [c]) hdr2 hlt (by omega) (by simp; omega)]
    simp
theorem mFormL {n : Nat} {w : MW} {N G : Nat} {l : List Nat} {xs : List (List Nat)} (hl : l.length = xs.length) (h42 : w.2 42 0 = nI l.length) (h43 : ∀ k, k < l.length → w.2 43 k = nI (l.getD k 0)) (hT : ∀ (k : Nat) (y : List Nat), xs[k]? = some y → TXI w N G (l.getD k 0) y) (hN : N ≤ 64) (hG : G ≤ 4096) (hx31 : xs.length ≤ 31) (h60 : (jn xs).length ≤ 60) (hn : 100 < n) :
    ∀ (m j k : Nat), j + m = xs.length → m < k → fX7_readsDraft_L199 n k (nwS w (jn (xs.take j))) (nI j) = some (nwS w (jn xs)) := by
  intro m
  induction m with
  | zero =>
    intro j k hj hk
    obtain ⟨k, rfl⟩ : ∃ k', k = k' + 1 := ⟨k - 1, by omega⟩
    have : j = xs.length := by omega
    subst this
    unfold fX7_readsDraft_L199
    have e42 : (nwS w (jn (xs.take xs.length))).2 42 0 = nI l.length := h42
    have e0 : (0 : Int32).toNatClampNeg = 0 := rfl
    rw [show inB (0 : Int32) (mLen 42) = true by decide, e0, e42]
    simp only [chk]
    rw [if_pos (by rw [hl]; exact Int32.le_refl _), List.take_length]
  | succ m ih =>
    intro j k hj hk
    obtain ⟨k, rfl⟩ : ∃ k', k = k' + 1 := ⟨k - 1, by omega⟩
    have hlt : j < xs.length := by omega
    obtain ⟨y, hyj⟩ : ∃ y, xs[j]? = some y := ⟨_, List.getElem?_eq_getElem hlt⟩
    have hrec := ih (j + 1) k (by omega) (by omega)
    rw [take_snoc hyj, jsn] at hrec
    have htl2 := jn_take_le xs (j + 1)
    rw [take_snoc hyj, jsn, List.length_append, List.length_append] at htl2
    have hJ : ∀ z : List Nat, z.length + y.length ≤ 60 → (jn (xs.take j) ++ ((if xs.take j = [] then [] else [32]) ++ y)) = z ++ y → fX7_readsDraft_J241 n (fX7_readsDraft_L199 n k) (nwS w z) (nI j) (nI (l.getD j 0)) = some (nwS w (jn xs)) := by
      intro z hz hzy
      unfold fX7_readsDraft_J241
      have hc := mCopyL (n := n) (v2 := nI j) (hT j y hyj) hN hG y 0 n z rfl (Nat.zero_le _) (by omega) hz
      have e0 : nI 0 = (0 : Int32) := nI_0
      rw [e0] at hc
      rw [hc]
      simp only [bL2, nI_1]
      rw [← hzy, hrec]
    unfold fX7_readsDraft_L199
    have e42 : (nwS w (jn (xs.take j))).2 42 0 = nI l.length := h42
    have e43 : (nwS w (jn (xs.take j))).2 43 j = nI (l.getD j 0) := h43 j (by omega)
    have e0 : (0 : Int32).toNatClampNeg = 0 := rfl
    rw [show inB (0 : Int32) (mLen 42) = true by decide, e0, e42]
    simp only [chk]
    rw [if_neg (nI_ge (show j < l.length by omega) (by omega)), inB_nI (show j < mLen 43 from (by show j < 192; omega)) (by decide), nI_clamp (show j < 2 ^ 31 by omega), e43]
    simp only [bnd]
    by_cases h0 : j = 0
    · subst h0
      rw [if_pos (show nI 0 ≤ (0 : Int32) by decide)]
      exact hJ _ (by simp at htl2 ⊢; omega) (by simp [jn])
    · rw [if_neg (nI_nle (by omega) (by omega))]
      have hne : xs.take j ≠ [] := by
        intro h
        have := congrArg List.length h
        simp at this
        rcases this with h | h
        · exact h0 h
        · rw [h] at hlt; simp at hlt
      rw [if_neg hne] at htl2
      simp only [List.length_cons, List.length_nil] at htl2
      have e45 : (nwS w (jn (xs.take j))).1 45 = nI (jn (xs.take j)).length := rfl
      have e32 : (32 : Int32) = nI 32 := rfl
      rw [e45, inB_nI (show (jn (xs.take j)).length < mLen 46 from (by show _ < 60; omega)) (by decide), nI_clamp (show (jn (xs.take j)).length < 2 ^ 31 by omega)]
      simp only [mA_1, e45, nI_1]
      rw [e32, nwS_put]
      exact hJ _ (by simp; omega) (by rw [if_neg hne]; simp)
/-- the draft was read: its written form, its postings -/
def RDN (w : MW) (W : List Nat) (ps : List Pst) : Prop := w.1 45 = nI W.length ∧ (∀ i, i < W.length → w.2 46 i = nI (W.getD i 0)) ∧ PSM w ps
theorem RI_0 {w : MW} : RI (mA (mS (mS (mS (mS w 26 0) 31 0) 38 0) 40 0) 42 0 0) 0 0 0 [[]] [[]] 0 := by
  refine ⟨rfl, rfl, rfl, ⟨⟨rfl, fun k hk => absurd hk (Nat.not_lt_zero _)⟩, trivial⟩, ⟨⟨rfl, fun k x hx => by simp at hx⟩, trivial⟩, ⟨fun h => absurd rfl h, trivial⟩, ⟨rfl, fun k p hp => by simp [alP] at hp⟩, by decide, by decide, by decide⟩
theorem mReads {n : Nat} {w : MW} {d : List Nat} (hD : mDraft w d) (hf : xFault d = none) (hn : 2000 < n) : ∃ w', fX7_readsDraft n w = some w' ∧ RDN w' (nwE d).2.1 (nwE d).2.2.1 ∧ MFR w w' ∧ ∃ h', h' ≠ 0 ∧ LVI (fRun (tkOf d) [[]]) 0 h' d.length := by
  obtain ⟨ht, hG⟩ := tkOf_ok hf
  have hdl := hD.2.2.1
  obtain ⟨w0, hw0⟩ : ∃ w0, w0 = mA (mS (mS (mS (mS w 26 0) 31 0) 38 0) 40 0) 42 0 0 := ⟨_, rfl⟩
  have hF0 : MFR w w0 := by
    rw [hw0]
    exact (((((MFR.mS (by decide)).trans (MFR.mS (by decide))).trans (MFR.mS (by decide))).trans (MFR.mS (by decide))).trans (MFR.mA (by decide)))
  have hR0 : RI w0 0 0 0 [[]] [[]] 0 := by rw [hw0]; exact RI_0
  obtain ⟨w1, N, P, G, ids, k1, k2, k3⟩ := mfL (n := n) hn (tkOf d) 0 0 0 n w0 0 0 0 [[]] [[]] (hD.keep hF0) ht hG (by decide) LVI_nil hR0 (Nat.zero_le _) (by rw [← ht]; omega)
  -- the levels' end, again out of the landed side's walk over the same pieces
  have hLV : ∃ h', h' ≠ 0 ∧ LVI (fRun (tkOf d) [[]]) 0 h' d.length := by
    have key : ∀ (ts : List Tok) (i op h : Nat) (L : List (List Itm)), GV ts op h → h ≤ 2 → LVI L op h i → ∃ h', h' ≠ 0 ∧ LVI (fRun ts L) 0 h' (i + (tkx ts).length) := by
      intro ts
      induction ts with
      | nil =>
        intro i op h L hG hh hI
        obtain ⟨ho, h1⟩ := hG
        subst ho
        exact ⟨h, by omega, hI⟩
      | cons t ts ih =>
        intro i op h L hG hh hI
        have ex : (tkx (t :: ts)).length = t.2.length + (tkx ts).length := by
          show (t.2 ++ tkx ts).length = _
          rw [List.length_append]
        have hrun : fRun (t :: ts) L = fRun ts (fTk t L) := rfl
        obtain ⟨lv, ls, rfl, htop⟩ := hI.2.2.2.1
        rw [ex, hrun, ← Nat.add_assoc]
        rcases hG with ⟨rfl, hG⟩ | ⟨c, s, ds, rfl, hc, hs, hds, hl1, hl3, hh1, hG⟩ | ⟨rfl, hh1, hop, hG⟩ | ⟨d, hd, hh0, hop, hG⟩
        · exact ih _ _ _ _ hG (by by_cases h0 : h = 0 <;> simp [h0]) (LVI_blank hI)
        · have e : (c :: s :: ds).length = 2 + ds.length := by simp; omega
          rw [e]
          exact ih _ _ _ _ hG (by decide) (LVI_post hI hh1 hh hc hs hds hl1 hl3)
        · exact ih _ _ _ _ hG (by decide) (LVI_open hI hh1 hh hop)
        · obtain ⟨l2, ls, rfl⟩ : ∃ l2 ls', ls = l2 :: ls' := by
            cases ls with
            | nil => have := hI.2.1; simp at this; omega
            | cons l2 ls => exact ⟨l2, ls, rfl⟩
          rcases hd with ⟨rfl, rfl⟩ | ⟨rfl, hd1, hd9⟩
          · exact ih _ _ _ _ hG (by decide) (LVI_close (m := 1) hI hh0 (by decide) (by decide) (Or.inl ⟨rfl, rfl⟩))
          · have hft : fTk (4, [41, 120, 48 + d]) (lv :: l2 :: ls) = up d (lv :: l2 :: ls) := by simp [fTk]
            rw [hft]
            exact ih _ _ _ _ hG (by decide) (LVI_close (m := 3) hI hh0 hd1 hd9 (Or.inr rfl))
    obtain ⟨h', e1, e2⟩ := key (tkOf d) 0 0 0 [[]] hG (by decide) LVI_nil
    rw [Nat.zero_add, ← ht] at e2
    exact ⟨h', e1, e2⟩
  obtain ⟨h', hh, hI⟩ := hLV
  have hI0 := hI
  obtain ⟨a1, a2, a3, ⟨lv, ls, hL, a4⟩, a5, a6⟩ := hI
  obtain rfl : ls = [] := by
    cases ls with
    | nil => rfl
    | cons y ys => rw [hL] at a2; simp at a2
  have hN20 : N ≤ 20 := by have := k2.2.2.2.2.2.2.2.1; omega
  have hG12 : G ≤ 1200 := by have := k2.2.2.2.2.2.2.2.2.2; omega
  rw [hL] at k2 a1 a5 a6
  obtain ⟨r1, r2, r3, r4, r5, r6, r7, r8⟩ := k2
  obtain ⟨l, rfl⟩ : ∃ l, ids = [l] := by
    have := r5.len
    match ids, this with
    | [l], _ => exact ⟨l, rfl⟩
  obtain ⟨⟨q1, q2⟩, -⟩ := r4
  obtain ⟨⟨m1, m2⟩, -⟩ := r5
  have halp : (alP [lv]).length ≤ 15 := by
    by_cases h1 : h' = 1
    · rw [if_pos h1] at a6; omega
    · rw [if_neg h1] at a6; omega
  have hlv := TB_len a1 lv List.mem_cons_self
  have hW : (jn (lv.map itx)).length ≤ 60 := by
    have : (rnd [lv]).length = (jn (lv.map itx)).length := rfl
    omega
  have hT : ∀ (k : Nat) (y : List Nat), (lv.map itx)[k]? = some y → TXI w1 N G (l.getD k 0) y := by
    intro k y hy
    rw [List.getElem?_map] at hy
    cases hk : lv[k]? with
    | none => rw [hk] at hy; cases hy
    | some x =>
      rw [hk] at hy
      simp only [Option.map_some, Option.some.injEq] at hy
      subst hy
      exact (m2 k x hk).1
  have hxl : (lv.map itx).length = lv.length := List.length_map ..
  have hfm := mFormL (n := n) (w := w1) (xs := lv.map itx) (l := l) (by omega) q1 (fun k hk => by have := q2 k hk; simpa using this) hT (by omega) (by omega) (by omega) hW (by omega) (lv.map itx).length 0 n (by omega) (by omega)
  have e0 : nI 0 = (0 : Int32) := nI_0
  have en : jn ((lv.map itx).take 0) = [] := rfl
  rw [en, nwS_nil, e0] at hfm
  rw [e0] at k1
  have hE1 : (nwE d).2.1 = jn (lv.map itx) := by
    show rnd (fRun (tkOf d) [[]]) = _
    rw [hL]; rfl
  have hE2 : (nwE d).2.2.1 = alP [lv] := by
    show alP (fRun (tkOf d) [[]]) = _
    rw [hL]
  refine ⟨nwS w1 (jn (lv.map itx)), ?_, ⟨by rw [hE1]; rfl, fun i hi => ?_, ?_⟩, (hF0.trans k3).trans (fun q hq => ⟨if_neg (by omega), if_neg (by omega)⟩), h', hh, hI0⟩
  · unfold fX7_readsDraft
    have e0' : (0 : Int32).toNatClampNeg = 0 := rfl
    simp only [bnd, show inB (0 : Int32) (mLen 42) = true by decide, chk, e0']
    rw [← hw0, k1]
    simp only [bL1, hfm]
  · rw [hE1] at hi ⊢
    exact if_pos hi
  · rw [hE2]
    exact r7.keep rfl (fun k j hk1 hk2 _ => by show (if k = 46 then _ else w1.2 k) j = _; rw [if_neg (by omega)])
theorem cnt_cons (p : Pst) (ps : List Pst) : cnt (p :: ps) = p.2.2.2 + cnt ps := by
  have key : ∀ (ps : List Pst) (a : Nat), ps.foldl (fun s p => s + p.2.2.2) a = a + ps.foldl (fun s p => s + p.2.2.2) 0 := by
    intro ps
    induction ps with
    | nil => exact fun a => rfl
    | cons p ps ih => intro a; rw [List.foldl_cons, List.foldl_cons, ih, ih (0 + p.2.2.2)]; omega
  show List.foldl _ (0 + p.2.2.2) ps = _
  rw [key]
  unfold cnt
  omega
theorem ldropP {L : List Pst} {i : Nat} {E : Pst} {r : List Pst} (h : L.drop i = E :: r) : i < L.length ∧ L[i]? = some E ∧ L.drop (i + 1) = r := ldrop h
theorem mCountL {n : Nat} {w : MW} {ps : List Pst} (h : PSM w ps) (h16 : ps.length ≤ 16) : ∀ (r : List Pst) (i s k : Nat), ps.drop i = r → r.length < k → i ≤ 100 → fX7_readCount_L4 n k w (nI s) (nI i) = some (nI (s + cnt r)) := by
  intro r
  induction r with
  | nil =>
    intro i s k hdr hk hi
    obtain ⟨k, rfl⟩ : ∃ k', k = k' + 1 := ⟨k - 1, by simp at hk; omega⟩
    unfold fX7_readCount_L4
    rw [h.1, if_pos (nI_le (ldnil hdr) (by omega))]
    rfl
  | cons p r ih =>
    intro i s k hdr hk hi
    obtain ⟨k, rfl⟩ : ∃ k', k = k' + 1 := ⟨k - 1, by simp at hk; omega⟩
    obtain ⟨hlt, hg, hdr2⟩ := ldrop hdr
    simp only [List.length_cons] at hk
    unfold fX7_readCount_L4
    rw [h.1, if_neg (nI_ge hlt (by omega)), inB_nI (show i < mLen 30 from (by show i < 16; omega)) (by decide), nI_clamp (by omega), (h.2 i p hg).2.2.2]
    simp only [chk, bnd, nI_add, nI_1]
    rw [ih (i + 1) _ k hdr2 (by omega) (by omega), cnt_cons, Nat.add_assoc]
theorem xRun_lt : ∀ (r : List Nat) (q op i j : Nat), xRun r q op i = .inl j → j < i + r.length := by
  intro r
  induction r with
  | nil => exact fun q op i j h => nomatch h
  | cons c r ih =>
    intro q op i j h
    simp only [xRun] at h
    cases hx : xStep q op c with
    | none =>
      rw [hx] at h
      injection h with h
      simp
      omega
    | some s =>
      rw [hx] at h
      have := ih _ _ _ _ h
      simp
      omega
theorem xFaultI_m1 {d : List Nat} (hd : d.length ≤ 60) : xFaultI d = -1 ↔ xFault d = none := by
  unfold xFaultI
  cases h : xFault d with
  | none => exact ⟨fun _ => rfl, fun _ => rfl⟩
  | some j =>
    have hj : j ≤ 60 := by
      unfold xFault at h
      cases hx : xRun d 0 0 0 with
      | inl k =>
        rw [hx] at h
        have := xRun_lt _ _ _ _ _ hx
        injection h with h
        omega
      | inr s =>
        rw [hx] at h
        by_cases hs : 4 ≤ s.1 ∧ s.2 = 0
        · simp only [if_pos hs] at h; cases h
        · simp only [if_neg hs] at h
          injection h with h
          omega
    refine ⟨fun z => ?_, fun z => nomatch z⟩
    exfalso
    have key : ∀ j, j ≤ 60 → nI j ≠ -1 := by decide +kernel
    exact key j hj z
theorem cnt_le {ps : List Pst} {m : Nat} (h : ∀ p ∈ ps, p.2.2.2 ≤ m) : cnt ps ≤ m * ps.length := by
  induction ps with
  | nil => exact Nat.zero_le _
  | cons p ps ih =>
    have h1 := h p List.mem_cons_self
    have h2 := ih (fun q hq => h q (List.mem_cons_of_mem _ hq))
    rw [cnt_cons, List.length_cons, Nat.mul_add]
    omega
theorem nwE_small {d : List Nat} (hd : d.length ≤ 60) (h : ∃ h', h' ≠ 0 ∧ LVI (fRun (tkOf d) [[]]) 0 h' d.length) : cnt (nwE d).2.2.1 < 2 ^ 31 ∧ (nwE d).2.2.1.length ≤ 15 ∧ (nwE d).2.1.length ≤ 60 := by
  obtain ⟨h', hh, a1, a2, a3, ⟨lv, ls, hL, a4⟩, a5, a6⟩ := h
  obtain rfl : ls = [] := by
    cases ls with
    | nil => rfl
    | cons y ys => rw [hL] at a2; simp at a2
  show cnt (alP (fRun (tkOf d) [[]])) < _ ∧ (alP (fRun (tkOf d) [[]])).length ≤ 15 ∧ (rnd (fRun (tkOf d) [[]])).length ≤ 60
  have h15 : (alP (fRun (tkOf d) [[]])).length ≤ 15 := by
    by_cases h1 : h' = 1
    · rw [if_pos h1] at a6; omega
    · rw [if_neg h1] at a6; omega
  rw [hL] at a1 h15 ⊢
  rw [hL] at a5
  have h59 : ∀ p ∈ alP [lv], p.2.2.2 ≤ 59049 := by
    intro p hp
    have hp : p ∈ lv.flatMap ipo := by simpa [alP] using hp
    obtain ⟨x, hx, hp2⟩ := List.mem_flatMap.mp hp
    have := ((a1.1 x hx).2 p hp2).2.2.2
    have e : 9 ^ ([] : List (List Itm)).length = 1 := rfl
    rw [e] at this
    omega
  have := cnt_le h59
  exact ⟨by omega, h15, by omega⟩
theorem mCan {n : Nat} {w : MW} {d : List Nat} (hD : mDraft w d) (hn : 2000 < n) : ∃ w', fX7_canBe n w = some (b2i (!bad d (nwE d).2.2.1), w') ∧ MFR w w' ∧ (bad d (nwE d).2.2.1 = false → RDN w' (nwE d).2.1 (nwE d).2.2.1) := by
  have hdl := hD.2.2.1
  have hfl := mFault (n := n) hD (by omega)
  unfold fX7_canBe
  rw [hfl]
  simp only [bP]
  by_cases hf : xFault d = none
  · obtain ⟨w', k1, k2, k3, k4⟩ := mReads (n := n) hD hf hn
    obtain ⟨s1, s2, s3⟩ := nwE_small hdl k4
    have hc := mCountL (n := n) k2.2.2 (by omega) (nwE d).2.2.1 0 0 n rfl (by omega) (by decide)
    have e0 : nI 0 = (0 : Int32) := nI_0
    rw [e0, Nat.zero_add] at hc
    have hc : fX7_readCount n w' = some (nI (cnt (nwE d).2.2.1)) := by unfold fX7_readCount; rw [hc]; rfl
    rw [if_pos ((xFaultI_m1 hdl).mpr hf), k1]
    simp only [hc]
    by_cases h60 : 60 < cnt (nwE d).2.2.1
    · refine ⟨w', ?_, k3, fun z => ?_⟩
      · rw [if_pos (show (60 : Int32) < nI (cnt (nwE d).2.2.1) from nI_lt (a := 60) h60 s1)]
        have : bad d (nwE d).2.2.1 = true := by simp [bad, h60]
        rw [this]
        rfl
      · simp [bad, h60] at z
    · refine ⟨w', ?_, k3, fun _ => k2⟩
      rw [if_neg (show ¬ ((60 : Int32) < nI (cnt (nwE d).2.2.1)) from nI_nlt (a := 60) (by omega) (by decide))]
      have : bad d (nwE d).2.2.1 = false := by simp [bad, h60, hf]
      rw [this]
      rfl
  · refine ⟨w, ?_, MFR.rf, fun z => ?_⟩
    · rw [if_neg (fun z => hf ((xFaultI_m1 hdl).mp z))]
      have : bad d (nwE d).2.2.1 = true := by simp [bad, hf]
      rw [this]
      rfl
    · simp [bad, hf] at z
