/-! the reference reads a draft -/
theorem RIp.mono {w : MW} {N P G i j : Nat} {ids : List (List Nat)} {L : List (List Itm)} {ps : List Pst} (h : RIp w N P G ids L ps i) (hij : i ≤ j) : RIp w N P G ids L ps j := by
  obtain ⟨a1, a2, a3, a4, a5, a6, a7, a8, a9⟩ := h
  exact ⟨a1, a2, a3, a4, a5, a6, a7, by omega, a9⟩
theorem flat_len {lv : List Itm} (h : ∀ x ∈ lv, ITM x) : lv.length ≤ (lv.flatMap ipo).length := by
  induction lv with
  | nil => exact Nat.le_refl _
  | cons x lv ih =>
    have h1 := ih (fun y hy => h y (List.mem_cons_of_mem _ hy))
    have h2 := (h x List.mem_cons_self).2.2.2.1
    have h3 : 1 ≤ (ipo x).length := by
      have := List.length_pos_iff.mpr h2
      show 1 ≤ (x.2.2.2.map _).length
      rw [List.length_map]
      exact this
    rw [List.flatMap_cons, List.length_append, List.length_cons]
    omega
theorem TB_len : ∀ {L : List (List Itm)}, TB L → ∀ lv ∈ L, lv.length ≤ (alP L).length := by
  intro L
  induction L with
  | nil => exact fun _ _ h => nomatch h
  | cons l ls ih =>
    intro h lv hlv
    have e : (alP (l :: ls)).length = (alP ls).length + (l.flatMap ipo).length := by simp [alP]
    rw [e]
    rcases List.mem_cons.mp hlv with rfl | hlv
    · have := flat_len (fun x hx => (h.1 x hx).1)
      omega
    · have := ih h.2 lv hlv
      omega
theorem MAT.lens {w : MW} {N P G m : Nat} : ∀ {ids : List (List Nat)} {L : List (List Itm)}, MAT w N P G ids L → (∀ lv ∈ L, lv.length ≤ m) → ∀ l ∈ ids, l.length ≤ m := by
  intro ids
  induction ids with
  | nil => exact fun _ _ _ h => nomatch h
  | cons l ls ih =>
    intro L h hL l' hl'
    cases L with
    | nil => exact h.elim
    | cons lv L =>
      rcases List.mem_cons.mp hl' with rfl | hl'
      · rw [h.1.1]; exact hL lv List.mem_cons_self
      · exact ih h.2 (fun m hm => hL m (List.mem_cons_of_mem _ hm)) l' hl'
theorem mSkipL {n : Nat} {w : MW} {D r : List Nat} {v1 : Int32} (hD : mDraft w D) : ∀ (y : List Nat) (i k : Nat), D.drop i = y ++ r → (∀ c ∈ y, skp c) → i ≤ D.length → fX7_readsDraft_L31 n (k + y.length) w v1 (nI i) = fX7_readsDraft_L31 n k w v1 (nI (i + y.length)) := by
  have hdl := hD.2.2.1
  intro y
  induction y with
  | nil => exact fun i k _ _ _ => rfl
  | cons c y ih =>
    intro i k hdr hy hi
    rw [List.cons_append] at hdr
    obtain ⟨hlt, hg, hdr2⟩ := drop_next hdr
    obtain ⟨s1, s2, s3, s4⟩ := hy c List.mem_cons_self
    have hrec := ih (i + 1) k hdr2 (fun z hz => hy z (List.mem_cons_of_mem _ hz)) hlt
    simp only [List.length_cons]
    have e1 : k + (y.length + 1) = (k + y.length) + 1 := by omega
    have e2 : i + (y.length + 1) = i + 1 + y.length := by omega
    rw [e1, e2, ← hrec]
    conv => lhs; unfold fX7_readsDraft_L31
    rw [hD.1, if_neg (nI_ge hlt (by omega)), inB_nI (show i < mLen 2 from (by show i < 60; omega)) (by decide), nI_clamp (show i < 2 ^ 31 by omega), hD.at hdr]
    simp only [chk, bnd]
    rw [if_neg (fun z => s2 ((nI_40 s4).mp z)), if_neg (fun z => s3 ((nI_41 s4).mp z)), isIn_acc c s4, s1]
    simp only [bP, Bool.false_eq_true, if_false, if_true, nI_1]
theorem mOpen {w : MW} {N P G i op : Nat} {ids : List (List Nat)} {L : List (List Itm)} (H : RI w N P G ids L i) (hop : L.length = op + 1) (ho5 : op < 5) (hcap : ∀ l' ∈ ids, l'.length ≤ 31) : RI (mA (mA w 42 (op + 1) 0) 44 (op + 1) (nI (alP L).length)) N P G ([] :: ids) ([] :: L) (i + 1) ∧ MFR w (mA (mA w 42 (op + 1) 0) 44 (op + 1) (nI (alP L).length)) := by
  obtain ⟨h1, h2, h3, h4, h5, h6, h7, h8, h9, h10⟩ := H
  have hil := h5.len
  obtain ⟨w', hw⟩ : ∃ w', w' = mA (mA w 42 (op + 1) 0) 44 (op + 1) (nI (alP L).length) := ⟨_, rfl⟩
  rw [← hw]
  have f42 : w'.2 42 = upd (w.2 42) (op + 1) 0 := by rw [hw]; rfl
  have f44 : w'.2 44 = upd (w.2 44) (op + 1) (nI (alP L).length) := by rw [hw]; rfl
  have f : ∀ q, q ≠ 42 → q ≠ 44 → w'.2 q = w.2 q := fun q q1 q2 => by rw [hw]; show (if q = 44 then _ else if q = 42 then _ else w.2 q) = _; rw [if_neg q2, if_neg q1]
  have f1 : w'.1 = w.1 := by rw [hw]; rfl
  have hE : EXT w w' N P G N P G := ⟨Nat.le_refl _, Nat.le_refl _, Nat.le_refl _, fun k j hk1 hk2 hj => by rw [f k (by omega) (by omega)], fun j _ => by rw [f 39 (by decide) (by decide)], fun j _ => by rw [f 41 (by decide) (by decide)]⟩
  refine ⟨⟨by rw [f1]; exact h1, by rw [f1]; exact h2, by rw [f1]; exact h3, ⟨⟨by rw [hil, hop, f42, upd_at]; rfl, fun k hk => absurd hk (Nat.not_lt_zero _)⟩, h4.keep (fun d hd => ⟨by rw [f42, upd_ne (by omega)], fun k _ => by rw [f 43 (by decide) (by decide)]⟩) (fun l hl => by have := hcap l hl; omega)⟩, ⟨⟨rfl, fun k x hx => by simp at hx⟩, h5.keep hE⟩, ⟨fun _ => by rw [hop, f44, upd_at], h6.keep (fun d hd => by rw [f44, upd_ne (by omega)])⟩, ?_, by omega, h9, h10⟩, fun k hk => ⟨by rw [f1], f k (by omega) (by omega)⟩⟩
  have e : alP ([] :: L) = alP L := by simp [alP]
  rw [e]
  exact h7.keep (by rw [f1]) (fun k j hk1 hk2 _ => by rw [f k (by omega) (by omega)])
theorem alP_up1 {lv lv2 : List Itm} {L : List (List Itm)} : alP ((lv2 ++ lv) :: L) = alP (lv2 :: L) ++ lv.flatMap ipo := by simp [alP]
theorem alP_upg {lv lv2 : List Itm} {L : List (List Itm)} {t : Nat} : alP ((lv2 ++ [gIt lv t]) :: L) = alP (lv2 :: L) ++ (lv.flatMap ipo).map (mulP t) := by simp [alP, ipo_gIt]
theorem mfL {n : Nat} {D : List Nat} (hn : 2000 < n) : ∀ (ts : List Tok) (i op h k : Nat) (w : MW) (N P G : Nat) (ids : List (List Nat)) (L : List (List Itm)), mDraft w D → D.drop i = tkx ts → GV ts op h → h ≤ 2 → LVI L op h i → RI w N P G ids L i → i ≤ D.length → (tkx ts).length < k →
    ∃ w' N' P' G' ids', fX7_readsDraft_L31 n k w (nI op) (nI i) = some w' ∧ RI w' N' P' G' ids' (fRun ts L) D.length ∧ MFR w w' := by
  intro ts
  induction ts with
  | nil =>
    intro i op h k w N P G ids L hD hdr hG hh hI hR hi hk
    obtain ⟨k, rfl⟩ : ∃ k', k = k' + 1 := ⟨k - 1, by simp [tkx] at hk; omega⟩
    have hdl := hD.2.2.1
    have hie : i = D.length := drop_nil hdr hi
    refine ⟨w, N, P, G, ids, ?_, RIp.mono hR (by omega), MFR.rf⟩
    unfold fX7_readsDraft_L31
    rw [hD.1, if_pos (by rw [hie]; exact Int32.le_refl _)]
  | cons t ts ih =>
    intro i op h k w N P G ids L hD hdr hG hh hI hR hi hk
    have hdl := hD.2.2.1
    have hlen := drop_le hdr hi
    obtain ⟨lv, ls, rfl, htop⟩ := hI.2.2.2.1
    have ex : tkx (t :: ts) = t.2 ++ tkx ts := rfl
    rw [ex] at hdr hk hlen
    rw [List.length_append] at hk hlen
    have hrun : fRun (t :: ts) (lv :: ls) = fRun ts (fTk t (lv :: ls)) := rfl
    rw [hrun]
    have hTB := hI.1
    have hop1 := hI.2.1
    have hop5 := hI.2.2.1
    have halp : (alP (lv :: ls)).length ≤ 15 := by
      have := hI.2.2.2.2.2
      by_cases h1 : h = 1
      · rw [if_pos h1] at this; omega
      · rw [if_neg h1] at this; omega
    have hLl : ∀ m ∈ lv :: ls, m.length ≤ 15 := fun m hm => Nat.le_trans (TB_len hTB m hm) halp
    have hil : ∀ l ∈ ids, l.length ≤ 15 := hR.2.2.2.2.1.lens hLl
    have hN20 : N ≤ 20 := by have := hR.2.2.2.2.2.2.2.1; omega
    have hG12 : G ≤ 1200 := by have := hR.2.2.2.2.2.2.2.2.2; omega
    have hidl := hR.2.2.2.2.1.len
    obtain ⟨l, ids, rfl⟩ : ∃ l ids', ids = l :: ids' := by
      cases ids with
      | nil => simp at hidl
      | cons l ids => exact ⟨l, ids, rfl⟩
    rcases hG with ⟨rfl, hG⟩ | ⟨c, s, ds, rfl, hc, hs, hds, hl1, hl3, hh1, hG⟩ | ⟨rfl, hh1, hop, hG⟩ | ⟨d, hd, hh0, hop, hG⟩
    · -- a blank
      obtain ⟨k, rfl⟩ : ∃ k', k = k' + 1 := ⟨k - 1, by omega⟩
      have hsk := mSkipL (n := n) (v1 := nI op) hD [32] i k hdr (fun c hc => by rw [List.mem_singleton.mp hc]; exact ⟨rfl, by decide, by decide, by decide⟩) hi
      obtain ⟨hlt, -, hdr2⟩ := drop_next hdr
      obtain ⟨w', N', P', G', ids', k1, k2, k3⟩ := ih (i + 1) op _ k w N P G (l :: ids) _ hD hdr2 hG (by by_cases h0 : h = 0 <;> simp [h0]) (LVI_blank hI) (RIp.mono hR (by omega)) hlt (by simp at hk; omega)
      exact ⟨w', N', P', G', ids', by rw [← k1]; exact hsk, k2, k3⟩
    · -- a posting
      simp only [List.length_cons] at hk hlen
      obtain ⟨hlt, -, hdr2⟩ := drop_next hdr
      have hdr' : D.drop i = c :: s :: (ds ++ tkx ts) := by rw [hdr]; rfl
      have hI2 := LVI_post hI hh1 hh hc hs hds hl1 hl3
      have hnd := (tkx_hd hG).1
      have hls : op = ls.length := by simp at hop1; omega
      have hll := hil l List.mem_cons_self
      have hm : w.2 42 op = nI l.length := by
        have := hR.2.2.2.1.1.1
        have e : ids.length = op := by simp at hidl; omega
        rwa [e] at this
      have hpost := mPost (n := n) (m := l.length) hD hdr' hnd hc hs hds hl1 hl3 hR.1 hR.2.1 hR.2.2.1 hR.2.2.2.2.2.2.1.1 (show op < 6 by omega) hm (by omega) (by omega) (show (alP (lv :: ls)).length < 16 by omega) (by omega) (by omega)
      have hri := RI_post (c := c) (s := s) (d := op) hR hls (by omega) (fun l' hl' => by have := hil l' hl'; omega) (by omega) (by omega) hl3 hl1 hds
      obtain ⟨k, rfl⟩ : ∃ k', k = (k' + (s :: ds).length) + 1 := ⟨k - 1 - (s :: ds).length, by simp at hk ⊢; omega⟩
      obtain ⟨w1, hw1⟩ : ∃ w1, w1 = rpS w N P G (alP (lv :: ls)).length op l.length (c - 97, decide (s = 45), nmv 0 ds, 1) (itx (pIt c s ds)) := ⟨_, rfl⟩
      rw [← hw1] at hpost hri
      have hF1 : MFR w w1 := by rw [hw1]; exact rpS_fr
      have hD1 := hD.keep hF1
      have hsk := mSkipL (n := n) (v1 := nI op) (r := tkx ts) hD1 (s :: ds) (i + 1) k hdr2 (fun z hz => by
        rcases List.mem_cons.mp hz with rfl | hz
        · exact skp_sgn hs
        · exact skp_dig (hds z hz)) hlt
      have e3 : i + 1 + (s :: ds).length = i + (2 + ds.length) := by simp; omega
      have hdr3 : D.drop (i + (2 + ds.length)) = tkx ts := by
        have e4 : (c :: s :: ds).length = 2 + ds.length := by simp; omega
        rw [drop_add hdr, ← e4, List.drop_left]
      obtain ⟨w', N', P', G', ids', k1, k2, k3⟩ := ih (i + (2 + ds.length)) op 1 k w1 _ _ _ _ _ hD1 hdr3 hG (by decide) hI2 hri (by omega) (by simp at hk; omega)
      refine ⟨w', N', P', G', ids', ?_, k2, hF1.trans k3⟩
      have hcc := xAcc_iff.mp hc
      unfold fX7_readsDraft_L31
      rw [hD.1, if_neg (nI_ge hlt (by omega)), inB_nI (show i < mLen 2 from (by show i < 60; omega)) (by decide), nI_clamp (show i < 2 ^ 31 by omega), hD.at hdr']
      simp only [chk, bnd]
      rw [if_neg (fun z => by have := (nI_40 (show c < 127 by omega)).mp z; omega), if_neg (fun z => by have := (nI_41 (show c < 127 by omega)).mp z; omega), isIn_acc c (by omega), hc]
      simp only [bP, if_true]
      rw [if_neg (show ¬ ((1 : Int32) = 0) by decide)]
      simp only [hpost, nI_1]
      rw [hsk, e3]
      exact k1
    · -- a group opens
      obtain ⟨k, rfl⟩ : ∃ k', k = k' + 1 := ⟨k - 1, by omega⟩
      have hdr' : D.drop i = 40 :: tkx ts := hdr
      obtain ⟨hlt, -, hdr2⟩ := drop_next hdr'
      have hI2 := LVI_open hI hh1 hh hop
      obtain ⟨hri, hF⟩ := mOpen hR hop1 hop (fun l' hl' => by have := hil l' hl'; omega)
      obtain ⟨w1, hw1⟩ : ∃ w1, w1 = mA (mA w 42 (op + 1) 0) 44 (op + 1) (nI (alP (lv :: ls)).length) := ⟨_, rfl⟩
      rw [← hw1] at hri hF
      obtain ⟨w', N', P', G', ids', k1, k2, k3⟩ := ih (i + 1) (op + 1) 0 k w1 _ _ _ _ _ (hD.keep hF) hdr2 hG (by decide) hI2 hri hlt (by simp at hk; omega)
      refine ⟨w', N', P', G', ids', ?_, k2, hF.trans k3⟩
      have h26 := hR.2.2.2.2.2.2.1.1
      unfold fX7_readsDraft_L31
      rw [hD.1, if_neg (nI_ge hlt (by omega)), inB_nI (show i < mLen 2 from (by show i < 60; omega)) (by decide), nI_clamp (show i < 2 ^ 31 by omega), hD.at hdr']
      simp only [chk, bnd]
      rw [if_pos (show nI 40 = (40 : Int32) from rfl), nI_1, inB_nI (show op + 1 < mLen 42 from (by show op + 1 < 6; omega)) (by decide), inB_nI (show op + 1 < mLen 44 from (by show op + 1 < 6; omega)) (by decide), nI_clamp (show op + 1 < 2 ^ 31 by omega)]
      simp only [mA_1, h26, nI_1, ← hw1]
      exact k1
    · -- a group closes
      obtain ⟨l2v, ls, rfl⟩ : ∃ l2v ls', ls = l2v :: ls' := by
        cases ls with
        | nil => simp at hop1; omega
        | cons l2v ls => exact ⟨l2v, ls, rfl⟩
      obtain ⟨l2, ids, rfl⟩ : ∃ l2 ids', ids = l2 :: ids' := by
        cases ids with
        | nil => simp at hidl
        | cons l2 ids => exact ⟨l2, ids, rfl⟩
      have hne : lv ≠ [] := fun z => hh0 (htop.mp z)
      have hopl : op = ls.length + 1 := by simp at hop1; omega
      have hd19 : 1 ≤ d ∧ d ≤ 9 := by rcases hd with ⟨-, rfl⟩ | ⟨-, h3, h4⟩ <;> omega
      have hlt : i < D.length := by
        have : 0 < t.2.length := by rcases hd with ⟨rfl, -⟩ | ⟨rfl, -⟩ <;> simp
        omega
      have h44 : w.2 44 op = nI (alP (l2v :: ls)).length := by
        have := hR.2.2.2.2.2.1.1 (by simp)
        rwa [show (l2v :: ls).length = op by simp [hopl]] at this
      have hR26 := hR.2.2.2.2.2.2.1.1
      have hall : (alP (l2v :: ls)).length ≤ (alP (lv :: l2v :: ls)).length := by
        show _ ≤ (alP (l2v :: ls) ++ _).length
        rw [List.length_append]; omega
      have hlv15 := hLl lv List.mem_cons_self
      have hlv25 := hLl l2v (List.mem_cons_of_mem _ List.mem_cons_self)
      have hll := hil l List.mem_cons_self
      have hll2 := hil l2 (List.mem_cons_of_mem _ List.mem_cons_self)
      obtain ⟨w1, hw1⟩ : ∃ w1, w1 = tmS w (alP (l2v :: ls)).length (alP (lv :: l2v :: ls)).length (nI d) := ⟨_, rfl⟩
      have htm := mTimesL (n := n) (w := w) (b := (alP (l2v :: ls)).length) (R := (alP (lv :: l2v :: ls)).length) hR26 (by omega) (nI op) (nI i) (nI d) ((alP (lv :: l2v :: ls)).length - (alP (l2v :: ls)).length) (alP (l2v :: ls)).length n (by omega) (Nat.le_refl _) (by omega)
      rw [tmS_0, ← hw1] at htm
      have hri := RI_times (t := d) hR
      rw [← hw1] at hri
      have hF1 : MFR w w1 := by rw [hw1]; exact fun q hq => ⟨rfl, if_neg (by omega)⟩
      -- the close itself
      have hcl : ∀ m, m = 1 ∧ d = 1 ∨ m = 3 → i + m ≤ D.length → ∃ w2 N' P' G' ids', fX7_closes n w1 (nI op) (nI d) = some w2 ∧ RI w2 N' P' G' ids' (up d (lv :: l2v :: ls)) (i + m) ∧ MFR w1 w2 := by
        intro m hm hid
        rw [up_eq]
        by_cases h1 : d = 1
        · subst h1
          rw [if_pos rfl]
          obtain ⟨w2, k1, k2, k3⟩ := RI_up (n := n) hri hopl (by omega) (by omega) hne (fun l' hl' => by have := hil l' (List.mem_cons_of_mem _ (List.mem_cons_of_mem _ hl')); omega) (by omega)
          refine ⟨w2, N, P, G, (l2 ++ l) :: ids, k1, ?_, k3⟩
          rw [map_mulP1, ← alP_up1] at k2
          exact RIp.mono k2 (by omega)
        · rw [if_neg h1]
          have hm3 : m = 3 := by rcases hm with ⟨-, h⟩ | h; exact absurd h h1; exact h
          have hIc := LVI_close (d := d) (m := m) hI hh0 hd19.1 hd19.2 hm
          rw [up_eq, if_neg h1] at hIc
          have hlen60 : (itx (gIt lv d)).length ≤ 60 := by
            have h5 := hIc.2.2.2.2.1
            rw [rnd_snoc, List.length_append] at h5
            omega
          obtain ⟨w2, N', P', G', l', k1, k2, k3⟩ := RI_close (n := n) (t := d) hri hopl (by omega) hlv15 hlv25 hne (fun x hx => (hTB.1 x hx).1) hd19.1 hd19.2 h1 (fun l' hl' => by have := hil l' (List.mem_cons_of_mem _ (List.mem_cons_of_mem _ hl')); omega) (by omega) hlen60 hn
          refine ⟨w2, N', P', G', (l2 ++ l') :: ids, k1, ?_, k3⟩
          rw [← alP_upg] at k2
          rw [hm3]
          exact k2
      have e44 : inB (nI op) (mLen 44) = true := inB_nI (show op < mLen 44 from (by show op < 6; omega)) (by decide)
      rcases hd with ⟨rfl, rfl⟩ | ⟨rfl, hd1, hd9⟩
      · obtain ⟨k, rfl⟩ : ∃ k', k = k' + 1 := ⟨k - 1, by omega⟩
        have hdr' : D.drop i = 41 :: tkx ts := hdr
        obtain ⟨-, -, hdr2⟩ := drop_next hdr'
        obtain ⟨w2, N1, P1, G1, ids1, c1, c2, c3⟩ := hcl 1 (Or.inl ⟨rfl, rfl⟩) hlt
        have hI2 := LVI_close (m := 1) hI hh0 (by decide) (by decide) (Or.inl ⟨rfl, rfl⟩)
        obtain ⟨w', N', P', G', ids', k1, k2, k3⟩ := ih (i + 1) (op - 1) 1 k w2 _ _ _ _ _ ((hD.keep hF1).keep c3) hdr2 hG (by decide) hI2 c2 hlt (by simp at hk; omega)
        refine ⟨w', N', P', G', ids', ?_, k2, (hF1.trans c3).trans k3⟩
        have hJ118 : fX7_readsDraft_J118 n (fX7_readsDraft_L31 n k) w (nI op) (nI i) = some w' := by
          unfold fX7_readsDraft_J118 fX7_readsDraft_J119
          have htm1 : fX7_readsDraft_L129 n n w (nI op) (nI i) (1 : Int32) (nI (alP (l2v :: ls)).length) = some (nI op, nI i, nI 1, w1) := htm
          rw [e44, nI_clamp (show op < 2 ^ 31 by omega), h44]
          simp only [chk, bnd]
          rw [htm1]
          simp only [bL4, c1, bP]
          have e2 : nI op + (-1 : Int32) = nI (op - 1) := by
            obtain ⟨o, rfl⟩ : ∃ o, op = o + 1 := ⟨op - 1, by omega⟩
            rw [nI_m1, nI_pred]; rfl
          rw [e2, nI_1]
          exact k1
        unfold fX7_readsDraft_L31
        rw [hD.1, if_neg (nI_ge hlt (by omega)), inB_nI (show i < mLen 2 from (by show i < 60; omega)) (by decide), nI_clamp (show i < 2 ^ 31 by omega), hD.at hdr']
        simp only [chk, bnd]
        rw [if_neg (show ¬ (nI 41 = (40 : Int32)) by decide), if_pos (show nI 41 = (41 : Int32) from rfl), nI_1]
        by_cases hend : D.length ≤ i + 1
        · rw [if_pos (nI_le hend (by omega))]
          exact hJ118
        · rw [if_neg (nI_ge (by omega) (by omega)), inB_nI (show i + 1 < mLen 2 from (by show i + 1 < 60; omega)) (by decide), nI_clamp (show i + 1 < 2 ^ 31 by omega)]
          simp only []
          have hx := (tkx_hd hG).2
          cases htk : tkx ts with
          | nil =>
            rw [htk] at hdr2
            exact absurd (drop_ge hdr2) hend
          | cons z zs =>
            rw [htk] at hdr2 hx
            rw [hD.at hdr2, if_neg (show ¬ (nI z = (120 : Int32)) from hx)]
            exact hJ118
      · obtain ⟨k, rfl⟩ : ∃ k', k = (k' + [120, 48 + d].length) + 1 := ⟨k - 3, by simp at hk ⊢; omega⟩
        have hdr' : D.drop i = 41 :: 120 :: (48 + d) :: tkx ts := hdr
        obtain ⟨-, -, hdr2⟩ := drop_next hdr'
        obtain ⟨hlt2, -, hdr3⟩ := drop_next hdr2
        obtain ⟨hlt3, -, hdr4⟩ := drop_next hdr3
        obtain ⟨w2, N1, P1, G1, ids1, c1, c2, c3⟩ := hcl 3 (Or.inr rfl) hlt3
        have hI2 := LVI_close (m := 3) hI hh0 hd1 hd9 (Or.inr rfl)
        have hft : fTk (4, [41, 120, 48 + d]) (lv :: l2v :: ls) = up d (lv :: l2v :: ls) := by simp [fTk]
        rw [hft]
        have hD2 := (hD.keep hF1).keep c3
        obtain ⟨w', N', P', G', ids', k1, k2, k3⟩ := ih (i + 3) (op - 1) 1 k w2 _ _ _ _ _ hD2 hdr4 hG (by decide) hI2 c2 hlt3 (by simp at hk; omega)
        refine ⟨w', N', P', G', ids', ?_, k2, (hF1.trans c3).trans k3⟩
        have hsk := mSkipL (n := n) (v1 := nI (op - 1)) (r := tkx ts) hD2 [120, 48 + d] (i + 1) k hdr2 (fun z hz => by
          rcases List.mem_cons.mp hz with rfl | hz
          · exact ⟨rfl, by decide, by decide, by decide⟩
          · rw [List.mem_singleton.mp hz]
            exact skp_dig (xDig_iff.mpr ⟨by omega, by omega⟩)) hlt
        unfold fX7_readsDraft_L31
        have e2 : nI i + (2 : Int32) = nI (i + 1 + 1) := nI_add i 2
        rw [hD.1, if_neg (nI_ge hlt (by omega)), inB_nI (show i < mLen 2 from (by show i < 60; omega)) (by decide), nI_clamp (show i < 2 ^ 31 by omega), hD.at hdr']
        simp only [chk, bnd]
        rw [if_neg (show ¬ (nI 41 = (40 : Int32)) by decide), if_pos (show nI 41 = (41 : Int32) from rfl), nI_1, if_neg (nI_ge hlt2 (by omega)), inB_nI (show i + 1 < mLen 2 from (by show i + 1 < 60; omega)) (by decide), nI_clamp (show i + 1 < 2 ^ 31 by omega), hD.at hdr2]
        simp only []
        rw [if_pos (show nI 120 = (120 : Int32) from rfl), e2, inB_nI (show i + 1 + 1 < mLen 2 from (by show i + 1 + 1 < 60; omega)) (by decide), nI_clamp (show i + 1 + 1 < 2 ^ 31 by omega), hD.at hdr3, nI_sub48]
        simp only []
        unfold fX7_readsDraft_J119
        rw [e44, nI_clamp (show op < 2 ^ 31 by omega), h44]
        simp only [chk, bnd]
        rw [htm]
        simp only [bL4, c1, bP]
        have e3 : nI op + (-1 : Int32) = nI (op - 1) := by
          obtain ⟨o, rfl⟩ : ∃ o, op = o + 1 := ⟨op - 1, by omega⟩
          rw [nI_m1, nI_pred]; rfl
        rw [e3, nI_1, hsk]
        exact k1
