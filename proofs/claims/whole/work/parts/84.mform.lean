/-! the reference closes a group, and reads a draft to its end -/
theorem RI_grp {w : MW} {N P G i e T : Nat} {ids : List (List Nat)} {L : List (List Itm)} {l l2 pids : List Nat} {lv lv2 : List Itm} {ps ips : List Pst} {xs : List (List Nat)} {x : Itm} (H : RIp w N P G (l :: l2 :: ids) (lv :: lv2 :: L) ps i) (he : e = L.length) (hx : x = (true, T, jn xs, ips)) (hl : pids.length = xs.length) (hxs : xs ≠ []) (hx15 : xs.length ≤ 15) (hlen : (itx x).length ≤ 60) (hl2 : l2.length ≤ 30) (hcap : ∀ l' ∈ ids, l'.length ≤ 31) (hT : ∀ (k : Nat) (y : List Nat), xs[k]? = some y → TXI w N G (pids.getD k 0) y) :
    RIp (gpS w N P G e l2.length T pids (itx x)) (N + 1) (P + xs.length) (G + (itx x).length) ((l2 ++ [N]) :: ids) ((lv2 ++ [x]) :: L) ps (i + 3) := by
  obtain ⟨h1, h2, h3, ⟨-, ⟨h4a, h4b⟩, h4⟩, ⟨-, ⟨h5a, h5b⟩, h5⟩, ⟨-, h6a, h6⟩, h7, h8, h9, h10⟩ := H
  have hil : ids.length = e := by rw [h5.len, he]
  rw [hil] at h4a h4b
  obtain ⟨tx, htx⟩ : ∃ tx, tx = itx x := ⟨_, rfl⟩
  rw [← htx] at hlen ⊢
  obtain ⟨w', hw⟩ : ∃ w', w' = gpS w N P G e l2.length T pids tx := ⟨_, rfl⟩
  rw [← hw]
  have f42 : w'.2 42 = upd (w.2 42) e (nI (l2.length + 1)) := by rw [hw]; rfl
  have f43 : w'.2 43 = upd (w.2 43) (32 * e + l2.length) (nI N) := by rw [hw]; rfl
  have f44 : w'.2 44 = w.2 44 := by rw [hw]; rfl
  have f39 : w'.2 39 = (ptS w P pids).2 39 := by rw [hw]; rfl
  have f41 : w'.2 41 = fun i => if G ≤ i ∧ i < G + tx.length then nI (tx.getD (i - G) 0) else w.2 41 i := by rw [hw]; rfl
  have f32 : w'.2 32 = upd (w.2 32) N 1 := by rw [hw]; rfl
  have f33 : w'.2 33 = upd (upd (w.2 33) N 1) N (nI T) := by rw [hw]; rfl
  have f34 : w'.2 34 = upd (w.2 34) N (nI G) := by rw [hw]; rfl
  have f35 : w'.2 35 = upd (upd (w.2 35) N 0) N (nI tx.length) := by rw [hw]; rfl
  have f36 : w'.2 36 = upd (upd (w.2 36) N (nI (P + pids.length))) N (nI P) := by rw [hw]; rfl
  have f37 : w'.2 37 = upd (upd (w.2 37) N 0) N (nI pids.length) := by rw [hw]; rfl
  have g39 : ∀ j, w'.2 39 j = if P ≤ j ∧ j < P + pids.length then nI (pids.getD (j - P) 0) else w.2 39 j := fun j => by rw [f39]; rfl
  have hE : EXT w w' N P G (N + 1) (P + xs.length) (G + tx.length) := by
    refine ⟨by omega, by omega, by omega, fun k j hk1 hk2 hj => ?_, fun j hj => by rw [g39, if_neg (by omega)], fun j hj => ?_⟩
    · have hne : j ≠ N := by omega
      have : k = 32 ∨ k = 33 ∨ k = 34 ∨ k = 35 ∨ k = 36 ∨ k = 37 := by omega
      rcases this with rfl | rfl | rfl | rfl | rfl | rfl
      · rw [f32, upd_ne hne]
      · rw [f33, upd_ne hne, upd_ne hne]
      · rw [f34, upd_ne hne]
      · rw [f35, upd_ne hne, upd_ne hne]
      · rw [f36, upd_ne hne, upd_ne hne]
      · rw [f37, upd_ne hne, upd_ne hne]
    · rw [f41]
      exact if_neg (by omega)
  have hI1 : IDS w' ((l2 ++ [N]) :: ids) := by
    refine ⟨⟨by rw [hil, f42, upd_at, List.length_append]; rfl, fun k hk => ?_⟩, h4.keep (fun d' hd' => ⟨by rw [f42, upd_ne (by omega)], fun k hk => by rw [f43, upd_ne (by omega)]⟩) (fun l' hl' => by have := hcap l' hl'; omega)⟩
    rw [List.length_append] at hk
    simp only [List.length_cons, List.length_nil] at hk
    rw [hil, f43, getD_snocN hk]
    by_cases hkl : k < l2.length
    · rw [if_pos hkl, upd_ne (by omega), h4b k hkl]
    · have : k = l2.length := by omega
      subst this
      rw [if_neg hkl, upd_at]
  have hM1 : MAT w' (N + 1) (P + xs.length) (G + tx.length) ((l2 ++ [N]) :: ids) ((lv2 ++ [x]) :: L) := by
    refine ⟨⟨by simp [h5a], fun k y hy => ?_⟩, h5.keep hE⟩
    by_cases hkl : k < lv2.length
    · rw [List.getElem?_append_left hkl] at hy
      rw [getD_snocN (by omega), if_pos (by omega)]
      exact (h5b k y hy).keep hE
    · rw [List.getElem?_append_right (by omega)] at hy
      have hk0 : k = lv2.length := by
        rcases Nat.eq_zero_or_pos (k - lv2.length) with h | h
        · omega
        · rw [List.getElem?_eq_none (by simp; omega)] at hy; cases hy
      subst hk0
      rw [Nat.sub_self] at hy
      injection hy with hy
      subst hy
      rw [getD_snocN (by omega), if_neg (by omega)]
      refine ⟨⟨by omega, G, by rw [f34, upd_at], by rw [f35, upd_at, htx], by rw [htx]; exact Nat.le_refl _, fun j hj => ?_⟩, by rw [f32, upd_at, hx]; rfl, by rw [f33, upd_at, hx], fun _ => ⟨P, xs, by rw [f36, upd_at], by rw [f37, upd_at, hl], hxs, hx15, Nat.le_refl _, by rw [hx], fun k y hk => ?_⟩⟩
      · rw [← htx] at hj ⊢
        rw [f41]
        show (if G ≤ G + j ∧ G + j < G + tx.length then _ else _) = _
        rw [if_pos (by omega), Nat.add_sub_cancel_left]
      · have hkl : k < xs.length := (List.getElem?_eq_some_iff.mp hk).1
        exact ⟨pids.getD k 0, by rw [g39, if_pos (by omega), Nat.add_sub_cancel_left], (hT k y hk).keep hE⟩
  refine ⟨by rw [hw]; rfl, by rw [hw]; show nI (P + pids.length) = _; rw [hl], by rw [hw]; rfl, hI1, hM1, ⟨fun hne => by rw [f44]; exact h6a hne, h6.keep (fun d _ => by rw [f44])⟩, h7.keep (by rw [hw]; rfl) (fun k j hk1 hk2 _ => ?_), by omega, by omega, by omega⟩
  have : k = 27 ∨ k = 28 ∨ k = 29 ∨ k = 30 := by omega
  rcases this with rfl | rfl | rfl | rfl <;> (rw [hw]; rfl)
theorem gpS_fr {w : MW} {N P G e m2 T : Nat} {pids x : List Nat} : MFR w (gpS w N P G e m2 T pids x) := fun k hk => by
  have h : ∀ j : Nat, 26 ≤ j → k ≠ j := fun j hj => by omega
  simp only [gpS, bgS, ptS, mA, mS, pT, if_neg (h 31 (by decide)), if_neg (h 32 (by decide)), if_neg (h 33 (by decide)), if_neg (h 34 (by decide)), if_neg (h 35 (by decide)), if_neg (h 36 (by decide)), if_neg (h 37 (by decide)), if_neg (h 38 (by decide)), if_neg (h 39 (by decide)), if_neg (h 40 (by decide)), if_neg (h 41 (by decide)), if_neg (h 42 (by decide)), if_neg (h 43 (by decide))]
  exact ⟨trivial, trivial⟩
theorem getD0 {α : Type} {lv : List α} {y : α} (h : lv = [y]) : lv[0]? = some y := by rw [h]; rfl
theorem RI_close {n : Nat} {w : MW} {N P G i d t : Nat} {ids : List (List Nat)} {L : List (List Itm)} {l l2 : List Nat} {lv lv2 : List Itm} {ps : List Pst} (H : RIp w N P G (l :: l2 :: ids) (lv :: lv2 :: L) ps i) (hd : d = L.length + 1) (hd6 : d < 6) (h15 : lv.length ≤ 15) (h215 : lv2.length ≤ 15) (hne : lv ≠ []) (hI : ∀ x ∈ lv, ITM x) (h1 : 1 ≤ t) (h9 : t ≤ 9) (ht : t ≠ 1) (hcap : ∀ l' ∈ ids, l'.length ≤ 31) (hi60 : i ≤ 60) (hlen : (itx (gIt lv t)).length ≤ 60) (hn : 2000 < n) :
    ∃ w' N' P' G' l', fX7_closes n w (nI d) (nI t) = some w' ∧ RIp w' N' P' G' ((l2 ++ l') :: ids) ((lv2 ++ [gIt lv t]) :: L) ps (i + 3) ∧ MFR w w' := by
  have H0 := H
  obtain ⟨h1', h2, h3, ⟨⟨h4a, h4b⟩, ⟨h4c, h4d⟩, h4⟩, ⟨⟨h5a, h5b⟩, ⟨h5c, h5d⟩, h5⟩, ⟨h6a, h6b, h6⟩, h7, h8, h9', h10⟩ := H
  have hil : ids.length = L.length := h5.len
  have hl1 : (l2 :: ids).length = d := by simp [hil, hd]
  rw [hl1] at h4a h4b
  rw [hil] at h4c
  have hlp : 0 < lv.length := List.length_pos_iff.mpr hne
  have e1 : (32 : Int32) * nI d = nI (32 * d) := nI_mul 32 d
  have e43 : w.2 43 (32 * d) = nI (l.getD 0 0) := h4b 0 (by omega)
  have hhead : fX7_closes n w (nI d) (nI t) = (if nI l.length = (1 : Int32) then chk (inB (nI (l.getD 0 0)) (mLen 32)) (if w.2 32 (nI (l.getD 0 0)).toNatClampNeg = 0 then fX7_closes_J91 n w (nI d) (nI t) (nI l.length) (nI (l.getD 0 0)) else chk (inB (nI (l.getD 0 0)) (mLen 33)) (if (9 : Int32) < w.2 33 (nI (l.getD 0 0)).toNatClampNeg * nI t then fX7_closes_J91 n w (nI d) (nI t) (nI l.length) (nI (l.getD 0 0)) else fX7_closes_J92 n w (nI d) (nI t) (nI l.length) (nI (l.getD 0 0)) (1 : Int32))) else fX7_closes_J91 n w (nI d) (nI t) (nI l.length) (nI (l.getD 0 0))) := by
    unfold fX7_closes
    rw [inB_nI (show d < mLen 42 from hd6) (by decide), nI_clamp (show d < 2 ^ 31 by omega), h4a, e1, inB_nI (show 32 * d < mLen 43 from (by show 32 * d < 192; omega)) (by decide), nI_clamp (show 32 * d < 2 ^ 31 by omega), e43]
    simp only [chk, bnd]
    rw [if_neg (show ¬ (nI t = (1 : Int32)) from fun z => ht ((nI_eq (b := 1) (by omega) (by decide)).mp z))]
  rw [hhead]
  -- a group of the level's items
  have hwrp : gIt lv t = wrp lv t → ∃ w' N' P' G' l', fX7_closes_J91 n w (nI d) (nI t) (nI l.length) (nI (l.getD 0 0)) = some w' ∧ RIp w' N' P' G' ((l2 ++ l') :: ids) ((lv2 ++ [gIt lv t]) :: L) ps (i + 3) ∧ MFR w w' := by
    intro hg
    rw [hg] at hlen ⊢
    have hxl : (lv.map itx).length = lv.length := List.length_map ..
    have hT : ∀ (k : Nat) (y : List Nat), (lv.map itx)[k]? = some y → TXI w N G (l.getD k 0) y := by
      intro k y hy
      rw [List.getElem?_map] at hy
      cases hk : lv[k]? with
      | none => rw [hk] at hy; cases hy
      | some x =>
        rw [hk] at hy
        simp only [Option.map_some, Option.some.injEq] at hy
        subst hy
        exact (h5b k x hk).1
    have hjl : (jn (lv.map itx)).length ≤ 60 := by
      have : (itx (wrp lv t)).length = (jn (lv.map itx)).length + 4 := by simp [itx, wrp]
      omega
    have hgr := mGrp (n := n) (w := w) (N := N) (P := P) (G := G) (d := d) (e := L.length) (m2 := l2.length) (t := t) (T := t) (v4 := nI (l.getD 0 0)) (v5 := 0) (pids := l) (xs := lv.map itx) hd hd6 h1' h2 h3 h4c (by omega) (by omega) (by omega) (by omega) (by omega) (by omega) h9 (by omega) hT (fun k y hk => by
      obtain ⟨-, p, -, -, t4, -⟩ := hT k y hk
      omega) (Or.inl ⟨rfl, d, hd6, rfl, by omega, h4b⟩) (Or.inl ⟨rfl, rfl⟩)
    have hri := RI_grp (e := L.length) (T := t) (pids := l) (xs := lv.map itx) (x := wrp lv t) (ips := lv.flatMap ipo) H0 rfl rfl (by omega) (by simpa using hne) (by omega) hlen (by omega) hcap hT
    refine ⟨_, N + 1, P + (lv.map itx).length, G + (itx (wrp lv t)).length, [N], ?_, hri, gpS_fr⟩
    unfold fX7_closes_J91 fX7_closes_J92
    simp only [bnd, h2]
    rw [if_pos trivial, show nI l.length = nI (lv.map itx).length by rw [hxl, h5a], hgr]
    rfl
  rcases gIt_cases lv t with ⟨t1, inn, ips, hlv, hle, hg⟩ | ⟨hno, hg⟩
  · -- one group alone
    subst hlv
    have hx0 := h5b 0 _ rfl
    have hl1' : l.length = 1 := h5a
    obtain ⟨o, rfl⟩ : ∃ o, l = [o] := by
      match l, hl1' with
      | [o], _ => exact ⟨o, rfl⟩
    have e0 : ([o] : List Nat).getD 0 0 = o := rfl
    rw [e0] at hx0 ⊢
    obtain ⟨m1, m2, m3, m4⟩ := hx0
    obtain ⟨fp, xs, g1, g2, g3, g4, g5, g6, g7⟩ := m4 rfl
    have ho := m1.1
    have ht1 : t1 ≤ 9 := (hI _ List.mem_cons_self).2.2.1
    obtain ⟨pids, hpl, hp⟩ : ∃ pids : List Nat, pids.length = xs.length ∧ ∀ k y, xs[k]? = some y → w.2 39 (fp + k) = nI (pids.getD k 0) ∧ TXI w N G (pids.getD k 0) y := by
      refine ⟨(List.range xs.length).map (fun k => (w.2 39 (fp + k)).toNatClampNeg), by simp, fun k y hk => ?_⟩
      have hkl : k < xs.length := (List.getElem?_eq_some_iff.mp hk).1
      obtain ⟨pid, p1, p2⟩ := g7 k y hk
      rw [map_getD hkl, p1, nI_clamp (by have := p2.1; omega)]
      exact ⟨rfl, p2⟩
    have hlen' : (itx (true, t1 * t, jn xs, ips)).length = (jn xs).length + 4 := by simp [itx]
    rw [hg] at hlen ⊢
    have g6' : inn = jn xs := g6.symm
    subst g6'
    have hgr := mGrp (n := n) (w := w) (N := N) (P := P) (G := G) (d := d) (e := L.length) (m2 := l2.length) (t := t) (T := t1 * t) (v4 := nI o) (v5 := 1) (pids := pids) (xs := xs) hd hd6 h1' h2 h3 h4c (by omega) (by omega) (by omega) (by omega) (by omega) (by omega) hle (by omega) (fun k y hk => (hp k y hk).2) (fun k y hk => by
      obtain ⟨-, p, -, -, t4, -⟩ := (hp k y hk).2
      omega) (Or.inr ⟨rfl, o, fp, rfl, by omega, g1, by omega, fun j hj => (hp j _ (List.getElem?_eq_getElem (by omega))).1⟩) (Or.inr ⟨rfl, o, t1, rfl, ho, m3, rfl⟩)
    have hri := RI_grp (e := L.length) (T := t1 * t) (pids := pids) (xs := xs) (x := (true, t1 * t, jn xs, ips)) (ips := ips) H0 rfl rfl hpl g3 g4 hlen (by omega) hcap (fun k y hk => (hp k y hk).2)
    refine ⟨_, N + 1, P + xs.length, G + (itx (true, t1 * t, jn xs, ips)).length, [N], ?_, hri, gpS_fr⟩
    have hb : w.2 32 o = 1 := m2
    have hoc : (nI o).toNatClampNeg = o := nI_clamp (by omega)
    have h81 : t1 * t ≤ 81 := by omega
    rw [if_pos (show nI ([o] : List Nat).length = (1 : Int32) from rfl), inB_nI (show o < mLen 32 from (by show o < 64; omega)) (by decide), inB_nI (show o < mLen 33 from (by show o < 64; omega)) (by decide), hoc, hb, m3]
    simp only [chk]
    rw [if_neg (show ¬ ((1 : Int32) = 0) by decide), nI_mul, if_neg (show ¬ ((9 : Int32) < nI (t1 * t)) from nI_nlt (a := 9) hle (by decide))]
    unfold fX7_closes_J92
    simp only [bnd, h2]
    rw [if_neg (show ¬ ((1 : Int32) = 0) by decide), inB_nI (show o < mLen 37 from (by show o < 64; omega)) (by decide), hoc, g2]
    simp only [chk]
    rw [hgr]
    rfl
  · obtain ⟨w', N', P', G', l', k1, k2, k3⟩ := hwrp hg
    refine ⟨w', N', P', G', l', ?_, k2, k3⟩
    by_cases hm1 : l.length = 1
    · rw [if_pos (by rw [hm1]; rfl)]
      obtain ⟨o, rfl⟩ : ∃ o, l = [o] := by
        match l, hm1 with
        | [o], _ => exact ⟨o, rfl⟩
      obtain ⟨⟨gg, t1, inn, ips⟩, rfl⟩ : ∃ x, lv = [x] := by
        match lv, h5a with
        | [x], _ => exact ⟨x, rfl⟩
      have hx0 := h5b 0 _ rfl
      have e0 : ([o] : List Nat).getD 0 0 = o := rfl
      rw [e0] at hx0 k1 ⊢
      obtain ⟨m1, m2, m3, -⟩ := hx0
      have ho := m1.1
      have hoc : (nI o).toNatClampNeg = o := nI_clamp (by omega)
      have ht1 : t1 ≤ 9 := (hI _ List.mem_cons_self).2.2.1
      rw [inB_nI (show o < mLen 32 from (by show o < 64; omega)) (by decide), inB_nI (show o < mLen 33 from (by show o < 64; omega)) (by decide), hoc, m2, m3]
      simp only [chk]
      cases gg with
      | false =>
        rw [if_pos (show b2i false = (0 : Int32) from rfl)]
        exact k1
      | true =>
        have h99 := hno t1 inn ips rfl
        have h81 : t1 * t ≤ 81 := Nat.mul_le_mul ht1 h9
        rw [if_neg (show ¬ (b2i true = (0 : Int32)) by decide), nI_mul, if_pos (show (9 : Int32) < nI (t1 * t) from nI_lt (a := 9) h99 (by omega))]
        exact k1
    · rw [if_neg (show ¬ (nI l.length = (1 : Int32)) from fun z => hm1 ((nI_eq (b := 1) (by omega) (by decide)).mp z))]
      exact k1
