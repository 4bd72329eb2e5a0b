/-! the reference reads a posting -/
theorem isIn_dig : ∀ c, c < 127 → fX7_isIn (nI c) (48 : Int32) (57 : Int32) = some (if xDig c = true then 1 else 0) := by decide +kernel
theorem isIn_acc : ∀ c, c < 127 → fX7_isIn (nI c) (97 : Int32) (104 : Int32) = some (if xAcc c = true then 1 else 0) := by decide +kernel
theorem mNumL {n : Nat} {w : MW} {D : List Nat} (hD : mDraft w D) (x1 x2 : Int32) : ∀ (r : List Nat) (i v k : Nat), D.drop i = r → r.length < k → i < 1000 →
    fX7_readsPosting_L7 n k w x1 x2 (nI v) (nI i) = some (x1, x2, nI (nmv v r)) := by
  have hdl := hD.2.2.1
  intro r
  induction r with
  | nil =>
    intro i v k hdr hk hi
    obtain ⟨k, rfl⟩ : ∃ k', k = k' + 1 := ⟨k - 1, by simp at hk; omega⟩
    unfold fX7_readsPosting_L7
    rw [hD.1, if_pos (nI_le (drop_ge hdr) (by omega))]
    rfl
  | cons c r ih =>
    intro i v k hdr hk hi
    obtain ⟨k, rfl⟩ : ∃ k', k = k' + 1 := ⟨k - 1, by simp at hk; omega⟩
    obtain ⟨hlt, hg, hdr2⟩ := drop_next hdr
    have hc : c < 127 := drop_mem hdr hD.lt c List.mem_cons_self
    simp only [List.length_cons] at hk
    unfold fX7_readsPosting_L7
    rw [hD.1, if_neg (nI_ge hlt (by omega)), inB_nI (show i < mLen 2 from (by show i < 60; omega)) (by decide), nI_clamp (by omega), hD.at hdr]
    simp only [chk, isIn_dig c hc, bP]
    by_cases hd : xDig c = true
    · have hd2 := xDig_iff.mp hd
      have e9 : (if xDig c = true then (1 : Int32) else 0) = 1 := if_pos hd
      rw [e9, if_neg (show ¬ ((1 : Int32) = 0) by decide)]
      have e3 : (10 : Int32) * nI v + nI c - (48 : Int32) = nI (10 * v + (c - 48)) := by
        have e4 : (10 : Int32) * nI v = nI (10 * v) := nI_mul 10 v
        have : c = (c - 48) + 48 := by omega
        rw [e4, this, nI_add, ← Nat.add_assoc, ← nI_add, Nat.add_sub_cancel]
        exact Int32.add_sub_cancel _ 48
      simp only [bnd, e3, nI_1]
      rw [ih (i + 1) _ k hdr2 (by omega) (by omega)]
      simp only [nmv, if_pos hd]
    · have e9 : (if xDig c = true then (1 : Int32) else 0) = 0 := if_neg hd
      rw [e9, if_pos rfl]
      simp only [nmv, if_neg hd]
theorem mJoins {w : MW} {d m : Nat} {v : Int32} (hd : d < 6) (hm : w.2 42 d = nI m) (hm32 : m < 32) : fX7_joins w (nI d) v = some (mA (mA w 43 (32 * d + m) v) 42 d (nI (m + 1))) := by
  unfold fX7_joins
  have e1 : (32 : Int32) * nI d = nI (32 * d) := nI_mul 32 d
  have e2 : (mA w 43 (32 * d + m) v).2 42 d = nI m := hm
  rw [inB_nI (show d < mLen 42 from hd) (by decide), nI_clamp (show d < 2 ^ 31 by omega), hm, e1, nI_add, inB_nI (show 32 * d + m < mLen 43 from (by show 32 * d + m < 192; omega)) (by decide), nI_clamp (by omega)]
  simp only [chk, bnd, e2, nI_1]
def bgS (w : MW) (N d m : Nat) (g : Bool) (P G : Nat) : MW := mA (mA (mA (mA (mA (mA (mA (mA (mS w 31 (nI (N + 1))) 32 N (b2i g)) 33 N 1) 34 N (nI G)) 35 N 0) 36 N (nI P)) 37 N 0) 43 (32 * d + m) (nI N)) 42 d (nI (m + 1))
theorem mBegins {w : MW} {N d m P G : Nat} {g : Bool} (hN : w.1 31 = nI N) (hP : w.1 38 = nI P) (hG : w.1 40 = nI G) (hd : d < 6) (hm : w.2 42 d = nI m) (hm32 : m < 32) (hN64 : N < 64) : fX7_begins w (nI d) (b2i g) = some (nI N, bgS w N d m g P G) := by
  unfold fX7_begins
  have i32 := inB_nI (show N < mLen 32 from hN64) (by decide)
  have i33 := inB_nI (show N < mLen 33 from hN64) (by decide)
  have i34 := inB_nI (show N < mLen 34 from hN64) (by decide)
  have i35 := inB_nI (show N < mLen 35 from hN64) (by decide)
  have i36 := inB_nI (show N < mLen 36 from hN64) (by decide)
  have i37 := inB_nI (show N < mLen 37 from hN64) (by decide)
  simp only [bnd, hN, nI_1, i32, i33, i34, i35, i36, i37, chk, b2i_01, nI_clamp (show N < 2 ^ 31 by omega), mA_1]
  have e40 : (mS w 31 (nI (N + 1))).1 40 = nI G := hG
  have e38 : (mS w 31 (nI (N + 1))).1 38 = nI P := hP
  rw [e40, e38, mJoins hd (by exact hm) hm32]
  rfl
theorem b2i_lt {s : Nat} (h : s = 43 ∨ s = 45) : (if s = 45 then (1 : Int32) else 0) = b2i (decide (s = 45)) := by rcases h with rfl | rfl <;> rfl
/-- the state behind a posting -/
def rpS (w : MW) (N P G R d m : Nat) (p : Pst) (x : List Nat) : MW := mA (pT (bgS (mS (mA (mA (mA (mA w 27 R (nI p.1)) 28 R (b2i p.2.1)) 29 R (nI p.2.2.1)) 30 R 1) 26 (nI (R + 1))) N d m false P G) G x) 35 N (nI x.length)
theorem mPost {n : Nat} {w : MW} {D r : List Nat} {N P G R d m i c s : Nat} {ds : List Nat} (hD : mDraft w D) (hdr : D.drop i = c :: s :: (ds ++ r)) (hr : nd r) (hc : xAcc c = true) (hs : s = 43 ∨ s = 45) (hds : ∀ z ∈ ds, xDig z = true) (hl1 : 1 ≤ ds.length) (hl3 : ds.length ≤ 3)
    (hN : w.1 31 = nI N) (hP : w.1 38 = nI P) (hG : w.1 40 = nI G) (hR : w.1 26 = nI R) (hd : d < 6) (hm : w.2 42 d = nI m) (hm32 : m < 32) (hN64 : N < 64) (hR16 : R < 16) (hG4 : G + 10 ≤ 4096) (hn : 60 < n) :
    fX7_readsPosting n w (nI i) (nI d) = some (rpS w N P G R d m (c - 97, decide (s = 45), nmv 0 ds, 1) (itx (pIt c s ds))) := by
  obtain ⟨hlt, -, hdr2⟩ := drop_next hdr
  obtain ⟨hlt2, -, hdr3⟩ := drop_next hdr2
  have hdl := hD.2.2.1
  have hlen := drop_le hdr (by omega)
  have hcc := xAcc_iff.mp hc
  have hv := nmv_lt3 hds hl3
  have e2 : nI i + (2 : Int32) = nI (i + 1 + 1) := nI_add i 2
  have hnum := mNumL (n := n) hD (nI i) (nI d) (ds ++ r) (i + 1 + 1) 0 n hdr3 (by simp at hlen ⊢; omega) (by omega)
  rw [nmv_app ds 0 r hds hr] at hnum
  have e0 : nI 0 = (0 : Int32) := nI_0
  rw [e0] at hnum
  have e97 : nI c - (97 : Int32) = nI (c - 97) := by
    have : c = (c - 97) + 97 := by omega
    rw [this, ← nI_add, Nat.add_sub_cancel]
    exact Int32.add_sub_cancel _ 97
  have hat := hD.at hdr
  have hat2 := hD.at hdr2
  have i2 := inB_nI (show i < mLen 2 from (by show i < 60; omega)) (by decide)
  have i2' := inB_nI (show i + 1 < mLen 2 from (by show i + 1 < 60; omega)) (by decide)
  have i27 := inB_nI (show R < mLen 27 from hR16) (by decide)
  have i28 := inB_nI (show R < mLen 28 from hR16) (by decide)
  have i29 := inB_nI (show R < mLen 29 from hR16) (by decide)
  have i30 := inB_nI (show R < mLen 30 from hR16) (by decide)
  have i34 := inB_nI (show N < mLen 34 from hN64) (by decide)
  have i35 := inB_nI (show N < mLen 35 from hN64) (by decide)
  have hJ : ∀ b : Bool, fX7_readsPosting_J99 n (mA w 27 R (nI (c - 97))) (nI i) (nI d) (nI (nmv 0 ds)) (b2i b) (nI R) = some (rpS w N P G R d m (c - 97, b, nmv 0 ds, 1) (itx (pIt c s ds))) := by
    intro b
    obtain ⟨w127, hw⟩ : ∃ w127, w127 = mS (mA (mA (mA (mA w 27 R (nI (c - 97))) 28 R (b2i b)) 29 R (nI (nmv 0 ds))) 30 R 1) 26 (nI (R + 1)) := ⟨_, rfl⟩
    have hN' : w127.1 31 = nI N := by rw [hw]; exact hN
    have hP' : w127.1 38 = nI P := by rw [hw]; exact hP
    have hG' : w127.1 40 = nI G := by rw [hw]; exact hG
    have hm' : w127.2 42 d = nI m := by rw [hw]; exact hm
    have hbg := mBegins (g := false) hN' hP' hG' hd hm' hm32 hN64
    have hb0 : b2i false = (0 : Int32) := rfl
    rw [hb0] at hbg
    obtain ⟨w133, hw3⟩ : ∃ w133, w133 = bgS w127 N d m false P G := ⟨_, rfl⟩
    rw [← hw3] at hbg
    have hG3 : w133.1 40 = nI G := by rw [hw3]; exact hG'
    have h2 : ∀ x, (pT w133 G x).2 2 = w.2 2 := fun x => by rw [hw3, hw]; rfl
    have h34 : ∀ x, (pT w133 G x).2 34 N = nI G := fun x => by rw [hw3]; exact if_pos rfl
    have h40 : ∀ x, (pT w133 G x).1 40 = nI (G + x.length) := fun x => rfl
    have hp0 : w133 = pT w133 G [] := (pT_nil hG3).symm
    have hdl3 := (dgs_len _ hv).2
    unfold fX7_readsPosting_J99
    simp only [i28, chk, b2i_01, bnd, nI_clamp (show R < 2 ^ 31 by omega), mA_1, hR, i29, i30, nI_1, ← hw, hbg, b2, i2, nI_clamp (show i < 2 ^ 31 by omega)]
    rw [hp0, h2, hat, puts1 (by simp; omega)]
    simp only [bP, i2', chk, nI_clamp (show i + 1 < 2 ^ 31 by omega), h2, hat2, List.nil_append]
    rw [puts1 (by simp; omega)]
    simp only []
    rw [putsNum hv (by simp; omega)]
    simp only [i34, i35, h40, h34, nI_clamp (show N < 2 ^ 31 by omega)]
    have e5 : ([c] ++ [s] ++ dgs (nmv 0 ds)) = itx (pIt c s ds) := rfl
    rw [e5]
    have e6 : nI (G + (itx (pIt c s ds)).length) - nI G = nI (itx (pIt c s ds)).length := by
      rw [Nat.add_comm, ← nI_add]
      exact Int32.add_sub_cancel _ _
    rw [e6, hw3, hw]
    rfl
  unfold fX7_readsPosting
  simp only [bnd, e2, hnum, bL3, chk, i2, i2', hR, i27, nI_clamp (show R < 2 ^ 31 by omega), nI_clamp (show i < 2 ^ 31 by omega), hat, e97, nI_1, nI_clamp (show i + 1 < 2 ^ 31 by omega), mA_1]
  have h45 : (mA w 27 R (nI (c - 97))).2 2 (i + 1) = nI s := hat2
  rw [h45]
  rcases hs with rfl | rfl
  · rw [if_neg (show ¬ (nI 43 = (45 : Int32)) by decide)]
    exact hJ false
  · rw [if_pos (show nI 45 = (45 : Int32) from rfl)]
    exact hJ true
theorem rpS_fr {w : MW} {N P G R d m : Nat} {p : Pst} {x : List Nat} : MFR w (rpS w N P G R d m p x) := fun k hk => by
  have h : ∀ j : Nat, 26 ≤ j → k ≠ j := fun j hj => by omega
  simp only [rpS, bgS, mA, mS, pT, if_neg (h 26 (by decide)), if_neg (h 27 (by decide)), if_neg (h 28 (by decide)), if_neg (h 29 (by decide)), if_neg (h 30 (by decide)), if_neg (h 31 (by decide)), if_neg (h 32 (by decide)), if_neg (h 33 (by decide)), if_neg (h 34 (by decide)), if_neg (h 35 (by decide)), if_neg (h 36 (by decide)), if_neg (h 37 (by decide)), if_neg (h 40 (by decide)), if_neg (h 41 (by decide)), if_neg (h 42 (by decide)), if_neg (h 43 (by decide))]
  exact ⟨trivial, trivial⟩
theorem getD_snocN {l : List Nat} {c k : Nat} (h : k < l.length + 1) : (l ++ [c]).getD k 0 = if k < l.length then l.getD k 0 else c := by
  rw [getD_snoc]
  by_cases h1 : k < l.length
  · rw [if_pos h1, if_pos h1]
  · rw [if_neg h1, if_neg h1, if_pos (by omega)]
theorem RI_post {w : MW} {N P G i c s d : Nat} {ds : List Nat} {ids : List (List Nat)} {L : List (List Itm)} {l : List Nat} {lv : List Itm} (H : RI w N P G (l :: ids) (lv :: L) i) (hd : d = L.length) (hd6 : d < 6) (hcap : ∀ l' ∈ l :: ids, l'.length ≤ 31) (hN64 : N < 64) (hR16 : (alP (lv :: L)).length < 16) (hl3 : ds.length ≤ 3) (hl1 : 1 ≤ ds.length) (hds : ∀ z ∈ ds, xDig z = true) :
    RI (rpS w N P G (alP (lv :: L)).length d l.length (c - 97, decide (s = 45), nmv 0 ds, 1) (itx (pIt c s ds))) (N + 1) P (G + (itx (pIt c s ds)).length) ((l ++ [N]) :: ids) ((lv ++ [pIt c s ds]) :: L) (i + (2 + ds.length)) := by
  obtain ⟨h1, h2, h3, ⟨⟨h4a, h4b⟩, h4⟩, ⟨⟨h5a, h5b⟩, h5⟩, ⟨h6a, h6⟩, ⟨h7a, h7b⟩, h8, h9, h10⟩ := H
  have hil : ids.length = d := by rw [h5.len, hd]
  obtain ⟨x, hx⟩ : ∃ x, x = itx (pIt c s ds) := ⟨_, rfl⟩
  obtain ⟨R, hR⟩ : ∃ R, R = (alP (lv :: L)).length := ⟨_, rfl⟩
  obtain ⟨p, hp⟩ : ∃ p : Pst, p = (c - 97, decide (s = 45), nmv 0 ds, 1) := ⟨_, rfl⟩
  have hxl : x.length ≤ 5 := by
    rw [hx]
    have := itx_pIt_len (c := c) (s := s) hds hl1 hl3
    omega
  rw [← hx, ← hR, ← hp]
  obtain ⟨w', hw⟩ : ∃ w', w' = rpS w N P G R d l.length p x := ⟨_, rfl⟩
  rw [← hw]
  have f42 : w'.2 42 = upd (w.2 42) d (nI (l.length + 1)) := by rw [hw]; rfl
  have f43 : w'.2 43 = upd (w.2 43) (32 * d + l.length) (nI N) := by rw [hw]; rfl
  have f44 : w'.2 44 = w.2 44 := by rw [hw]; rfl
  have f39 : w'.2 39 = w.2 39 := by rw [hw]; rfl
  have f41 : w'.2 41 = fun i => if G ≤ i ∧ i < G + x.length then nI (x.getD (i - G) 0) else w.2 41 i := by rw [hw]; rfl
  have f32 : w'.2 32 = upd (w.2 32) N 0 := by rw [hw]; rfl
  have f33 : w'.2 33 = upd (w.2 33) N 1 := by rw [hw]; rfl
  have f34 : w'.2 34 = upd (w.2 34) N (nI G) := by rw [hw]; rfl
  have f35 : w'.2 35 = upd (upd (w.2 35) N 0) N (nI x.length) := by rw [hw]; rfl
  have f36 : w'.2 36 = upd (w.2 36) N (nI P) := by rw [hw]; rfl
  have f37 : w'.2 37 = upd (w.2 37) N 0 := by rw [hw]; rfl
  have f27 : w'.2 27 = upd (w.2 27) R (nI p.1) := by rw [hw]; rfl
  have f28 : w'.2 28 = upd (w.2 28) R (b2i p.2.1) := by rw [hw]; rfl
  have f29 : w'.2 29 = upd (w.2 29) R (nI p.2.2.1) := by rw [hw]; rfl
  have f30 : w'.2 30 = upd (w.2 30) R 1 := by rw [hw]; rfl
  have hE : EXT w w' N P G (N + 1) P (G + x.length) := by
    refine ⟨by omega, Nat.le_refl _, by omega, fun k j hk1 hk2 hj => ?_, fun j _ => by rw [f39], fun j hj => ?_⟩
    · have hne : j ≠ N := by omega
      have : k = 32 ∨ k = 33 ∨ k = 34 ∨ k = 35 ∨ k = 36 ∨ k = 37 := by omega
      rcases this with rfl | rfl | rfl | rfl | rfl | rfl
      · rw [f32, upd_ne hne]
      · rw [f33, upd_ne hne]
      · rw [f34, upd_ne hne]
      · rw [f35, upd_ne hne, upd_ne hne]
      · rw [f36, upd_ne hne]
      · rw [f37, upd_ne hne]
    · rw [f41]
      exact if_neg (by omega)
  have hal : alP ((lv ++ [pIt c s ds]) :: L) = alP (lv :: L) ++ [p] := by
    rw [hp]
    simp [alP, ipo, pIt, mulP]
  have hl31 := hcap l List.mem_cons_self
  refine ⟨by rw [hw]; rfl, by rw [hw]; exact h2, by rw [hw]; rfl, ⟨⟨?_, fun k hk => ?_⟩, ?_⟩, ⟨⟨by simp [h5a], fun k y hy => ?_⟩, h5.keep hE⟩, ⟨fun hne => by rw [f44]; exact h6a hne, h6.keep (fun d hd => by rw [f44])⟩, ⟨?_, fun k q hq => ?_⟩, by omega, by omega, by omega⟩
  · rw [hil, f42, upd_at, List.length_append]
    rfl
  · rw [hil, f43]
    rw [List.length_append] at hk
    simp only [List.length_cons, List.length_nil] at hk
    rw [getD_snocN hk]
    by_cases hkl : k < l.length
    · rw [if_pos hkl, upd_ne (by omega), ← hil, h4b k hkl]
    · have : k = l.length := by omega
      subst this
      rw [if_neg hkl, upd_at]
  · refine h4.keep (fun d' hd' => ⟨by rw [f42, upd_ne (by omega)], fun k hk => by rw [f43, upd_ne (by omega)]⟩) (fun l' hl' => by have := hcap l' (List.mem_cons_of_mem _ hl'); omega)
  · by_cases hkl : k < lv.length
    · rw [List.getElem?_append_left hkl] at hy
      rw [getD_snocN (by omega), if_pos (by omega)]
      exact (h5b k y hy).keep hE
    · rw [List.getElem?_append_right (by omega)] at hy
      have hk0 : k = lv.length := by
        rcases Nat.eq_zero_or_pos (k - lv.length) with h | h
        · omega
        · rw [List.getElem?_eq_none (by simp; omega)] at hy; cases hy
      subst hk0
      rw [Nat.sub_self] at hy
      injection hy with hy
      subst hy
      rw [getD_snocN (by omega), if_neg (by omega)]
      refine ⟨⟨by omega, G, by rw [f34, upd_at], by rw [f35, upd_at, hx], by rw [hx]; exact Nat.le_refl _, fun j hj => ?_⟩, by rw [f32, upd_at]; rfl, by rw [f33, upd_at]; rfl, fun h => nomatch h⟩
      rw [← hx] at hj ⊢
      rw [f41]
      show (if G ≤ G + j ∧ G + j < G + x.length then _ else _) = _
      rw [if_pos (by omega), Nat.add_sub_cancel_left]
  · rw [hal, List.length_append, hw, ← hR]
    rfl
  · rw [hal] at hq
    by_cases hkl : k < R
    · rw [List.getElem?_append_left (by omega)] at hq
      obtain ⟨q1, q2, q3, q4⟩ := h7b k q hq
      rw [f27, f28, f29, f30, upd_ne (by omega), upd_ne (by omega), upd_ne (by omega), upd_ne (by omega)]
      exact ⟨q1, q2, q3, q4⟩
    · rw [List.getElem?_append_right (by omega)] at hq
      have hk0 : k = R := by
        rcases Nat.eq_zero_or_pos (k - (alP (lv :: L)).length) with h | h
        · omega
        · rw [List.getElem?_eq_none (by simp; omega)] at hq; cases hq
      subst hk0
      rw [← hR, Nat.sub_self] at hq
      injection hq with hq
      subst hq
      rw [f27, f28, f29, f30, upd_at, upd_at, upd_at, upd_at, hp]
      exact ⟨rfl, rfl, rfl, rfl⟩
