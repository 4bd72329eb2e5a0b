/-! the reference makes a group of its own -/
def ptS (w : MW) (P : Nat) (x : List Nat) : MW := (fun k => if k = 38 then nI (P + x.length) else w.1 k, fun k => if k = 39 then (fun i => if P ≤ i ∧ i < P + x.length then nI (x.getD (i - P) 0) else w.2 39 i) else w.2 k)
theorem ptS_nil {w : MW} {P : Nat} (h : w.1 38 = nI P) : ptS w P [] = w := by
  refine Prod.ext (funext fun k => ?_) (funext fun k => ?_)
  · by_cases hk : k = 38
    · subst hk; exact h.symm
    · exact if_neg hk
  · by_cases hk : k = 39
    · subst hk
      refine funext fun i => ?_
      show (if P ≤ i ∧ i < P + 0 then _ else _) = _
      rw [if_neg (by omega)]
    · exact if_neg hk
theorem ptS_put {w : MW} {P : Nat} {x : List Nat} {c : Nat} : mS (mA (ptS w P x) 39 (P + x.length) (nI c)) 38 (nI (P + x.length + 1)) = ptS w P (x ++ [c]) := by
  have hl : (x ++ [c]).length = x.length + 1 := by simp
  refine Prod.ext (funext fun k => ?_) (funext fun k => ?_)
  · show (if k = 38 then nI (P + x.length + 1) else if k = 38 then _ else w.1 k) = if k = 38 then nI (P + (x ++ [c]).length) else w.1 k
    by_cases hk : k = 38
    · rw [if_pos hk, if_pos hk, hl]; rfl
    · rw [if_neg hk, if_neg hk, if_neg hk]
  · show (if k = 39 then upd _ _ _ else if k = 39 then _ else w.2 k) = if k = 39 then _ else w.2 k
    by_cases hk : k = 39
    · rw [if_pos hk, if_pos hk]
      refine funext fun i => ?_
      have e2 : (ptS w P x).2 39 i = if P ≤ i ∧ i < P + x.length then nI (x.getD (i - P) 0) else w.2 39 i := rfl
      show upd _ _ _ i = if P ≤ i ∧ i < P + (x ++ [c]).length then _ else _
      rw [hl]
      unfold upd
      rw [e2]
      by_cases hi : i = P + x.length
      · subst hi
        rw [if_pos rfl, if_pos (by omega), Nat.add_sub_cancel_left, getD_snoc, if_neg (Nat.lt_irrefl _), if_pos rfl]
      · rw [if_neg hi]
        by_cases h2 : P ≤ i ∧ i < P + x.length
        · rw [if_pos h2, if_pos (by omega), getD_snoc, if_pos (by omega)]
        · rw [if_neg h2, if_neg (by omega)]
    · rw [if_neg hk, if_neg hk, if_neg hk]
theorem mPartsL {n : Nat} {w : MW} {P : Nat} {v1 v2 v4 v5 v6 : Int32} {pids : List Nat} (hP : P + pids.length ≤ 512)
    (hs : (v5 = 0 ∧ ∃ d, d < 6 ∧ v1 = nI d ∧ pids.length ≤ 31 ∧ ∀ j, j < pids.length → w.2 43 (32 * d + j) = nI (pids.getD j 0)) ∨ (v5 = 1 ∧ ∃ o fp, v4 = nI o ∧ o < 64 ∧ w.2 36 o = nI fp ∧ fp + pids.length ≤ P ∧ ∀ j, j < pids.length → w.2 39 (fp + j) = nI (pids.getD j 0))) :
    ∀ (r : List Nat) (j k : Nat) (x : List Nat), pids.drop j = r → j ≤ pids.length → x.length = j → r.length < k → fX7_closes_L121 n k (ptS w P x) v1 v2 v4 v5 v6 (nI pids.length) (nI j) = some (v1, v2, v4, v5, v6, nI pids.length, ptS w P (x ++ r)) := by
  intro r
  induction r with
  | nil =>
    intro j k x hdr hj hx hk
    obtain ⟨k, rfl⟩ : ∃ k', k = k' + 1 := ⟨k - 1, by simp at hk; omega⟩
    have hje : j = pids.length := drop_nil hdr hj
    unfold fX7_closes_L121
    rw [if_pos (by rw [hje]; exact Int32.le_refl _), List.append_nil]
  | cons c r ih =>
    intro j k x hdr hj hx hk
    obtain ⟨k, rfl⟩ : ∃ k', k = k' + 1 := ⟨k - 1, by simp at hk; omega⟩
    obtain ⟨hlt, hg, hdr2⟩ := drop_next hdr
    simp only [List.length_cons] at hk
    have hrec := ih (j + 1) k (x ++ [c]) hdr2 hlt (by simp [hx]) (by omega)
    have e38 : (ptS w P x).1 38 = nI (P + x.length) := rfl
    have hJ : fX7_closes_J171 n (fX7_closes_L121 n k) (ptS w P x) v1 v2 v4 v5 v6 (nI pids.length) (nI j) (nI c) (nI (P + x.length)) = some (v1, v2, v4, v5, v6, nI pids.length, ptS w P (x ++ c :: r)) := by
      unfold fX7_closes_J171
      rw [inB_nI (show P + x.length < mLen 39 from (by show P + x.length < 512; omega)) (by decide), nI_clamp (by omega)]
      simp only [chk, bnd, mA_1, e38, nI_1]
      rw [ptS_put, hrec]
      simp
    unfold fX7_closes_L121
    rw [if_neg (nI_ge hlt (by omega)), e38]
    rcases hs with ⟨h5, d, hd, h1, hl, hs⟩ | ⟨h5, o, fp, h4, ho, h36, hfp, hs⟩
    · have e1 : (32 : Int32) * nI d = nI (32 * d) := nI_mul 32 d
      have e43 : (ptS w P x).2 43 (32 * d + j) = nI c := (hs j hlt).trans (by rw [hg])
      rw [if_pos h5]
      rw [h1, e1, nI_add, inB_nI (show 32 * d + j < mLen 43 from (by show 32 * d + j < 192; omega)) (by decide), nI_clamp (by omega), e43, ← h1]
      exact hJ
    · have e36 : (ptS w P x).2 36 o = nI fp := h36
      have e39 : (ptS w P x).2 39 (fp + j) = nI c := by
        show (if P ≤ fp + j ∧ fp + j < P + x.length then _ else w.2 39 (fp + j)) = _
        rw [if_neg (by omega), hs j hlt, hg]
      rw [if_neg (by rw [h5]; decide)]
      rw [h4, inB_nI (show o < mLen 36 from ho) (by decide), nI_clamp (show o < 2 ^ 31 by omega), e36, nI_add, inB_nI (show fp + j < mLen 39 from (by show fp + j < 512; omega)) (by decide), nI_clamp (by omega), e39, ← h4]
      exact hJ
theorem take_snoc {xs : List (List Nat)} {j : Nat} {y : List Nat} (h : xs[j]? = some y) : xs.take (j + 1) = xs.take j ++ [y] := by
  rw [List.take_add_one, h]
  rfl
theorem jn_take_le : ∀ (xs : List (List Nat)) (j : Nat), (jn (xs.take j)).length ≤ (jn xs).length := by
  intro xs
  induction xs with
  | nil => intro j; simp
  | cons y ys ih =>
    intro j
    cases j with
    | zero => exact Nat.zero_le _
    | succ j =>
      rw [List.take_succ_cons]
      by_cases h1 : ys = []
      · subst h1; simp
      · by_cases h2 : ys.take j = []
        · rw [h2, jn_cons h1]
          show y.length ≤ _
          rw [List.length_append]
          omega
        · rw [jn_cons h1, jn_cons h2, List.length_append, List.length_append, List.length_cons, List.length_cons]
          have := ih j
          omega
theorem mTextL {n : Nat} {w : MW} {P N G : Nat} {v8 : Int32} {pids : List Nat} {xs : List (List Nat)} (hl : pids.length = xs.length) (hP : P + xs.length ≤ 512) (h39 : ∀ j, j < xs.length → w.2 39 (P + j) = nI (pids.getD j 0)) (hT : ∀ (k : Nat) (y : List Nat), xs[k]? = some y → TXI w N G (pids.getD k 0) y) (hy : ∀ (k : Nat) (y : List Nat), xs[k]? = some y → y.length < n) (hN : N ≤ 64) (hG : G + (jn xs).length + 200 ≤ 4096) :
    ∀ (m j k : Nat), j + m = xs.length → m < k → fX7_closes_L250 n k (pT w G (40 :: jn (xs.take j))) (nI P) (nI xs.length) v8 (nI j) = some (v8, pT w G (40 :: jn xs)) := by
  intro m
  induction m with
  | zero =>
    intro j k hj hk
    obtain ⟨k, rfl⟩ : ∃ k', k = k' + 1 := ⟨k - 1, by omega⟩
    have : j = xs.length := by omega
    subst this
    unfold fX7_closes_L250
    rw [if_pos (Int32.le_refl _), List.take_length]
  | succ m ih =>
    intro j k hj hk
    obtain ⟨k, rfl⟩ : ∃ k', k = k' + 1 := ⟨k - 1, by omega⟩
    have hlt : j < xs.length := by omega
    obtain ⟨y, hyj⟩ : ∃ y, xs[j]? = some y := ⟨_, List.getElem?_eq_getElem hlt⟩
    have hrec := ih (j + 1) k (by omega) (by omega)
    rw [take_snoc hyj, jsn] at hrec
    have htl := jn_take_le xs j
    have htl2 := jn_take_le xs (j + 1)
    rw [take_snoc hyj, jsn, List.length_append, List.length_append] at htl2
    have hJ : ∀ z : List Nat, G + z.length + y.length < 4096 → (40 :: (jn (xs.take j) ++ ((if xs.take j = [] then [] else [32]) ++ y))) = z ++ y → fX7_closes_J268 n (fX7_closes_L250 n k) (pT w G z) (nI P) (nI xs.length) v8 (nI j) = some (v8, pT w G (40 :: jn xs)) := by
      intro z hz hzy
      unfold fX7_closes_J268
      have e39 : (pT w G z).2 39 (P + j) = nI (pids.getD j 0) := h39 j hlt
      rw [nI_add, inB_nI (show P + j < mLen 39 from (by show P + j < 512; omega)) (by decide), nI_clamp (by omega), e39]
      simp only [chk, putsIt (n := n) (hT j y hyj) hN (by omega) (hy j y hyj) hz, bP, nI_1]
      rw [← hzy, hrec]
    unfold fX7_closes_L250
    rw [if_neg (nI_ge hlt (by omega))]
    by_cases h0 : j = 0
    · subst h0
      rw [if_pos (show nI 0 ≤ (0 : Int32) by decide)]
      refine hJ _ ?_ ?_
      · simp at htl2 ⊢; omega
      · simp [jn]
    · rw [if_neg (nI_nle (by omega) (by omega))]
      have e32 : (32 : Int32) = nI 32 := rfl
      rw [e32, puts1 (by simp at htl ⊢; omega)]
      simp only [bP]
      have hne : xs.take j ≠ [] := by
        intro h
        have := congrArg List.length h
        simp at this
        rcases this with h | h
        · exact h0 h
        · rw [h] at hlt; simp at hlt
      rw [if_neg hne] at htl2
      refine hJ _ ?_ ?_
      · simp at htl2 ⊢; omega
      · rw [if_neg hne]; simp
def gpS (w : MW) (N P G e m2 T : Nat) (pids : List Nat) (x : List Nat) : MW := mA (pT (mA (mA (mA (bgS (ptS w P pids) N e m2 true (P + pids.length) G) 36 N (nI P)) 37 N (nI pids.length)) 33 N (nI T)) G x) 35 N (nI x.length)
theorem dgs1 : ∀ T, T < 10 → dgs T = [48 + T] := by decide
theorem mGrp {n : Nat} {w : MW} {N P G d e m2 t T : Nat} {v4 v5 : Int32} {pids : List Nat} {xs : List (List Nat)} (hde : d = e + 1) (hd6 : d < 6) (hN : w.1 31 = nI N) (hPw : w.1 38 = nI P) (hG : w.1 40 = nI G) (hm : w.2 42 e = nI m2) (hm32 : m2 < 32) (hN64 : N < 64) (hl : pids.length = xs.length) (hP : P + xs.length ≤ 512) (hx15 : xs.length ≤ 31) (hG4 : G + (jn xs).length + 200 ≤ 4096) (hT9 : T ≤ 9) (hn : 100 < n)
    (hT : ∀ (k : Nat) (y : List Nat), xs[k]? = some y → TXI w N G (pids.getD k 0) y) (hy : ∀ (k : Nat) (y : List Nat), xs[k]? = some y → y.length < n)
    (hs : (v5 = 0 ∧ ∃ d', d' < 6 ∧ nI d = nI d' ∧ pids.length ≤ 31 ∧ ∀ j, j < pids.length → w.2 43 (32 * d' + j) = nI (pids.getD j 0)) ∨ (v5 = 1 ∧ ∃ o fp, v4 = nI o ∧ o < 64 ∧ w.2 36 o = nI fp ∧ fp + pids.length ≤ P ∧ ∀ j, j < pids.length → w.2 39 (fp + j) = nI (pids.getD j 0)))
    (hT0 : (v5 = 0 ∧ T = t) ∨ (v5 = 1 ∧ ∃ o t1, v4 = nI o ∧ o < N ∧ w.2 33 o = nI t1 ∧ T = t1 * t)) :
    fX7_closes_J116 n w (nI d) (nI t) v4 v5 (nI P) (nI xs.length) = some (gpS w N P G e m2 T pids (40 :: (jn xs ++ [41, 120, 48 + T]))) := by
  have hparts := mPartsL (n := n) (w := w) (P := P) (v1 := nI d) (v2 := nI t) (v4 := v4) (v5 := v5) (v6 := nI P) (by omega) hs pids 0 n [] rfl (Nat.zero_le _) rfl (by omega)
  rw [ptS_nil hPw, List.nil_append, hl] at hparts
  have e0 : nI 0 = (0 : Int32) := nI_0
  rw [e0] at hparts
  have e1 : nI d - (1 : Int32) = nI e := by rw [hde]; exact nI_pred e
  obtain ⟨w0, hw0⟩ : ∃ w0, w0 = ptS w P pids := ⟨_, rfl⟩
  rw [← hw0] at hparts
  have hbg := mBegins (w := w0) (N := N) (d := e) (m := m2) (P := P + pids.length) (G := G) (g := true) (by rw [hw0]; exact hN) (by rw [hw0]; rfl) (by rw [hw0]; exact hG) (by omega) (by rw [hw0]; exact hm) hm32 hN64
  have hb1 : b2i true = (1 : Int32) := rfl
  rw [hb1] at hbg
  obtain ⟨w3, hw3⟩ : ∃ w3, w3 = mA (mA (bgS w0 N e m2 true (P + pids.length) G) 36 N (nI P)) 37 N (nI pids.length) := ⟨_, rfl⟩
  have i33 := inB_nI (show N < mLen 33 from hN64) (by decide)
  have i34 := inB_nI (show N < mLen 34 from hN64) (by decide)
  have i35 := inB_nI (show N < mLen 35 from hN64) (by decide)
  have i36 := inB_nI (show N < mLen 36 from hN64) (by decide)
  have i37 := inB_nI (show N < mLen 37 from hN64) (by decide)
  have hJ : fX7_closes_J240 n w3 (nI P) (nI xs.length) (nI N) (nI T) (nI N) = some (gpS w N P G e m2 T pids (40 :: (jn xs ++ [41, 120, 48 + T]))) := by
    obtain ⟨w4, hw4⟩ : ∃ w4, w4 = mA w3 33 N (nI T) := ⟨_, rfl⟩
    have g40 : w4.1 40 = nI G := by rw [hw4, hw3, hw0]; exact hG
    have g39 : w4.2 39 = (ptS w P pids).2 39 := by rw [hw4, hw3, hw0]; rfl
    have g41 : w4.2 41 = w.2 41 := by rw [hw4, hw3, hw0]; rfl
    have g34 : w4.2 34 = upd (w.2 34) N (nI G) := by rw [hw4, hw3, hw0]; rfl
    have g35 : w4.2 35 = upd (w.2 35) N 0 := by rw [hw4, hw3, hw0]; rfl
    have g33 : w4.2 33 N = nI T := by rw [hw4]; exact upd_at
    have h39 : ∀ j, j < xs.length → w4.2 39 (P + j) = nI (pids.getD j 0) := by
      intro j hj
      rw [g39]
      show (if P ≤ P + j ∧ P + j < P + pids.length then _ else _) = _
      rw [if_pos (by omega), Nat.add_sub_cancel_left]
    have hT4 : ∀ k y, xs[k]? = some y → TXI w4 N G (pids.getD k 0) y := by
      intro k y hk
      obtain ⟨t1, p, t2, t3, t4, t5⟩ := hT k y hk
      exact ⟨t1, p, by rw [g34, upd_ne (by omega)]; exact t2, by rw [g35, upd_ne (by omega)]; exact t3, t4, fun i hi => by rw [g41]; exact t5 i hi⟩
    have htx := mTextL (n := n) (v8 := nI N) hl hP h39 hT4 hy (by omega) hG4 xs.length 0 n (by omega) (by omega)
    rw [List.take_zero, e0] at htx
    have htx : fX7_closes_L250 n n (pT w4 G [40]) (nI P) (nI xs.length) (nI N) (0 : Int32) = some (nI N, pT w4 G (40 :: jn xs)) := htx
    have p40 : fX7_putsSign w4 (40 : Int32) = some (pT w4 G [40]) := by
      have := puts1 (w := w4) (G := G) (x := []) (c := 40) (by simp; omega)
      rw [pT_nil g40] at this
      exact this
    have p41 : fX7_putsSign (pT w4 G (40 :: jn xs)) (41 : Int32) = some (pT w4 G ((40 :: jn xs) ++ [41])) := puts1 (c := 41) (by simp; omega)
    have p120 : fX7_putsSign (pT w4 G ((40 :: jn xs) ++ [41])) (120 : Int32) = some (pT w4 G (((40 :: jn xs) ++ [41]) ++ [120])) := puts1 (c := 120) (by simp; omega)
    have pT9 : fX7_putsNumber (pT w4 G (((40 :: jn xs) ++ [41]) ++ [120])) (nI T) = some (pT w4 G ((((40 :: jn xs) ++ [41]) ++ [120]) ++ dgs T)) := putsNum (by omega) (by simp; omega)
    have q33 : ∀ x, (pT w4 G x).2 33 N = nI T := fun x => g33
    have q34 : ∀ x, (pT w4 G x).2 34 N = nI G := fun x => by show w4.2 34 N = _; rw [g34, upd_at]
    have q40 : ∀ x, (pT w4 G x).1 40 = nI (G + x.length) := fun x => rfl
    have ex : (((40 :: jn xs) ++ [41]) ++ [120]) ++ dgs T = 40 :: (jn xs ++ [41, 120, 48 + T]) := by rw [dgs1 T (by omega)]; simp
    unfold fX7_closes_J240
    rw [i33, nI_clamp (show N < 2 ^ 31 by omega)]
    simp only [chk, bnd, ← hw4, p40, bP, htx, bL2, p41, p120, i33, i34, i35, nI_clamp (show N < 2 ^ 31 by omega), q33, pT9, q34, q40]
    rw [ex]
    have e6 : nI (G + (40 :: (jn xs ++ [41, 120, 48 + T])).length) - nI G = nI (40 :: (jn xs ++ [41, 120, 48 + T])).length := by
      rw [Nat.add_comm, ← nI_add]
      exact Int32.add_sub_cancel _ _
    rw [e6, hw4, hw3, hw0]
    rfl
  unfold fX7_closes_J116
  rw [hparts]
  simp only [bL7, e1, hbg, b2, i36, i37, chk, nI_clamp (show N < 2 ^ 31 by omega), bnd]
  rw [← hl, ← hw3, hl]
  rcases hT0 with ⟨h5, rfl⟩ | ⟨h5, o, t1, h4, ho, h33, rfl⟩
  · rw [if_pos h5]
    exact hJ
  · rw [if_neg (by rw [h5]; decide)]
    have g33 : w3.2 33 o = nI t1 := by
      have : w3.2 33 = upd (w.2 33) N 1 := by rw [hw3, hw0]; rfl
      rw [this, upd_ne (by omega)]
      exact h33
    rw [h4, inB_nI (show o < mLen 33 from (by show o < 64; omega)) (by decide), nI_clamp (show o < 2 ^ 31 by omega)]
    simp only []
    rw [g33, nI_mul]
    exact hJ
