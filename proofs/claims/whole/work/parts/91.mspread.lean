/-! the reference: an entry, spread -/
def wid (p : Pst) : Nat := 3 + (dgs p.2.2.1).length
def slen (ps : List Pst) : Nat := ps.foldr (fun p s => p.2.2.2 * wid p + s) 0
def bgt (ps : List Pst) : List Nat := ps.flatMap (fun p => (List.replicate p.2.2.2 (ptx p ++ [32])).flatten)
theorem ptx_len (p : Pst) : (ptx p ++ [32]).length = wid p := by
  simp [ptx, wid]
  omega
theorem jn_sp : ∀ (l : List (List Nat)), l ≠ [] → jn l ++ [32] = (l.map (fun y => y ++ [32])).flatten := by
  intro l
  induction l with
  | nil => exact fun h => absurd rfl h
  | cons y l ih =>
    intro _
    by_cases hl : l = []
    · subst hl; simp [jn]
    · rw [jn_cons hl, List.map_cons, List.flatten_cons, ← ih hl]
      simp
theorem spl_ne {ps : List Pst} (hne : ps ≠ []) (h1 : ∀ p ∈ ps, 1 ≤ p.2.2.2) : spl ps ≠ [] := by
  cases ps with
  | nil => exact absurd rfl hne
  | cons p ps =>
    have := h1 p List.mem_cons_self
    obtain ⟨t, ht⟩ : ∃ t, p.2.2.2 = t + 1 := ⟨p.2.2.2 - 1, by omega⟩
    simp [spl, ht, List.replicate_succ]
theorem sprd_bgt {ps : List Pst} (hne : ps ≠ []) (h1 : ∀ p ∈ ps, 1 ≤ p.2.2.2) : sprd ps ++ [32] = bgt ps := by
  unfold sprd
  rw [jn_sp _ (spl_ne hne h1)]
  have key : ∀ ps : List Pst, ((spl ps).map (fun y => y ++ [32])).flatten = bgt ps := by
    intro ps
    induction ps with
    | nil => rfl
    | cons p ps ih =>
      have e1 : spl (p :: ps) = List.replicate p.2.2.2 (ptx p) ++ spl ps := by simp [spl]
      have e2 : bgt (p :: ps) = (List.replicate p.2.2.2 (ptx p ++ [32])).flatten ++ bgt ps := by simp [bgt]
      rw [e1, e2, List.map_append, List.flatten_append, ih, List.map_replicate]
  exact key ps
theorem rep_len (t : Nat) (x : List Nat) : (List.replicate t x).flatten.length = t * x.length := by
  simp
theorem bgt_len : ∀ ps : List Pst, (bgt ps).length = slen ps := by
  intro ps
  induction ps with
  | nil => rfl
  | cons p ps ih =>
    have e2 : bgt (p :: ps) = (List.replicate p.2.2.2 (ptx p ++ [32])).flatten ++ bgt ps := by simp [bgt]
    rw [e2, List.length_append, rep_len, ptx_len, ih]
    rfl
theorem sprd_len {ps : List Pst} (hne : ps ≠ []) (h1 : ∀ p ∈ ps, 1 ≤ p.2.2.2) : (sprd ps).length + 1 = slen ps := by
  have := congrArg List.length (sprd_bgt hne h1)
  rw [bgt_len, List.length_append] at this
  exact this
theorem rep_get : ∀ (t : Nat) (x : List Nat) (i : Nat), i < t * x.length → (List.replicate t x).flatten.getD i 0 = x.getD (i % x.length) 0 := by
  intro t
  induction t with
  | zero => exact fun x i h => absurd h (by simp)
  | succ t ih =>
    intro x i h
    rw [List.replicate_succ, List.flatten_cons, getD_app]
    by_cases hi : i < x.length
    · rw [if_pos hi, Nat.mod_eq_of_lt hi]
    · rw [if_neg hi, ih x (i - x.length) (by rw [Nat.succ_mul] at h; omega), ← Nat.mod_eq_sub_mod (by omega)]
theorem num_div : ∀ v, v < 1000 → nI v / (10 : Int32) = nI (v / 10) := by decide +kernel
theorem num_mod : ∀ a, a < 400 → ∀ L, L < 7 → 3 < L → nI a - nI a / nI L * nI L = nI (a % L) := by decide +kernel
theorem num_m10 : ∀ v, v < 1000 → (48 : Int32) + (nI v - nI v / (10 : Int32) * (10 : Int32)) = nI (48 + v % 10) := fun v hv => (num_hi v hv).2.2
theorem dgs_get : ∀ v, v < 1000 → ∀ i, i < 3 → i < (dgs v).length → (dgs v).getD i 0 = 48 + v / 10 ^ ((dgs v).length - 1 - i) % 10 := by decide +kernel
theorem numLong : ∀ v, v < 1000 → fX7_numberLong (nI v) = some (nI (dgs v).length) := by decide +kernel
theorem mDivL {n : Nat} {w : MW} {m : Nat} (hm : 2 ≤ m) (hm6 : m < 10) : ∀ (e v k : Nat), v < 1000 → e < k → e < 10 → fX7_spreadAt_L156 n k w (nI m) (nI v) (nI (m - 2 + e)) = some (nI (v / 10 ^ e)) := by
  have e2 : nI m - (2 : Int32) = nI (m - 2) := by
    obtain ⟨m', rfl⟩ : ∃ m', m = m' + 2 := ⟨m - 2, by omega⟩
    rw [← nI_add, Nat.add_sub_cancel]
    exact Int32.add_sub_cancel _ 2
  intro e
  induction e with
  | zero =>
    intro v k hv hk _
    obtain ⟨k, rfl⟩ : ∃ k', k = k' + 1 := ⟨k - 1, by omega⟩
    unfold fX7_spreadAt_L156
    rw [e2, Nat.add_zero, if_pos (Int32.le_refl _)]
    simp
  | succ e ih =>
    intro v k hv hk he
    obtain ⟨k, rfl⟩ : ∃ k', k = k' + 1 := ⟨k - 1, by omega⟩
    unfold fX7_spreadAt_L156
    rw [e2, if_neg (nI_ge (by omega) (by omega)), show nz (10 : Int32) = true by decide]
    have e3 : nI (m - 2 + (e + 1)) + (-1 : Int32) = nI (m - 2 + e) := by
      rw [nI_m1]; exact nI_pred _
    simp only [chk, bnd]
    rw [num_div v hv, e3, ih (v / 10) k (by omega) (by omega) (by omega), Nat.div_div_eq_div_mul, Nat.pow_succ, Nat.mul_comm]
section RMsec
variable {w : MW}
theorem txE2 {E : Ent} : txE E 2 = if E.2.2.2 = true then E.2.1 else sprd E.2.2.1 := rfl
theorem nI_accm (s t : Nat) : nI s - 1 + nI t = nI (s + t) - 1 := by
  rw [← nI_add, Int32.sub_eq_add_neg, Int32.sub_eq_add_neg, Int32.add_assoc, Int32.add_comm (-1), ← Int32.add_assoc]
theorem ME.slL {n j : Nat} {E : Ent} (h : ME w j E) (hj : j < 24) (hl : E.2.2.1.length ≤ 15) (hp : ∀ p ∈ E.2.2.1, p.2.2.1 < 1000) : ∀ (r : List Pst) (i s k : Nat), E.2.2.1.drop i = r → i ≤ 15 → r.length < k → fX7_spreadLong_L18 n k w (nI j) (nI s - 1) (nI (16 * j + i)) = some (nI (s + slen r) - 1) := by
  obtain ⟨-, -, -, -, -, h9, hps⟩ := h
  have e16 : (16 : Int32) * nI j = nI (16 * j) := nI_mul 16 j
  intro r
  induction r with
  | nil =>
    intro i s k hdr hi hk
    obtain ⟨k, rfl⟩ : ∃ k', k = k' + 1 := ⟨k - 1, by simp at hk; omega⟩
    have := ldnil hdr
    unfold fX7_spreadLong_L18
    rw [inB_nI (show j < mLen 9 from hj) (by decide), nI_clamp (by omega), h9, e16, nI_add]
    simp only [chk]
    rw [if_pos (nI_le (by omega) (by omega))]
    rfl
  | cons p r ih =>
    intro i s k hdr hi hk
    obtain ⟨k, rfl⟩ : ∃ k', k = k' + 1 := ⟨k - 1, by simp at hk; omega⟩
    obtain ⟨hlt, hg, hdr2⟩ := ldrop hdr
    simp only [List.length_cons] at hk
    obtain ⟨p1, p2, p3, p4⟩ := hps i p hg
    have hpv := hp p (List.mem_of_getElem? hg)
    unfold fX7_spreadLong_L18
    rw [inB_nI (show j < mLen 9 from hj) (by decide), nI_clamp (show j < 2 ^ 31 by omega), h9, e16, nI_add]
    simp only [chk]
    rw [if_neg (nI_ge (by omega) (by omega)), inB_nI (show 16 * j + i < mLen 13 from (by show 16 * j + i < 384; omega)) (by decide), inB_nI (show 16 * j + i < mLen 12 from (by show 16 * j + i < 384; omega)) (by decide), nI_clamp (show 16 * j + i < 2 ^ 31 by omega), p3, p4, numLong _ hpv]
    have e3 : (3 : Int32) + nI (dgs p.2.2.1).length = nI (wid p) := nI_add 3 _
    simp only [bP, bnd, nI_1, e3, nI_mul, nI_accm]
    rw [show 16 * j + i + 1 = 16 * j + (i + 1) by omega, ih (i + 1) _ k hdr2 (by omega) (by omega)]
    show some (nI (s + p.2.2.2 * wid p + slen r) - 1) = some (nI (s + (p.2.2.2 * wid p + slen r)) - 1)
    rw [Nat.add_assoc]
theorem ME.sl {n j : Nat} {E : Ent} (h : ME w j E) (hj : j < 24) (hE : WE E) (hn : 60 < n) : fX7_spreadLong n w (nI j) = some (nI (txE E 2).length) := by
  have h0 := h
  obtain ⟨w1, w2, w3, w4, w5, w6, w7, w8, w9, w10, w11⟩ := hE
  have e16 : (16 : Int32) * nI j = nI (16 * j) := nI_mul 16 j
  unfold fX7_spreadLong
  rw [inB_nI (show j < mLen 4 from hj) (by decide), nI_clamp (show j < 2 ^ 31 by omega), h.1, txE2]
  simp only [chk]
  cases hs : E.2.2.2 with
  | true =>
    rw [if_neg (show ¬ (b2i true = (0 : Int32)) by decide), if_pos rfl, (w6 hs).2.1]
    rfl
  | false =>
    rw [if_pos (show b2i false = (0 : Int32) from rfl), if_neg (by decide)]
    have hl := ME.slL (n := n) h0 hj w10 (fun p hp => (w11 p hp).2.1) E.2.2.1 0 0 n rfl (by decide) (by omega)
    have em : nI 0 - 1 = (-1 : Int32) := rfl
    rw [em, Nat.add_zero, Nat.zero_add, ← sprd_len (w7 hs) (fun p hp => (w11 p hp).2.2.1), nI_pred] at hl
    simp only [bnd, e16, hl, bL1]
theorem ME.saL {n j : Nat} {E : Ent} (h : ME w j E) (hj : j < 24) (hl : E.2.2.1.length ≤ 15) (hp : ∀ p ∈ E.2.2.1, p.2.2.1 < 1000 ∧ p.2.2.2 ≤ 60) : ∀ (r : List Pst) (i left k : Nat), E.2.2.1.drop i = r → i ≤ 15 → r.length < k → left < slen r → left < 10000 →
    ∃ i' p left', fX7_spreadAt_L20 n k w (nI left) (nI (16 * j + i)) = some (nI left', nI (16 * j + i')) ∧ E.2.2.1[i']? = some p ∧ left' < p.2.2.2 * wid p ∧ (bgt r).getD left 0 = (ptx p ++ [32]).getD (left' % wid p) 0 := by
  obtain ⟨-, -, -, -, -, h9, hps⟩ := h
  intro r
  induction r with
  | nil => exact fun i left k _ _ _ hlt => absurd hlt (Nat.not_lt_zero _)
  | cons p r ih =>
    intro i left k hdr hi hk hlt hbig
    obtain ⟨k, rfl⟩ : ∃ k', k = k' + 1 := ⟨k - 1, by simp at hk; omega⟩
    obtain ⟨hil, hg, hdr2⟩ := ldrop hdr
    simp only [List.length_cons] at hk
    obtain ⟨p1, p2, p3, p4⟩ := hps i p hg
    obtain ⟨hpv, hpt⟩ := hp p (List.mem_of_getElem? hg)
    have hdl := (dgs_len _ hpv).2
    have e3 : (3 : Int32) + nI (dgs p.2.2.1).length = nI (wid p) := nI_add 3 _
    have hw6 : wid p ≤ 6 := by unfold wid; omega
    have htw : p.2.2.2 * wid p ≤ 360 := Nat.mul_le_mul hpt hw6
    have hb : bgt (p :: r) = (List.replicate p.2.2.2 (ptx p ++ [32])).flatten ++ bgt r := by simp [bgt]
    have hun : fX7_spreadAt_L20 n (k + 1) w (nI left) (nI (16 * j + i)) = (if nI left < nI (p.2.2.2 * wid p) then some (nI left, nI (16 * j + i)) else fX7_spreadAt_L20 n k w (nI left - nI (p.2.2.2 * wid p)) (nI (16 * j + i + 1))) := by
      conv => lhs; unfold fX7_spreadAt_L20
      rw [inB_nI (show 16 * j + i < mLen 13 from (by show 16 * j + i < 384; omega)) (by decide), inB_nI (show 16 * j + i < mLen 12 from (by show 16 * j + i < 384; omega)) (by decide), nI_clamp (show 16 * j + i < 2 ^ 31 by omega), p3, p4, numLong _ hpv]
      simp only [chk, bP, bnd, e3, nI_mul, nI_1]
    rw [hun]
    by_cases hc : left < p.2.2.2 * wid p
    · refine ⟨i, p, left, by rw [if_pos (nI_lt hc (by omega))], hg, hc, ?_⟩
      rw [hb, getD_app, rep_len, ptx_len, if_pos hc]
      have := rep_get p.2.2.2 (ptx p ++ [32]) left (by rw [ptx_len]; exact hc)
      rw [ptx_len] at this
      exact this
    · have hsl : slen (p :: r) = p.2.2.2 * wid p + slen r := rfl
      have esub : nI left - nI (p.2.2.2 * wid p) = nI (left - p.2.2.2 * wid p) := by
        have : left = (left - p.2.2.2 * wid p) + p.2.2.2 * wid p := by omega
        conv => lhs; rw [this]
        rw [← nI_add]
        exact Int32.add_sub_cancel _ _
      rw [if_neg (nI_nlt (by omega) (by omega)), esub, show 16 * j + i + 1 = 16 * j + (i + 1) by omega]
      obtain ⟨i', q, left', k1, k2, k3, k4⟩ := ih (i + 1) (left - p.2.2.2 * wid p) k hdr2 (by omega) (by omega) (by omega) (by omega)
      refine ⟨i', q, left', k1, k2, k3, ?_⟩
      rw [hb, getD_app, rep_len, ptx_len, if_neg hc]
      exact k4
theorem ME.sa {n j : Nat} {E : Ent} (h : ME w j E) (hj : j < 24) (hE : WE E) (hn : 60 < n) {pl : Nat} (hpl : pl < (txE E 2).length) (hpl2 : pl < 2 ^ 31) : fX7_spreadAt n w (nI j) (nI pl) = some (nI ((txE E 2).getD pl 0)) := by
  have h0 := h
  obtain ⟨w1, w2, w3, w4, w5, w6, w7, w8, w9, w10, w11⟩ := hE
  have e16 : (16 : Int32) * nI j = nI (16 * j) := nI_mul 16 j
  unfold fX7_spreadAt
  rw [txE2] at hpl ⊢
  rw [inB_nI (show j < mLen 4 from hj) (by decide), nI_clamp (show j < 2 ^ 31 by omega), h.1]
  simp only [chk]
  cases hs : E.2.2.2 with
  | true =>
    rw [if_neg (show ¬ (b2i true = (0 : Int32)) by decide), if_pos rfl]
    rw [hs, if_pos rfl, (w6 hs).2.1] at hpl
    rw [(w6 hs).2.1]
    have : pl = 0 := by simp at hpl; omega
    rw [this]
    rfl
  | false =>
    rw [if_pos (show b2i false = (0 : Int32) from rfl), if_neg (by decide)]
    rw [hs, if_neg (by decide)] at hpl
    have h1 : ∀ p ∈ E.2.2.1, 1 ≤ p.2.2.2 := fun p hp => (w11 p hp).2.2.1
    have hsl := sprd_len (w7 hs) h1
    have hsplit := sprd_bgt (w7 hs) h1
    have hch : (sprd E.2.2.1).getD pl 0 = (bgt E.2.2.1).getD pl 0 := by
      rw [← hsplit, getD_app, if_pos hpl]
    have hsm : slen E.2.2.1 ≤ 360 := by
      have hlen5 : ∀ y ∈ spl E.2.2.1, y.length ≤ 5 := by
        intro y hy
        obtain ⟨p, hp, hy2⟩ := List.mem_flatMap.mp hy
        rw [List.eq_of_mem_replicate hy2]
        have := (dgs_len _ (w11 p hp).2.1).2
        simp [ptx]
        omega
      have hj := jn_len1 (spl E.2.2.1) (spl_ne (w7 hs) h1) hlen5
      have hsl2 : (spl E.2.2.1).length = cnt E.2.2.1 := by
        have key : ∀ ps : List Pst, (spl ps).length = cnt ps := by
          intro ps
          induction ps with
          | nil => rfl
          | cons p ps ih =>
            have e1 : spl (p :: ps) = List.replicate p.2.2.2 (ptx p) ++ spl ps := by simp [spl]
            rw [e1, List.length_append, List.length_replicate, ih, cnt_cons]
        exact key _
      have : (sprd E.2.2.1).length + 1 ≤ 6 * (spl E.2.2.1).length := hj
      omega
    obtain ⟨i', p, left', k1, k2, k3, k4⟩ := ME.saL (n := n) h0 hj w10 (fun p hp => ⟨(w11 p hp).2.1, (w11 p hp).2.2.2⟩) E.2.2.1 0 pl n rfl (by decide) (by omega) (by omega) (by omega)
    rw [Nat.add_zero] at k1
    have hil : i' < E.2.2.1.length := (List.getElem?_eq_some_iff.mp k2).1
    obtain ⟨p1, p2, p3, p4⟩ := h0.2.2.2.2.2.2 i' p k2
    obtain ⟨q1, q2, q3, q4⟩ := w11 p (List.mem_of_getElem? k2)
    have hdl := dgs_len _ q2
    have hw6 : wid p ≤ 6 := by unfold wid; omega
    have hw4 : 3 < wid p := by unfold wid; omega
    have htw : p.2.2.2 * wid p ≤ 360 := Nat.mul_le_mul q4 hw6
    have e3 : (3 : Int32) + nI (dgs p.2.2.1).length = nI (wid p) := nI_add 3 _
    have e2 : (2 : Int32) + nI (dgs p.2.2.1).length = nI (2 + (dgs p.2.2.1).length) := nI_add 2 _
    have hmod := num_mod left' (by omega) (wid p) (by omega) hw4
    have hnz : nz (nI (wid p)) = true := by
      have key : ∀ L, L < 7 → 3 < L → nz (nI L) = true := by decide +kernel
      exact key _ (by omega) hw4
    obtain ⟨m, hm⟩ : ∃ m, m = left' % wid p := ⟨_, rfl⟩
    have hml : m < wid p := by rw [hm]; exact Nat.mod_lt _ (by omega)
    rw [← hm] at hmod k4
    simp only [bnd, e16, k1, bL2]
    rw [inB_nI (show 16 * j + i' < mLen 12 from (by show 16 * j + i' < 384; omega)) (by decide), inB_nI (show 16 * j + i' < mLen 10 from (by show 16 * j + i' < 384; omega)) (by decide), inB_nI (show 16 * j + i' < mLen 11 from (by show 16 * j + i' < 384; omega)) (by decide), nI_clamp (show 16 * j + i' < 2 ^ 31 by omega), p1, p2, p3, numLong _ q2]
    simp only [bP, e3, hnz, hmod, e2]
    rw [hch, k4]
    have hpx : ptx p ++ [32] = (97 + p.1) :: (if p.2.1 = true then 45 else 43) :: (dgs p.2.2.1 ++ [32]) := rfl
    rw [hpx]
    by_cases m0 : m = 0
    · subst m0
      rw [if_pos (show nI 0 = (0 : Int32) from rfl)]
      have : (97 : Int32) + nI p.1 = nI (97 + p.1) := nI_add 97 _
      rw [this]
      rfl
    · have hmm : nI m ≠ 0 := nI_ne0 (by omega) (by omega)
      rw [if_neg hmm]
      by_cases m1 : m = 1
      · subst m1
        rw [if_pos (show nI 1 = (1 : Int32) from rfl)]
        cases p.2.1 <;> rfl
      · rw [if_neg (show ¬ (nI m = (1 : Int32)) from fun z => m1 ((nI_eq (b := 1) (by omega) (by decide)).mp z))]
        have hwd : wid p = 3 + (dgs p.2.2.1).length := rfl
        have hget : ((97 + p.1) :: (if p.2.1 = true then 45 else 43) :: (dgs p.2.2.1 ++ [32])).getD m 0 = (dgs p.2.2.1 ++ [32]).getD (m - 2) 0 := by
          obtain ⟨m', rfl⟩ : ∃ m', m = m' + 2 := ⟨m - 2, by omega⟩
          rfl
        rw [hget, getD_snocN (by omega)]
        by_cases m2 : m = 2 + (dgs p.2.2.1).length
        · rw [if_pos (by rw [m2]), if_neg (by omega)]
          rfl
        · rw [if_neg (fun z => m2 ((nI_eq (by omega) (by omega)).mp z)), if_pos (by omega)]
          have e4 : nI (dgs p.2.2.1).length - (1 : Int32) = nI (m - 2 + ((dgs p.2.2.1).length - 1 - (m - 2))) := by
            have : (dgs p.2.2.1).length = (m - 2 + ((dgs p.2.2.1).length - 1 - (m - 2))) + 1 := by omega
            conv => lhs; rw [this]
            exact nI_pred _
          rw [e4, mDivL (n := n) (by omega) (by omega) _ _ n q2 (by omega) (by omega)]
          simp only [bL1, show nz (10 : Int32) = true by decide]
          rw [num_m10 _ (Nat.lt_of_le_of_lt (Nat.div_le_self _ _) q2), dgs_get _ q2 (m - 2) (by omega) (by omega)]
end RMsec
section RMsec
variable {w : MW} {A : Abs}
theorem f3 {f : Int32} (h : inB f 3 = true) : f = 0 ∨ f = 1 ∨ f = 2 := by
  obtain ⟨h1, h2⟩ := inB_nI2 h
  have : f.toNatClampNeg = 0 ∨ f.toNatClampNeg = 1 ∨ f.toNatClampNeg = 2 := by omega
  rcases this with h3 | h3 | h3 <;> rw [h3] at h2
  · exact Or.inl h2
  · exact Or.inr (Or.inl h2)
  · exact Or.inr (Or.inr h2)
theorem RM.long {n : Nat} (h : RM w A) (hW : WF A) (hn : 60 < n) {j : Nat} (hj : j < A.2.1.length) {f : Int32} (hf : inB f 3 = true) : fX7_longOf n w (nI j) f = some (nI (txE (A.2.1.getD j ([], [], [], false)) f).length) := by
  have h24 := hW.2.1.1
  have hm := h.me hj
  have hE := hW.ent hj
  have hc := nI_clamp (show j < 2 ^ 31 by omega)
  unfold fX7_longOf
  rcases f3 hf with rfl | rfl | rfl
  · rw [if_pos rfl, inB_nI (show j < mLen 5 from (by show j < 24; omega)) (by decide), hc, hm.2.1]
    rfl
  · rw [if_neg (by decide), if_pos rfl, inB_nI (show j < mLen 7 from (by show j < 24; omega)) (by decide), hc, hm.2.2.2.1]
    rfl
  · rw [if_neg (by decide), if_neg (by decide), hm.sl (by omega) hE hn]
    rfl
theorem txE_small {E : Ent} (hE : WE E) {f : Int32} (hf : inB f 3 = true) : (txE E f).length < 1000 := by
  obtain ⟨w1, w2, w3, w4, w5, w6, w7, w8, w9, w10, w11⟩ := hE
  unfold txE
  rcases f3 hf with rfl | rfl | rfl
  · rw [if_pos rfl]; omega
  · rw [if_neg (by decide), if_pos rfl]; omega
  · rw [if_neg (by decide), if_neg (by decide)]
    cases hs : E.2.2.2 with
    | true => rw [if_pos rfl]; omega
    | false =>
      rw [if_neg (by decide)]
      have hlen5 : ∀ y ∈ spl E.2.2.1, y.length ≤ 5 := by
        intro y hy
        obtain ⟨p, hp, hy2⟩ := List.mem_flatMap.mp hy
        rw [List.eq_of_mem_replicate hy2]
        have := (dgs_len _ (w11 p hp).2.1).2
        simp [ptx]
        omega
      have hj := jn_len (spl E.2.2.1) hlen5
      have hsl2 : (spl E.2.2.1).length = cnt E.2.2.1 := by
        have key : ∀ ps : List Pst, (spl ps).length = cnt ps := by
          intro ps
          induction ps with
          | nil => rfl
          | cons p ps ih =>
            have e1 : spl (p :: ps) = List.replicate p.2.2.2 (ptx p) ++ spl ps := by simp [spl]
            rw [e1, List.length_append, List.length_replicate, ih, cnt_cons]
        exact key _
      have : (sprd E.2.2.1).length ≤ 6 * (spl E.2.2.1).length := hj
      omega
theorem mo_length {n : Nat} (h : RM w A) (hW : WF A) (e f : Int32) (hn : 2000 < n) : MO (q_length A e f) (fX7_length n w e f) (fun z => if z = 2 then (1 : Int32) else if z = 0 then (2 : Int32) else 0) := by
  unfold fX7_length q_length
  rw [h.isE hW]
  simp only [bP]
  cases hi : inB e A.2.1.length with
  | false =>
    rw [if_pos (show b2i false = (0 : Int32) from rfl), if_neg (by decide)]
    refine MO.inl (z := 2) (v := 1) (r := 0) (w := w) ?_ h rfl rfl
    simp only [fX7_length_J27, isOfT (show (1 : Int32) ≠ 0 by decide), b2, if_true]
  | true =>
    rw [if_neg (show ¬ (b2i true = (0 : Int32)) by decide), if_pos rfl, isIn3]
    simp only []
    cases hi2 : inB f 3 with
    | false =>
      rw [if_pos (show b2i false = (0 : Int32) from rfl), if_neg (by decide)]
      refine MO.inl (z := 0) (v := 2) (r := 0) (w := w) ?_ h rfl rfl
      simp only [fX7_length_J27, isOfT (show (2 : Int32) ≠ 0 by decide), b2, if_true]
    | true =>
      rw [if_neg (show ¬ (b2i true = (0 : Int32)) by decide), if_pos rfl]
      obtain ⟨hjl, hv⟩ := inB_nI2 hi
      refine MO.inr (w := w) ?_ h rfl
      have hl := (h.thr 0).long (n := n) hW (by omega) hjl hi2
      rw [← hv] at hl
      unfold fX7_length_J27
      rw [isOf0]
      simp only [b2]
      rw [if_neg (show ¬ ((1 : Int32) = 0) by decide), hl]
      rfl
theorem mo_signAt {n : Nat} (h : RM w A) (hW : WF A) (e f p : Int32) (hn : 2000 < n) : MO (q_signAt A e f p) (fX7_signAt n w e f p) (fun z => if z = 2 then (1 : Int32) else if z = 0 then (2 : Int32) else 0) := by
  have h24 := hW.2.1.1
  have hJ13 : MO (.inl 2, A) (fX7_signAt_J13 n w e f p) (fun z => if z = 2 then (1 : Int32) else if z = 0 then (2 : Int32) else 0) := by
    refine MO.inl (z := 2) (v := 1) (r := 0) (w := w) ?_ h rfl rfl
    simp only [fX7_signAt_J13, fX7_signAt_J31, isOfT (show (1 : Int32) ≠ 0 by decide), b2, if_true]
  unfold fX7_signAt q_signAt
  rw [h.isE hW]
  simp only [bP]
  cases hi : inB e A.2.1.length with
  | false => rw [if_pos (show b2i false = (0 : Int32) from rfl), if_neg (by decide)]; exact hJ13
  | true =>
    rw [if_neg (show ¬ (b2i true = (0 : Int32)) by decide), if_pos rfl]
    by_cases hp : p < 0
    · rw [if_pos hp, if_neg (Int32.not_le.mpr hp)]; exact hJ13
    · rw [if_neg hp, if_pos (Int32.not_lt.mp hp), isIn3]
      simp only []
      cases hi2 : inB f 3 with
      | false =>
        rw [if_pos (show b2i false = (0 : Int32) from rfl), if_neg (by decide)]
        refine MO.inl (z := 0) (v := 2) (r := 0) (w := w) ?_ h rfl rfl
        simp only [fX7_signAt_J31, isOfT (show (2 : Int32) ≠ 0 by decide), b2, if_true]
      | true =>
        rw [if_neg (show ¬ (b2i true = (0 : Int32)) by decide), if_pos rfl]
        obtain ⟨hjl, hv⟩ := inB_nI2 hi
        refine MO.inr (w := w) ?_ h rfl
        have h' := h.thr 0
        have hl := h'.long (n := n) hW (by omega) hjl hi2
        have hWE := hW.ent hjl
        have hM := h'.me hjl
        have hsm := txE_small hWE hi2
        obtain ⟨pl, hpl, rfl⟩ := nI_of hp
        obtain ⟨j, hj⟩ : ∃ j, j = e.toNatClampNeg := ⟨_, rfl⟩
        have hold : entI A e = A.2.1.getD j ([], [], [], false) := by unfold entI; rw [← hj]
        rw [← hj] at hl hWE hM hsm hjl hv
        rw [← hold] at hl hWE hM hsm
        rw [← hv] at hl
        rw [nI_clamp hpl]
        unfold fX7_signAt_J31
        rw [isOf0]
        simp only [b2]
        rw [if_neg (show ¬ ((1 : Int32) = 0) by decide), hl]
        simp only [bP]
        have e60 : (60 : Int32) * nI j = nI (60 * j) := nI_mul 60 j
        by_cases hc : pl < (txE (entI A e) f).length
        · rw [if_pos (nI_lt hc (by omega)), atI_lt hc]
          rcases f3 hi2 with rfl | rfl | rfl
          · have ht : txE (entI A e) 0 = (entI A e).1 := if_pos rfl
            rw [ht] at hc ⊢
            have hc60 := hWE.2.2.1
            rw [if_pos rfl, hv, e60, nI_add, inB_nI (show 60 * j + pl < mLen 6 from (by show _ < 1440; omega)) (by decide), nI_clamp (show 60 * j + pl < 2 ^ 31 by omega), hM.2.2.1 pl hc, ← hv]
            rfl
          · have ht : txE (entI A e) 1 = (entI A e).2.1 := rfl
            rw [ht] at hc ⊢
            have hc60 := hWE.2.2.2.1
            rw [if_neg (by decide), if_pos rfl, hv, e60, nI_add, inB_nI (show 60 * j + pl < mLen 8 from (by show _ < 1440; omega)) (by decide), nI_clamp (show 60 * j + pl < 2 ^ 31 by omega), hM.2.2.2.2.1 pl hc, ← hv]
            rfl
          · rw [if_neg (by decide), if_neg (by decide)]
            have hsa := hM.sa (n := n) (by omega) hWE (by omega) hc hpl
            rw [← hv] at hsa
            rw [hsa]
        · rw [if_neg (nI_nlt (by omega) hpl), atI_ge (by omega)]
end RMsec
