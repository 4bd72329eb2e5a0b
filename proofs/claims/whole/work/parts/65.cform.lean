/-! the landed program's writer: a group closes, a posting is added -/
theorem TXT.dpl0 {x : List Nat} {ps : List Pst} (h : TXT x ps) : dpl x 0 = some 0 := by
  have := h.2.2.2.1 [] 0
  rwa [List.append_nil] at this
theorem SG.sub {S : PS} {v q cap : Nat} {d e : List Nat} (h : SG S v q cap d) (he : d = e) : SG S v q cap e := he ▸ h
theorem nI_mul (a b : Nat) : nI a * nI b = nI (a * b) := (Int32.ofNat_mul a b).symm
theorem nI_sub48 (t : Nat) : nI (48 + t) - (48 : Int32) = nI t := by
  rw [← nI_add, show nI 48 = (48 : Int32) from rfl, Int32.add_comm]
  exact Int32.add_sub_cancel _ 48
theorem ITM.hd {x : Itm} (h : ITM x) : ∃ c r, itx x = c :: r ∧ (x.1 = true → c = 40) ∧ (x.1 = false → xAcc c = true) := by
  obtain ⟨h1, h2, h3, h4, h5⟩ := h
  unfold itx
  by_cases hg : x.1 = true
  · rw [if_pos hg]
    exact ⟨40, _, rfl, fun _ => rfl, fun z => by rw [hg] at z; cases z⟩
  · rw [if_neg hg]
    obtain ⟨c, r, h6, h7⟩ := (h5 (by simpa using hg)).2
    exact ⟨c, r, h6, fun z => absurd z hg, fun _ => h7⟩
theorem SG.close {n v q cap : Nat} {S : PS} {P : List Nat} {lv : List Itm} {t : Nat} (hv : SG S v q cap (P ++ 40 :: jn (lv.map itx))) (hP : ∀ c ∈ P, c < 127) (hlv : ∀ x ∈ lv, ITM x) (hne : lv ≠ []) (h1 : 1 ≤ t) (h9 : t ≤ 9) (hcap : t ≠ 1 → P.length + 1 + (jn (lv.map itx)).length + 3 ≤ cap) (hn : cap < n) :
    ∃ T, fX5_closeGroup n S v (nI t) = some T ∧ SG T v q cap (P ++ (if t = 1 then jn (lv.map itx) else itx (gIt lv t))) ∧ FR (fun z => z = v ∨ z = q) S T := by
  have hT := TXT_jn hlv
  have hd : ∀ c ∈ P ++ 40 :: jn (lv.map itx), c < 127 := fun c hc => by
    rcases List.mem_append.mp hc with h | h
    · exact hP c h
    · rcases List.mem_cons.mp h with rfl | h
      · decide
      · exact (hT.2.2.2.2 c h).2
  have hopen := SG.opn (n := n) hv hd hT.dpl0 hn
  have hlen := hv.lt
  have hle := hv.le
  have elen : (P ++ 40 :: jn (lv.map itx)).length = P.length + 1 + (jn (lv.map itx)).length := by simp; omega
  unfold fX5_closeGroup
  simp only [hopen, bP]
  by_cases ht : t = 1
  · subst ht
    rw [if_pos (show nI 1 = (1 : Int32) from rfl), if_pos rfl]
    obtain ⟨T, t1, t2, t3⟩ := SG.remove (n := n) hv hn
    refine ⟨T, ?_, t2, t3⟩
    simp only [chk, hv.ok5, t1, bP]
  · rw [if_neg (show ¬ (nI t = (1 : Int32)) from fun z => ht ((nI_eq (by omega) (show (1 : Nat) < 2 ^ 31 by decide)).mp z)), if_neg ht]
    have hcap := hcap ht
    have hlast := hv.last
    rw [if_neg (show ¬ (P ++ 40 :: jn (lv.map itx) = []) by simp)] at hlast
    obtain ⟨lc, hlc⟩ : ∃ lc, lc = (P ++ 40 :: jn (lv.map itx)).getD ((P ++ 40 :: jn (lv.map itx)).length - 1) 0 := ⟨_, rfl⟩
    rw [← hlc] at hlast
    simp only [chk, hv.ok5, hlast, bP, bnd, nI_1]
    -- the three signs behind
    have hJ : ∃ T, fX5_closeGroup_J56 n S v (nI t) = some T ∧ SG T v q cap (P ++ itx (wrp lv t)) ∧ FR (fun z => z = v ∨ z = q) S T := by
      obtain ⟨T1, a1, a2, a3⟩ := hv.add 41 (by omega)
      obtain ⟨T2, b1, b2, b3⟩ := a2.add 120 (by simp; omega)
      obtain ⟨T3, c1, c2, c3⟩ := b2.add (48 + t) (by simp; omega)
      refine ⟨T3, ?_, c2.sub (by simp [itx, wrp]), (a3.trans b3).trans c3⟩
      unfold fX5_closeGroup_J56
      have e41 : nI 41 = (41 : Int32) := rfl
      have e120 : nI 120 = (120 : Int32) := rfl
      have e48 : (48 : Int32) + nI t = nI (48 + t) := nI_add 48 t
      rw [e41] at a1
      rw [e120] at b1
      simp only [chk, hv.ok5, a1, bP, a2.ok5, b1, b2.ok5, e48, c1]
    have hdr : (P ++ 40 :: jn (lv.map itx)).drop (P.length + 1) = jn (lv.map itx) := by
      have e : P ++ 40 :: jn (lv.map itx) = (P ++ [40]) ++ jn (lv.map itx) := by simp
      rw [e]
      have e2 : P.length + 1 = (P ++ [40]).length := by simp
      rw [e2, List.drop_left]
    obtain ⟨⟨g, t1, inn, ips⟩, lv', rfl⟩ : ∃ x lv', lv = x :: lv' := by
      cases lv with
      | nil => exact absurd rfl hne
      | cons x lv' => exact ⟨x, lv', rfl⟩
    have hx := hlv _ List.mem_cons_self
    cases g with
    | false =>
      obtain ⟨c, r, h6, h7⟩ := (hx.2.2.2.2 rfl).2
      have hhd : ∃ r', jn (((false, t1, inn, ips) :: lv').map itx) = c :: r' := by
        rw [List.map_cons]
        have e : itx (false, t1, inn, ips) = c :: r := h6
        rw [e]
        cases hl : lv'.map itx with
        | nil => exact ⟨r, rfl⟩
        | cons y ys => exact ⟨_, rfl⟩
      obtain ⟨r', hr'⟩ := hhd
      have hdr := hdr.trans hr'
      have hno : hdI (c :: r') ≠ 40 := by
        have := xAcc_iff.mp h7
        intro z
        have := (nI_40 (show c < 127 by omega)).mp z
        omega
      rw [SG.isOneNo hv hdr (by omega) hno]
      simp only [if_true]
      have hg : gIt ((false, t1, inn, ips) :: lv') t = wrp ((false, t1, inn, ips) :: lv') t := by cases lv' <;> rfl
      rw [hg]
      exact hJ
    | true =>
      have e0 : itx (true, t1, inn, ips) = 40 :: (inn ++ [41, 120, 48 + t1]) := rfl
      cases lv' with
      | nil =>
        have ejn : jn ([((true, t1, inn, ips) : Itm)].map itx) = 40 :: (inn ++ [41, 120, 48 + t1]) := rfl
        rw [ejn] at hv hd hlen hle elen hdr hcap hlc
        have ev : SG S v q cap ((P ++ [40]) ++ 40 :: (inn ++ 41 :: [120, 48 + t1])) := hv.sub (by simp)
        have eone := SG.isOne (n := n) ev (fun c hc => hd c (by simpa using hc)) hx.1.dpl0 (by simp) hn
        have e2 : (P ++ [40]).length = P.length + 1 := by simp
        rw [e2] at eone
        rw [eone]
        have ht1 : t1 ≤ 9 := hx.2.2.1
        have elast : (P ++ 40 :: 40 :: (inn ++ [41, 120, 48 + t1])).getD ((P ++ 40 :: 40 :: (inn ++ [41, 120, 48 + t1])).length - 1) 0 = 48 + t1 := by
          have e : P ++ 40 :: 40 :: (inn ++ [41, 120, 48 + t1]) = (P ++ 40 :: 40 :: (inn ++ [41, 120])) ++ [48 + t1] := by simp
          rw [e, getD_snoc]
          simp
        rw [elast] at hlc
        rw [hlc, nI_sub48, nI_mul]
        simp only [List.length_cons, List.length_nil, if_true]
        rw [if_neg (show ¬ ((1 : Int32) = 0) by decide)]
        by_cases h99 : t1 * t ≤ 9
        · have hg : gIt [((true, t1, inn, ips) : Itm)] t = (true, t1 * t, inn, ips) := by simp only [gIt, if_pos h99]
          have hcm : t * t1 = t1 * t := Nat.mul_comm _ _
          rw [hg, if_neg (show ¬ ((9 : Int32) < nI (t * t1)) from nI_nlt (a := 9) (show t * t1 ≤ 9 by omega) (by decide))]
          obtain ⟨T, a1, a2, a3⟩ := SG.remove (n := n) hv hn
          have a2' : SG T v q cap ((P ++ 40 :: (inn ++ [41, 120])) ++ [48 + t1]) := a2.sub (by simp)
          obtain ⟨U, b1, b2, b3⟩ := a2'.replace (48 + t * t1)
          refine ⟨U, ?_, b2.sub (by simp [itx, hcm]), a3.trans b3⟩
          have e48 : (48 : Int32) + nI (t * t1) = nI (48 + t * t1) := nI_add 48 _
          simp only [chk, hv.ok5, a1, bP, a2.ok5, e48, b1]
        · have hg : gIt [((true, t1, inn, ips) : Itm)] t = wrp [(true, t1, inn, ips)] t := by simp only [gIt, if_neg h99]
          have hcm : t * t1 = t1 * t := Nat.mul_comm _ _
          have hb : t * t1 ≤ 81 := Nat.mul_le_mul h9 ht1
          rw [hg, if_pos (show (9 : Int32) < nI (t * t1) from nI_lt (show 9 < t * t1 by omega) (by omega))]
          exact hJ
      | cons y ys =>
        have hy := hlv y (List.mem_cons_of_mem _ List.mem_cons_self)
        obtain ⟨c, r, hc, -, -⟩ := hy.hd
        have ejn : ∃ r', jn (((true, t1, inn, ips) :: y :: ys).map itx) = 40 :: (inn ++ 41 :: (120 :: (48 + t1) :: 32 :: r')) := by
          refine ⟨jn ((y :: ys).map itx), ?_⟩
          rw [List.map_cons, jn_cons (by simp), e0]
          simp
        obtain ⟨r', ejn⟩ := ejn
        have hg : gIt ((true, t1, inn, ips) :: y :: ys) t = wrp ((true, t1, inn, ips) :: y :: ys) t := rfl
        rw [hg]
        rw [ejn] at hv hd elen hlen hle
        have ev : SG S v q cap ((P ++ [40]) ++ 40 :: (inn ++ 41 :: (120 :: (48 + t1) :: 32 :: r'))) := hv.sub (by simp)
        have eone := SG.isOne (n := n) ev (fun c hc => hd c (by simpa using hc)) hx.1.dpl0 (by simp) hn
        have e2 : (P ++ [40]).length = P.length + 1 := by simp
        rw [e2] at eone
        rw [eone, if_neg (by simp)]
        simp only [if_true]
        exact hJ
theorem SG.blank {v q cap : Nat} {S : PS} {d : List Nat} (hv : SG S v q cap d) (hd : ∀ c ∈ d, c < 127) (hcap : d.length < cap) : ∃ T, fX5_addBlankBehindItem S v = some T ∧ SG T v q cap (d ++ (if d = [] ∨ d.getD (d.length - 1) 0 = 40 then [] else [32])) ∧ FR (fun z => z = v ∨ z = q) S T := by
  have hlen := hv.lt
  unfold fX5_addBlankBehindItem
  simp only [chk, hv.ok5, hv.size, hv.last, bP]
  by_cases h0 : d = []
  · subst h0
    exact ⟨S, rfl, by simpa using hv, FR.rf⟩
  · have hp := List.length_pos_iff.mpr h0
    rw [if_neg (nI_nle hp (by omega)), if_neg h0]
    have hc : d.getD (d.length - 1) 0 < 127 := hd _ (getD_mem (by omega))
    by_cases h40 : d.getD (d.length - 1) 0 = 40
    · rw [if_pos ((nI_40 hc).mpr h40), if_pos (Or.inr h40), List.append_nil]
      exact ⟨S, rfl, hv, FR.rf⟩
    · rw [if_neg (fun z => h40 ((nI_40 hc).mp z)), if_neg (fun z => z.elim h0 h40)]
      obtain ⟨T, t1, t2, t3⟩ := hv.add 32 hcap
      have e : nI 32 = (32 : Int32) := rfl
      rw [e] at t1
      rw [t1]
      exact ⟨T, rfl, t2, t3⟩
/-- the digits of a number, without 0 ahead -/
def cdg : Bool → List Nat → List Nat
  | _, [] => []
  | da, z :: zs => if z ≠ 48 ∨ da = true ∨ zs = [] then z :: cdg true zs else cdg da zs
theorem cdg3 : ∀ a, a < 10 → ∀ b, b < 10 → ∀ c, c < 10 → cdg false [48 + a, 48 + b, 48 + c] = dgs (nmv 0 [48 + a, 48 + b, 48 + c]) := by decide +kernel
theorem cdg2 : ∀ a, a < 10 → ∀ b, b < 10 → cdg false [48 + a, 48 + b] = dgs (nmv 0 [48 + a, 48 + b]) := by decide +kernel
theorem cdg1 : ∀ a, a < 10 → cdg false [48 + a] = dgs (nmv 0 [48 + a]) := by decide +kernel
theorem dig_of {z : Nat} (h : xDig z = true) : ∃ a, a < 10 ∧ z = 48 + a := by
  have := xDig_iff.mp h
  exact ⟨z - 48, by omega, by omega⟩
theorem cdg_dgs {ds : List Nat} (h : ∀ z ∈ ds, xDig z = true) (h1 : 1 ≤ ds.length) (h3 : ds.length ≤ 3) : cdg false ds = dgs (nmv 0 ds) := by
  match ds, h1, h3 with
  | [a], _, _ =>
    obtain ⟨a, ha, rfl⟩ := dig_of (h a (by simp))
    exact cdg1 a ha
  | [a, b], _, _ =>
    obtain ⟨a, ha, rfl⟩ := dig_of (h a (by simp))
    obtain ⟨b, hb, rfl⟩ := dig_of (h b (by simp))
    exact cdg2 a ha b hb
  | [a, b, c], _, _ =>
    obtain ⟨a, ha, rfl⟩ := dig_of (h a (by simp))
    obtain ⟨b, hb, rfl⟩ := dig_of (h b (by simp))
    obtain ⟨c, hc, rfl⟩ := dig_of (h c (by simp))
    exact cdg3 a ha b hb c hc
theorem cdg_len : ∀ (ds : List Nat) (da : Bool), (cdg da ds).length ≤ ds.length := by
  intro ds
  induction ds with
  | nil => exact fun _ => Nat.le_refl _
  | cons z zs ih =>
    intro da
    simp only [cdg]
    by_cases h : z ≠ 48 ∨ da = true ∨ zs = []
    · rw [if_pos h]
      have := ih true
      simp
      omega
    · rw [if_neg h]
      have := ih da
      simp
      omega
theorem SG.digL {n u uq ucap v q cap : Nat} {D : List Nat} (h1 : ¬ (u = v ∨ u = q)) (h2 : ¬ (uq = v ∨ uq = q)) (hD : ∀ c ∈ D, c < 127) (r : List Nat) (hr : nd r) : ∀ (ds : List Nat) (da : Bool) (i k : Nat) (S : PS) (e : List Nat), D.drop i = ds ++ r → i ≤ D.length → (∀ z ∈ ds, xDig z = true) → ds.length < k → SG S u uq ucap D → SG S v q cap e → e.length + ds.length ≤ cap →
    ∃ T, fX5_addPosting_L27 n k S u v (if da = true then 1 else 0) (nI i) = some T ∧ SG T v q cap (e ++ cdg da ds) ∧ FR (fun b => b = v ∨ b = q) S T := by
  intro ds
  induction ds with
  | nil =>
    intro da i k S e hdr hi _ hk hu hv hc
    obtain ⟨k, rfl⟩ : ∃ k', k = k' + 1 := ⟨k - 1, by simp at hk; omega⟩
    have hdl := hu.lt
    refine ⟨S, ?_, by simpa [cdg] using hv, FR.rf⟩
    unfold fX5_addPosting_L27
    simp only [chk, hu.ok5, hu.size, bP]
    rw [List.nil_append] at hdr
    by_cases hl : D.length ≤ i
    · rw [if_pos (nI_le hl (by omega))]
    · rw [if_neg (nI_ge (by omega) (by omega)), hu.atD hdr (by omega)]
      simp only []
      rw [isDig_hd (drop_mem hdr hD)]
      have : hdD r = false := by
        cases r with
        | nil => rfl
        | cons c r => exact hr c r rfl
      rw [this]
      rfl
  | cons z zs ih =>
    intro da i k S e hdr hi hds hk hu hv hc
    obtain ⟨k, rfl⟩ : ∃ k', k = k' + 1 := ⟨k - 1, by simp at hk; omega⟩
    have hdl := hu.lt
    rw [List.cons_append] at hdr
    obtain ⟨hlt, hg, hdr2⟩ := drop_next hdr
    simp only [List.length_cons] at hk hc
    have hz := hds z List.mem_cons_self
    have hz2 := xDig_iff.mp hz
    unfold fX5_addPosting_L27
    simp only [chk, hu.ok5, hu.size, bP]
    rw [if_neg (nI_ge hlt (by omega)), hu.atD hdr (by omega)]
    simp only [hdI]
    rw [isDig_nI z (by omega), hz]
    simp only [if_true]
    rw [if_neg (show ¬ ((1 : Int32) = 0) by decide), nI_1, hu.atD hdr2 (by omega)]
    simp only []
    rw [isDig_hd (drop_mem hdr2 hD)]
    have hnx : hdD (zs ++ r) = decide (zs ≠ []) := by
      cases zs with
      | nil =>
        cases r with
        | nil => rfl
        | cons c r => exact hr c r rfl
      | cons y ys =>
        have := hds y (List.mem_cons_of_mem _ List.mem_cons_self)
        simpa [hdD] using this
    rw [hnx]
    have hadd : ∃ T, fX5_addPosting_J89 n (fX5_addPosting_L27 n k) S u v (nI i) = some T ∧ SG T v q cap (e ++ z :: cdg true zs) ∧ FR (fun b => b = v ∨ b = q) S T := by
      obtain ⟨T, t1, t2, t3⟩ := hv.add z (by omega)
      obtain ⟨U, u1, u2, u3⟩ := ih true (i + 1) k T (e ++ [z]) hdr2 hlt (fun y hy => hds y (List.mem_cons_of_mem _ hy)) (by omega) (hu.keep t3 h1 h2) t2 (by simp; omega)
      refine ⟨U, ?_, u2.sub (by simp), t3.trans u3⟩
      unfold fX5_addPosting_J89
      simp only [chk, hu.ok5, hu.atD hdr (by omega), bP, hdI, hv.ok5, t1, nI_1]
      simpa using u1
    have hskip : ∃ T, fX5_addPosting_L27 n k S u v (if da = true then 1 else 0) (nI (i + 1)) = some T ∧ SG T v q cap (e ++ cdg da zs) ∧ FR (fun b => b = v ∨ b = q) S T :=
      ih da (i + 1) k S e hdr2 hlt (fun y hy => hds y (List.mem_cons_of_mem _ hy)) (by omega) hu hv (by omega)
    have hJ : ∀ t0 : Int32, (t0 = 0 ↔ zs ≠ []) → ∃ T, fX5_addPosting_J67 n (fX5_addPosting_L27 n k) S u v (if da = true then 1 else 0) (nI i) t0 = some T ∧ SG T v q cap (e ++ cdg da (z :: zs)) ∧ FR (fun b => b = v ∨ b = q) S T := by
      intro t0 ht0
      unfold fX5_addPosting_J67
      simp only [chk, hu.ok5, hu.atD hdr (by omega), bP, hdI, cdg]
      by_cases hz48 : z = 48
      · rw [if_pos ((nI_48 (by omega)).mpr hz48)]
        cases da with
        | true =>
          have e9 : (if (true : Bool) = true then (1 : Int32) else 0) = 1 := rfl
          rw [e9, if_neg (show ¬ ((1 : Int32) = 0) by decide), if_pos (Or.inr (Or.inl rfl))]
          exact hadd
        | false =>
          have e9 : (if (false : Bool) = true then (1 : Int32) else 0) = 0 := rfl
          rw [e9] at hskip ⊢
          rw [if_pos (show (0 : Int32) = 0 from rfl)]
          by_cases hzs : zs = []
          · rw [if_neg (fun y => (ht0.mp y) hzs), if_pos (Or.inr (Or.inr hzs))]
            exact hadd
          · rw [if_pos (ht0.mpr hzs), if_neg (fun y => by rcases y with y | y | y; exact y hz48; cases y; exact hzs y), nI_1]
            exact hskip
      · rw [if_neg (fun y => hz48 ((nI_48 (by omega)).mp y)), if_pos (Or.inl hz48)]
        exact hadd
    by_cases hzs : zs = []
    · have e8 : decide (zs ≠ []) = false := by simp [hzs]
      have e9 : (if (false : Bool) = true then (1 : Int32) else 0) = 0 := rfl
      simp only [e8, e9, if_true]
      exact hJ 1 ⟨fun y => absurd y (by decide), fun y => absurd hzs y⟩
    · have e8 : decide (zs ≠ []) = true := by simp [hzs]
      simp only [e8, if_true, if_neg (show ¬ ((1 : Int32) = 0) by decide)]
      exact hJ 0 ⟨fun _ => hzs, fun _ => rfl⟩
theorem SG.post {n u uq ucap v q cap : Nat} {S : PS} {D e r : List Nat} {c s i : Nat} {ds : List Nat} (h1 : ¬ (u = v ∨ u = q)) (h2 : ¬ (uq = v ∨ uq = q)) (hD : ∀ c ∈ D, c < 127) (hr : nd r) (hdr : D.drop i = c :: s :: (ds ++ r)) (hds : ∀ z ∈ ds, xDig z = true) (hl1 : 1 ≤ ds.length) (hl3 : ds.length ≤ 3) (hn : 3 < n) (hu : SG S u uq ucap D) (hv : SG S v q cap e) (hc : e.length + 2 + ds.length ≤ cap) :
    ∃ T, fX5_addPosting n S u (nI i) v = some T ∧ SG T v q cap (e ++ itx (pIt c s ds)) ∧ FR (fun b => b = v ∨ b = q) S T := by
  obtain ⟨hlt, -, hdr2⟩ := drop_next hdr
  obtain ⟨hlt2, -, hdr3⟩ := drop_next hdr2
  have hdl := hu.lt
  obtain ⟨T1, a1, a2, a3⟩ := hv.add c (by omega)
  have hu1 := hu.keep a3 h1 h2
  obtain ⟨T2, b1, b2, b3⟩ := a2.add s (by simp; omega)
  have hu2 := hu1.keep b3 h1 h2
  obtain ⟨T3, c1, c2, c3⟩ := SG.digL (n := n) h1 h2 hD r hr ds false (i + 1 + 1) n T2 ((e ++ [c]) ++ [s]) hdr3 (by omega) hds (by omega) hu2 b2 (by simp; omega)
  refine ⟨T3, ?_, c2.sub (by simp [itx, pIt, cdg_dgs hds hl1 hl3]), (a3.trans b3).trans c3⟩
  unfold fX5_addPosting
  have e2 : nI i + (2 : Int32) = nI (i + 1 + 1) := nI_add i 2
  simp only [chk, hu.ok5, hu.atD hdr (by omega), bP, hdI, hv.ok5, a1, hu1.ok5, nI_1, hu1.atD hdr2 (by omega), a2.ok5, b1, bnd, e2]
  have e3 : (if (false : Bool) = true then (1 : Int32) else 0) = 0 := rfl
  rw [e3] at c1
  rw [c1]
  rfl
