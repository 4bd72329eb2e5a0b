/-! levels, piece by piece -/
theorem hdI_cons {c : Nat} {r : List Nat} : hdI (c :: r) = nI c := rfl
def up (d : Nat) (L : List (List Itm)) : List (List Itm) := match L with
  | lv :: l2 :: ls => (if d = 1 then l2 ++ lv else l2 ++ [gIt lv d]) :: ls
  | _ => L
theorem up_eq {d : Nat} {lv l2 : List Itm} {ls : List (List Itm)} : up d (lv :: l2 :: ls) = (if d = 1 then l2 ++ lv else l2 ++ [gIt lv d]) :: ls := rfl
def fTk (t : Tok) (L : List (List Itm)) : List (List Itm) :=
  if t.1 = 1 then (match L with
    | lv :: ls => (lv ++ [pIt (t.2.getD 0 0) (t.2.getD 1 0) (t.2.drop 2)]) :: ls
    | [] => [])
  else if t.1 = 2 then [] :: L
  else if t.1 = 3 then up 1 L
  else if t.1 = 4 then up (t.2.getD 2 0 - 48) L
  else L
def fRun (ts : List Tok) (L : List (List Itm)) : List (List Itm) := ts.foldl (fun L t => fTk t L) L
def alP : List (List Itm) → List Pst
  | [] => []
  | lv :: ls => alP ls ++ lv.flatMap ipo
def pOK (m : Nat) (p : Pst) : Prop := p.1 < 8 ∧ p.2.2.1 < 1000 ∧ 1 ≤ p.2.2.2 ∧ p.2.2.2 * 9 ^ m ≤ 59049
def TB : List (List Itm) → Prop
  | [] => True
  | lv :: ls => (∀ x ∈ lv, ITM x ∧ ∀ p ∈ ipo x, pOK ls.length p) ∧ TB ls
def LVI (L : List (List Itm)) (op h i : Nat) : Prop := TB L ∧ L.length = op + 1 ∧ op ≤ 5 ∧ (∃ lv ls, L = lv :: ls ∧ (lv = [] ↔ h = 0)) ∧ (rnd L).length + (if h = 2 then 1 else 0) ≤ i ∧ 4 * (alP L).length ≤ i + (if h = 1 then 1 else 0)
theorem pOK_le {m : Nat} {p : Pst} (h : pOK (m + 1) p) : pOK m p := ⟨h.1, h.2.1, h.2.2.1, by
  have := h.2.2.2
  rw [Nat.pow_succ, ← Nat.mul_assoc] at this
  omega⟩
theorem pOK_mul {m t : Nat} {p : Pst} (h : pOK (m + 1) p) (h1 : 1 ≤ t) (h9 : t ≤ 9) : pOK m (mulP t p) := ⟨h.1, h.2.1, Nat.mul_pos h.2.2.1 h1, by
  have h2 := h.2.2.2
  rw [Nat.pow_succ] at h2
  show p.2.2.2 * t * 9 ^ m ≤ 59049
  refine Nat.le_trans ?_ h2
  rw [Nat.mul_assoc]
  refine Nat.mul_le_mul_left _ ?_
  rw [Nat.mul_comm]
  exact Nat.mul_le_mul_left _ h9⟩
theorem LVI_nil : LVI [[]] 0 0 0 := ⟨⟨(fun _ h => nomatch h), trivial⟩, rfl, by decide, ⟨[], [], rfl, ⟨fun _ => rfl, fun _ => rfl⟩⟩, by decide, by decide⟩
theorem LVI_blank {L : List (List Itm)} {op h i : Nat} (H : LVI L op h i) : LVI L op (if h = 0 then 0 else 2) (i + 1) := by
  obtain ⟨a1, a2, a3, ⟨lv, ls, rfl, a4⟩, a5, a6⟩ := H
  refine ⟨a1, a2, a3, ⟨lv, ls, rfl, ?_⟩, ?_, ?_⟩
  · by_cases h0 : h = 0
    · simp [h0, a4]
    · simp [h0, a4]
  · by_cases h0 : h = 0
    · subst h0; simp at a5 ⊢; omega
    · rw [if_neg h0, if_pos rfl]
      by_cases h2 : h = 2
      · rw [if_pos h2] at a5; omega
      · rw [if_neg h2] at a5; omega
  · by_cases h1 : h = 1
    · rw [if_pos h1] at a6; omega
    · rw [if_neg h1] at a6; omega
theorem pre_len {lv : List Itm} {ls : List (List Itm)} : (pre (lv :: ls)).length = (rnd (lv :: ls)).length + (if lv = [] then 0 else 1) := by
  unfold pre
  rw [List.length_append]
  by_cases h : lv = []
  · simp [h]
  · simp [h]
theorem rnd_snoc {lv : List Itm} {ls : List (List Itm)} {x : Itm} : rnd ((lv ++ [x]) :: ls) = pre (lv :: ls) ++ itx x := by
  rw [← pre_snoc lv ls [x] (by simp)]
  rfl
theorem rnd_open {lv : List Itm} {ls : List (List Itm)} : rnd ([] :: lv :: ls) = pre (lv :: ls) ++ [40] := by
  rw [rnd_cons]
  rfl
theorem LVI_pre {lv : List Itm} {ls : List (List Itm)} {op h i : Nat} (H : LVI (lv :: ls) op h i) (h1 : h ≠ 1) (h2 : h ≤ 2) : (pre (lv :: ls)).length ≤ i := by
  obtain ⟨a1, a2, a3, ⟨lv', ls', e, a4⟩, a5, a6⟩ := H
  cases e
  rw [pre_len]
  by_cases h0 : h = 0
  · rw [if_pos (a4.mpr h0)]; omega
  · have : h = 2 := by omega
    rw [if_pos this] at a5
    rw [if_neg (fun z => h0 (a4.mp z))]
    exact a5
theorem itx_pIt_len {c s : Nat} {ds : List Nat} (hd : ∀ z ∈ ds, xDig z = true) (hl1 : 1 ≤ ds.length) (hl3 : ds.length ≤ 3) : (itx (pIt c s ds)).length ≤ 2 + ds.length := by
  have := cdg_len ds false
  rw [cdg_dgs hd hl1 hl3] at this
  show (c :: s :: dgs (nmv 0 ds)).length ≤ _
  simp only [List.length_cons]
  omega
theorem LVI_post {lv : List Itm} {ls : List (List Itm)} {op h i c s : Nat} {ds : List Nat} (H : LVI (lv :: ls) op h i) (h1 : h ≠ 1) (h2 : h ≤ 2) (hc : xAcc c = true) (hs : s = 43 ∨ s = 45) (hd : ∀ z ∈ ds, xDig z = true) (hl1 : 1 ≤ ds.length) (hl3 : ds.length ≤ 3) : LVI ((lv ++ [pIt c s ds]) :: ls) op 1 (i + (2 + ds.length)) := by
  have hp := LVI_pre H h1 h2
  obtain ⟨⟨a0, a1⟩, a2, a3, ⟨lv', ls', e, a4⟩, a5, a6⟩ := H
  cases e
  have hc' := xAcc_iff.mp hc
  refine ⟨⟨fun x hx => ?_, a1⟩, a2, a3, ⟨_, ls, rfl, ⟨fun z => by simp at z, fun z => by cases z⟩⟩, ?_, ?_⟩
  · rcases List.mem_append.mp hx with hx | hx
    · exact a0 x hx
    · rw [List.mem_singleton.mp hx]
      refine ⟨ITM_pIt hc hs hd hl3, fun p hp => ?_⟩
      have hp2 : p = (c - 97, decide (s = 45), nmv 0 ds, 1) := by simpa [ipo, pIt, mulP] using hp
      subst hp2
      refine ⟨by show c - 97 < 8; omega, nmv_lt3 hd hl3, Nat.le_refl _, ?_⟩
      have hle : ls.length ≤ 5 := by simp at a2; omega
      show 1 * 9 ^ ls.length ≤ 59049
      rw [Nat.one_mul]
      exact Nat.pow_le_pow_right (by decide) hle
  · rw [rnd_snoc, List.length_append, if_neg (by decide)]
    have := itx_pIt_len (c := c) (s := s) hd hl1 hl3
    omega
  · have e : alP ((lv ++ [pIt c s ds]) :: ls) = alP (lv :: ls) ++ [(c - 97, decide (s = 45), nmv 0 ds, 1)] := by
      simp [alP, ipo, pIt, mulP]
    rw [e, List.length_append, if_pos rfl]
    rw [if_neg h1] at a6
    simp only [List.length_cons, List.length_nil]
    omega
theorem LVI_open {lv : List Itm} {ls : List (List Itm)} {op h i : Nat} (H : LVI (lv :: ls) op h i) (h1 : h ≠ 1) (h2 : h ≤ 2) (ho : op < 5) : LVI ([] :: lv :: ls) (op + 1) 0 (i + 1) := by
  have hp := LVI_pre H h1 h2
  obtain ⟨a1, a2, a3, ⟨lv', ls', e, a4⟩, a5, a6⟩ := H
  refine ⟨⟨(fun _ h => nomatch h), a1⟩, by simp at a2 ⊢; omega, by omega, ⟨[], _, rfl, ⟨fun _ => rfl, fun _ => rfl⟩⟩, ?_, ?_⟩
  · rw [rnd_open, List.length_append, if_neg (by decide)]
    simp
    omega
  · rw [if_neg h1] at a6
    have e : alP ([] :: lv :: ls) = alP (lv :: ls) := by simp [alP]
    rw [e, if_neg (by decide)]
    omega
theorem itx_gIt_len {lv : List Itm} {t : Nat} : (itx (gIt lv t)).length ≤ (jn (lv.map itx)).length + 4 := by
  rcases gIt_cases lv t with ⟨t1, inn, ips, rfl, h2, h3⟩ | ⟨-, h3⟩
  · rw [h3]
    show (40 :: (inn ++ _)).length ≤ (40 :: (inn ++ _)).length + 4
    simp
  · rw [h3]
    show (40 :: (jn (lv.map itx) ++ _)).length ≤ _
    simp
theorem LVI_close {lv l2 : List Itm} {ls : List (List Itm)} {op h i d m : Nat} (H : LVI (lv :: l2 :: ls) op h i) (h0 : h ≠ 0) (hd1 : 1 ≤ d) (hd9 : d ≤ 9) (hm : m = 1 ∧ d = 1 ∨ m = 3) : LVI (up d (lv :: l2 :: ls)) (op - 1) 1 (i + m) := by
  obtain ⟨⟨a0, a1, a1'⟩, a2, a3, ⟨lv', ls', e, a4⟩, a5, a6⟩ := H
  cases e
  have hne : lv ≠ [] := fun z => h0 (a4.mp z)
  have hmx : 1 ≤ m := by omega
  refine ⟨?_, by simp [up] at a2 ⊢; omega, by omega, ⟨_, ls, rfl, ⟨fun z => ?_, fun z => by cases z⟩⟩, ?_, ?_⟩
  · refine ⟨fun x hx => ?_, a1'⟩
    by_cases hd : d = 1
    · rw [if_pos hd] at hx
      rcases List.mem_append.mp hx with hx | hx
      · exact a1 x hx
      · exact ⟨(a0 x hx).1, fun p hp => pOK_le ((a0 x hx).2 p hp)⟩
    · rw [if_neg hd] at hx
      rcases List.mem_append.mp hx with hx | hx
      · exact a1 x hx
      · rw [List.mem_singleton.mp hx]
        refine ⟨ITM_gIt (fun y hy => (a0 y hy).1) hne hd1 hd9, fun p hp => ?_⟩
        rw [ipo_gIt] at hp
        obtain ⟨p', hp', rfl⟩ := List.mem_map.mp hp
        obtain ⟨y, hy, hyp⟩ := List.mem_flatMap.mp hp'
        exact pOK_mul ((a0 y hy).2 p' hyp) hd1 hd9
  · exfalso
    by_cases hd : d = 1
    · rw [if_pos hd] at z
      exact hne (List.append_eq_nil_iff.mp z).2
    · rw [if_neg hd] at z
      simp at z
  · rw [if_neg (by decide)]
    rw [rnd_cons, List.length_append] at a5
    simp only [List.length_cons] at a5
    rw [up_eq]
    by_cases hd : d = 1
    · rw [if_pos hd]
      rw [← pre_snoc l2 ls lv hne, List.length_append]
      omega
    · rw [if_neg hd]
      rw [rnd_snoc, List.length_append]
      have := itx_gIt_len (lv := lv) (t := d)
      omega
  · have e : (alP (up d (lv :: l2 :: ls))).length = (alP (lv :: l2 :: ls)).length := by
      rw [up_eq]
      by_cases hd : d = 1
      · rw [if_pos hd]
        simp [alP]
      · rw [if_neg hd]
        simp only [alP, List.flatMap_append, List.flatMap_cons, List.flatMap_nil, List.append_nil, ipo_gIt, List.length_append, List.length_map]
        omega
    rw [e, if_pos rfl]
    by_cases h1 : h = 1
    · rw [if_pos h1] at a6; omega
    · rw [if_neg h1] at a6; omega
/-- what a piece begins with -/
theorem tkx_hd {ts : List Tok} {op h : Nat} (H : GV ts op h) : nd (tkx ts) ∧ hdI (tkx ts) ≠ 120 := by
  cases ts with
  | nil => exact ⟨nd_nil, by decide⟩
  | cons t ts =>
    rcases H with ⟨rfl, -⟩ | ⟨c, s, ds, rfl, hc, -⟩ | ⟨rfl, -⟩ | ⟨d, ⟨rfl, -⟩ | ⟨rfl, -⟩, -⟩
    · exact ⟨nd_cons rfl, (by decide : (nI 32 : Int32) ≠ 120)⟩
    · have hc' := xAcc_iff.mp hc
      refine ⟨nd_cons ?_, fun z => ?_⟩
      · simp only [xDig, Bool.and_eq_false_iff, decide_eq_false_iff_not]
        right; omega
      · have : c = 120 := (nI_eqc (show c < 127 by omega) 120 (by decide)).mp z
        omega
    · exact ⟨nd_cons rfl, (by decide : (nI 40 : Int32) ≠ 120)⟩
    · exact ⟨nd_cons rfl, (by decide : (nI 41 : Int32) ≠ 120)⟩
    · exact ⟨nd_cons rfl, (by decide : (nI 41 : Int32) ≠ 120)⟩
def skp (c : Nat) : Prop := xAcc c = false ∧ c ≠ 40 ∧ c ≠ 41 ∧ c < 127
theorem skp_dig {c : Nat} (h : xDig c = true) : skp c := by
  have := xDig_iff.mp h
  refine ⟨?_, by omega, by omega, by omega⟩
  simp only [xAcc, Bool.and_eq_false_iff, decide_eq_false_iff_not]
  left; omega
theorem skp_sgn {s : Nat} (h : s = 43 ∨ s = 45) : skp s := by rcases h with rfl | rfl <;> exact ⟨rfl, by decide, by decide, by decide⟩
theorem SG.skipL {n u uq ucap v : Nat} {D r : List Nat} {S : PS} (hu : SG S u uq ucap D) : ∀ (y : List Nat) (i k : Nat), D.drop i = y ++ r → (∀ c ∈ y, skp c) → i ≤ D.length → fX5_writeForm_L6 n (k + y.length) S u v (nI i) = fX5_writeForm_L6 n k S u v (nI (i + y.length)) := by
  intro y
  induction y with
  | nil => exact fun i k _ _ _ => rfl
  | cons c y ih =>
    intro i k hdr hy hi
    rw [List.cons_append] at hdr
    obtain ⟨hlt, hg, hdr2⟩ := drop_next hdr
    have hdl := hu.lt
    obtain ⟨s1, s2, s3, s4⟩ := hy c List.mem_cons_self
    have hrec := ih (i + 1) k hdr2 (fun z hz => hy z (List.mem_cons_of_mem _ hz)) hlt
    simp only [List.length_cons]
    have e1 : k + (y.length + 1) = (k + y.length) + 1 := by omega
    have e2 : i + (y.length + 1) = i + 1 + y.length := by omega
    rw [e1, e2, ← hrec]
    conv => lhs; unfold fX5_writeForm_L6
    simp only [chk, hu.ok5, hu.size, bP]
    rw [if_neg (nI_ge hlt (by omega)), hu.atD hdr (by omega)]
    rw [hdI_cons]
    simp only []
    rw [isAcc_nI c s4, s1]
    simp only [Bool.false_eq_true, if_false, if_true]
    rw [if_neg (fun z => s2 ((nI_40 s4).mp z)), if_neg (fun z => s3 ((nI_41 s4).mp z)), nI_1]
theorem last_rnd {lv : List Itm} {ls : List (List Itm)} (h : ∀ x ∈ lv, ITM x) (hls : ∀ l2 ls', ls = l2 :: ls' → True) : (rnd (lv :: ls) = [] ∨ (rnd (lv :: ls)).getD ((rnd (lv :: ls)).length - 1) 0 = 40) ↔ lv = [] := by
  have hlast : ∀ x : Itm, ITM x → ∃ a z, itx x = a ++ [z] ∧ z ≠ 40 := by
    intro x hx
    obtain ⟨h1, h2, h3, h4, h5⟩ := hx
    by_cases hg : x.1 = true
    · exact ⟨40 :: (x.2.2.1 ++ [41, 120]), 48 + x.2.1, by simp [itx, hg], by omega⟩
    · have hd := h1.2.2.2.1 [] 0
      obtain ⟨c, r, hcr, hc⟩ := (h5 (by simpa using hg)).2
      have hi : itx x = c :: r := by simp [itx, hg, hcr]
      rw [hi]
      rcases List.eq_nil_or_concat r with rfl | ⟨r', z, rfl⟩
      · exact ⟨[], c, rfl, by have := xAcc_iff.mp hc; omega⟩
      · refine ⟨c :: r', z, by simp, fun hz => ?_⟩
        subst hz
        have h6 := h1.2.2.2.1 [] 0
        rw [hcr] at h6
        have h7 := rsc_of (c :: r'.concat 40) 0 0 (by simpa [dpl] using h6) 0
        have key : ∀ (a : List Nat), rsc (a ++ [40]) 0 = none := by
          intro a
          induction a with
          | nil => rfl
          | cons b a ih => simp only [List.cons_append, rsc, ih]
        have h8 := key (c :: r')
        rw [List.concat_eq_append] at h7
        rw [show c :: (r' ++ [40]) = (c :: r') ++ [40] from rfl, h8] at h7
        cases h7
  by_cases hl : lv = []
  · subst hl
    refine ⟨fun _ => rfl, fun _ => ?_⟩
    cases ls with
    | nil => exact Or.inl rfl
    | cons l2 ls =>
      rw [rnd_open]
      refine Or.inr ?_
      rw [getD_snoc]
      simp
  · refine ⟨fun z => ?_, fun z => absurd z hl⟩
    exfalso
    rcases List.eq_nil_or_concat lv with h0 | ⟨lv', x, hx0⟩
    · exact hl h0
    · rw [List.concat_eq_append] at hx0
      subst hx0
      obtain ⟨a, y, hy, hne⟩ := hlast x (h x (by simp))
      rw [rnd_snoc, hy, ← List.append_assoc] at z
      rcases z with z | z
      · simp at z
      · rw [getD_snoc] at z
        simp at z
        exact hne z
theorem TB_lt : ∀ {L : List (List Itm)}, TB L → ∀ c ∈ rnd L, 32 ≤ c ∧ c < 127 := by
  intro L
  induction L with
  | nil => exact fun _ c hc => nomatch hc
  | cons lv ls ih =>
    intro h c hc
    have hj := (TXT_jn (fun x hx => (h.1 x hx).1)).2.2.2.2
    cases ls with
    | nil => exact hj c hc
    | cons l2 ls =>
      rw [rnd_cons] at hc
      rcases List.mem_append.mp hc with hc | hc
      · unfold pre at hc
        rcases List.mem_append.mp hc with hc | hc
        · exact ih h.2 c hc
        · by_cases h0 : l2 = []
          · simp [h0] at hc
          · simp [h0] at hc
            subst hc; decide
      · rcases List.mem_cons.mp hc with rfl | hc
        · decide
        · exact hj c hc
/-- a blank, where one is due -/
theorem SG.pre {v q cap : Nat} {S : PS} {lv : List Itm} {ls : List (List Itm)} (hv : SG S v q cap (rnd (lv :: ls))) (hT : TB (lv :: ls)) (hcap : (rnd (lv :: ls)).length < cap) : ∃ T, fX5_addBlankBehindItem S v = some T ∧ SG T v q cap (pre (lv :: ls)) ∧ FR (fun z => z = v ∨ z = q) S T := by
  obtain ⟨T, t1, t2, t3⟩ := hv.blank (fun c hc => (TB_lt hT c hc).2) hcap
  refine ⟨T, t1, t2.sub ?_, t3⟩
  have h := last_rnd (lv := lv) (ls := ls) (fun x hx => (hT.1 x hx).1) (fun _ _ _ => trivial)
  show _ = rnd (lv :: ls) ++ _
  by_cases h0 : lv = []
  · rw [if_pos (h.mpr h0), if_pos h0]
  · rw [if_neg (fun z => h0 (h.mp z)), if_neg h0]
theorem wfL {n u uq ucap v q : Nat} {D : List Nat} (h1 : ¬ (u = v ∨ u = q)) (h2 : ¬ (uq = v ∨ uq = q)) (hD : ∀ c ∈ D, c < 127) (hD60 : D.length ≤ 60) (hn : 60 < n) : ∀ (ts : List Tok) (i op h k : Nat) (S : PS) (L : List (List Itm)), D.drop i = tkx ts → GV ts op h → h ≤ 2 → LVI L op h i → i ≤ D.length → (tkx ts).length < k → SG S u uq ucap D → SG S v q 60 (rnd L) →
    ∃ T, fX5_writeForm_L6 n k S u v (nI i) = some T ∧ SG T v q 60 (rnd (fRun ts L)) ∧ FR (fun z => z = v ∨ z = q) S T ∧ ∃ h', h' ≠ 0 ∧ LVI (fRun ts L) 0 h' D.length := by
  intro ts
  induction ts with
  | nil =>
    intro i op h k S L hdr hG hh hI hi hk hu hv
    obtain ⟨k, rfl⟩ : ∃ k', k = k' + 1 := ⟨k - 1, by simp [tkx] at hk; omega⟩
    have hie : i = D.length := drop_nil hdr hi
    have hdl := hu.lt
    obtain ⟨ho, h1⟩ := hG
    refine ⟨S, ?_, hv, FR.rf, h, by omega, by rw [← hie]; rw [ho] at hI; exact hI⟩
    unfold fX5_writeForm_L6
    simp only [chk, hu.ok5, hu.size, bP]
    rw [if_pos (by rw [hie]; exact Int32.le_refl _)]
  | cons t ts ih =>
    intro i op h k S L hdr hG hh hI hi hk hu hv
    have hdl := hu.lt
    have hlen := drop_le hdr hi
    obtain ⟨lv, ls, rfl, htop⟩ := hI.2.2.2.1
    have ex : tkx (t :: ts) = t.2 ++ tkx ts := rfl
    rw [ex] at hdr hk hlen
    rw [List.length_append] at hk hlen
    have hrun : fRun (t :: ts) (lv :: ls) = fRun ts (fTk t (lv :: ls)) := rfl
    rw [hrun]
    rcases hG with ⟨rfl, hG⟩ | ⟨c, s, ds, rfl, hc, hs, hds, hl1, hl3, hh1, hG⟩ | ⟨rfl, hh1, hop, hG⟩ | ⟨d, hd, hh0, hop, hG⟩
    · -- a blank
      obtain ⟨k, rfl⟩ : ∃ k', k = k' + 1 := ⟨k - 1, by omega⟩
      have hsk := SG.skipL (n := n) (v := v) hu [32] i k hdr (fun c hc => by rw [List.mem_singleton.mp hc]; exact ⟨rfl, by decide, by decide, by decide⟩) hi
      obtain ⟨hlt, -, hdr2⟩ := drop_next hdr
      obtain ⟨T, t1, t2, t3, t4⟩ := ih (i + 1) op _ k S _ hdr2 hG (by by_cases h0 : h = 0 <;> simp [h0]) (LVI_blank hI) hlt (by simp at hk; omega) hu hv
      exact ⟨T, by rw [← t1]; exact hsk, t2, t3, t4⟩
    · -- a posting
      simp only [List.length_cons] at hk hlen
      obtain ⟨hlt, -, hdr2⟩ := drop_next hdr
      have hI2 := LVI_post hI hh1 hh hc hs hds hl1 hl3
      have hpl := LVI_pre hI hh1 hh
      have hrl : (rnd (lv :: ls)).length ≤ i := Nat.le_trans (by rw [pre_len]; omega) hpl
      obtain ⟨k, rfl⟩ : ∃ k', k = (k' + (s :: ds).length) + 1 := ⟨k - 1 - (s :: ds).length, by simp at hk ⊢; omega⟩
      obtain ⟨T1, a1, a2, a3⟩ := hv.pre hI.1 (by omega)
      have hu1 := hu.keep a3 h1 h2
      have hnd := (tkx_hd hG).1
      have hdr' : D.drop i = c :: s :: (ds ++ tkx ts) := by rw [hdr]; rfl
      obtain ⟨T2, b1, b2, b3⟩ := SG.post (n := n) h1 h2 hD hnd hdr' hds hl1 hl3 (by omega) hu1 a2 (by omega)
      have hu2 := hu1.keep b3 h1 h2
      have hsk := SG.skipL (n := n) (v := v) (r := tkx ts) hu2 (s :: ds) (i + 1) k hdr2 (fun z hz => by
        rcases List.mem_cons.mp hz with rfl | hz
        · exact skp_sgn hs
        · exact skp_dig (hds z hz)) hlt
      have e3 : i + 1 + (s :: ds).length = i + (2 + ds.length) := by simp; omega
      have hdr3 : D.drop (i + (2 + ds.length)) = tkx ts := by
        have e4 : (c :: s :: ds).length = 2 + ds.length := by simp; omega
        rw [drop_add hdr, ← e4, List.drop_left]
      rw [← rnd_snoc] at b2
      obtain ⟨T, t1, t2, t3, t4⟩ := ih (i + (2 + ds.length)) op 1 k T2 _ hdr3 hG (by decide) hI2 (by omega) (by simp at hk; omega) hu2 b2
      refine ⟨T, ?_, t2, (a3.trans b3).trans t3, t4⟩
      have hcc := xAcc_iff.mp hc
      unfold fX5_writeForm_L6
      simp only [chk, hu.ok5, hu.size, bP]
      rw [if_neg (nI_ge hlt (by omega)), hu.atD hdr' (by omega)]
      rw [hdI_cons]
      simp only []
      rw [isAcc_nI c (by omega), hc]
      simp only [if_true]
      rw [if_neg (show ¬ ((1 : Int32) = 0) by decide)]
      simp only [a1, b1, nI_1]
      rw [hsk, e3]
      exact t1
    · -- a group opens
      obtain ⟨k, rfl⟩ : ∃ k', k = k' + 1 := ⟨k - 1, by omega⟩
      have hdr' : D.drop i = 40 :: tkx ts := hdr
      obtain ⟨hlt, -, hdr2⟩ := drop_next hdr'
      have hI2 := LVI_open hI hh1 hh hop
      have hpl := LVI_pre hI hh1 hh
      have hrl : (rnd (lv :: ls)).length ≤ i := Nat.le_trans (by rw [pre_len]; omega) hpl
      obtain ⟨T1, a1, a2, a3⟩ := hv.pre hI.1 (by omega)
      obtain ⟨T2, b1, b2, b3⟩ := a2.add 40 (by omega)
      have hu2 := (hu.keep a3 h1 h2).keep b3 h1 h2
      rw [← rnd_open] at b2
      obtain ⟨T, t1, t2, t3, t4⟩ := ih (i + 1) (op + 1) 0 k T2 _ hdr2 hG (by decide) hI2 hlt (by simp at hk; omega) hu2 b2
      refine ⟨T, ?_, t2, (a3.trans b3).trans t3, t4⟩
      unfold fX5_writeForm_L6
      simp only [chk, hu.ok5, hu.size, bP]
      rw [if_neg (nI_ge hlt (by omega)), hu.atD hdr' (by omega)]
      rw [hdI_cons]
      simp only []
      rw [isAcc_nI 40 (by decide), show xAcc 40 = false from rfl]
      simp only [Bool.false_eq_true, if_false, if_true]
      rw [if_pos (show nI 40 = (40 : Int32) from rfl)]
      simp only [a1, a2.ok5, b1, nI_1]
      exact t1
    · -- a group closes
      obtain ⟨l2, ls, rfl⟩ : ∃ l2 ls', ls = l2 :: ls' := by
        cases ls with
        | nil =>
          have := hI.2.1
          simp at this
          omega
        | cons l2 ls => exact ⟨l2, ls, rfl⟩
      have hne : lv ≠ [] := fun z => hh0 (htop.mp z)
      have hTB := hI.1
      have hrl : (rnd (lv :: l2 :: ls)).length ≤ i := Nat.le_trans (Nat.le_add_right _ _) hI.2.2.2.2.1
      have hv' : SG S v q 60 (Jvm.Pilot.CPostlintLaw_law_r3329_88fbce.pre (l2 :: ls) ++ 40 :: jn (lv.map itx)) := hv.sub rnd_cons
      have hPl : ∀ c ∈ Jvm.Pilot.CPostlintLaw_law_r3329_88fbce.pre (l2 :: ls), c < 127 := fun c hc => (TB_lt hTB c (by rw [rnd_cons]; exact List.mem_append_left _ hc)).2
      have hrl2 := hrl
      rw [rnd_cons, List.length_append] at hrl2
      simp only [List.length_cons] at hrl2
      have hd19 : 1 ≤ d ∧ d ≤ 9 := by rcases hd with ⟨-, rfl⟩ | ⟨-, h3, h4⟩ <;> omega
      have hcl := SG.close (n := n) (t := d) hv' hPl (fun x hx => (hTB.1 x hx).1) hne hd19.1 hd19.2 (fun hd1 => by
        rcases hd with ⟨-, hd⟩ | ⟨rfl, -⟩
        · exact absurd hd hd1
        · simp at hlen; omega) (by omega)
      obtain ⟨T1, a1, a2, a3⟩ := hcl
      have hu1 := hu.keep a3 h1 h2
      have hbuf : Jvm.Pilot.CPostlintLaw_law_r3329_88fbce.pre (l2 :: ls) ++ (if d = 1 then jn (lv.map itx) else itx (gIt lv d)) = rnd (up d (lv :: l2 :: ls)) := by
        rw [up_eq]
        by_cases h1 : d = 1
        · rw [if_pos h1, if_pos h1]
          exact pre_snoc l2 ls lv hne
        · rw [if_neg h1, if_neg h1]
          exact rnd_snoc.symm
      have a2 := a2.sub hbuf
      rcases hd with ⟨rfl, rfl⟩ | ⟨rfl, hd1, hd9⟩
      · obtain ⟨k, rfl⟩ : ∃ k', k = k' + 1 := ⟨k - 1, by omega⟩
        have hdr' : D.drop i = 41 :: tkx ts := hdr
        obtain ⟨hlt, -, hdr2⟩ := drop_next hdr'
        have hI2 := LVI_close (m := 1) hI hh0 (by decide) (by decide) (Or.inl ⟨rfl, rfl⟩)
        obtain ⟨T, t1, t2, t3, t4⟩ := ih (i + 1) (op - 1) 1 k T1 _ hdr2 hG (by decide) hI2 hlt (by simp at hk; omega) hu1 a2
        refine ⟨T, ?_, t2, a3.trans t3, t4⟩
        unfold fX5_writeForm_L6
        simp only [chk, hu.ok5, hu.size, bP]
        rw [if_neg (nI_ge hlt (by omega)), hu.atD hdr' (by omega)]
        rw [hdI_cons]
        simp only []
        rw [isAcc_nI 41 (by decide), show xAcc 41 = false from rfl]
        simp only [Bool.false_eq_true, if_false, if_true]
        rw [if_neg (show ¬ (nI 41 = (40 : Int32)) by decide), if_pos (show nI 41 = (41 : Int32) from rfl)]
        have htb : fX5_timesBehind S u (nI i) = some (nI 1) := by
          unfold fX5_timesBehind
          simp only [chk, hu.ok5, nI_1, hu.atD hdr2 (by omega), bP]
          rw [if_neg (tkx_hd hG).2]
          rfl
        simp only [htb, a1, nI_1]
        exact t1
      · obtain ⟨k, rfl⟩ : ∃ k', k = (k' + [120, 48 + d].length) + 1 := ⟨k - 3, by simp at hk ⊢; omega⟩
        have hdr' : D.drop i = 41 :: 120 :: (48 + d) :: tkx ts := hdr
        obtain ⟨hlt, -, hdr2⟩ := drop_next hdr'
        obtain ⟨hlt2, -, hdr3⟩ := drop_next hdr2
        obtain ⟨hlt3, -, hdr4⟩ := drop_next hdr3
        have hI2 := LVI_close (m := 3) hI hh0 hd1 hd9 (Or.inr rfl)
        have hft : fTk (4, [41, 120, 48 + d]) (lv :: l2 :: ls) = up d (lv :: l2 :: ls) := by
          simp [fTk]
        rw [hft]
        obtain ⟨T, t1, t2, t3, t4⟩ := ih (i + 3) (op - 1) 1 k T1 _ hdr4 hG (by decide) hI2 hlt3 (by simp at hk; omega) hu1 a2
        refine ⟨T, ?_, t2, a3.trans t3, t4⟩
        have hsk := SG.skipL (n := n) (v := v) (r := tkx ts) hu1 [120, 48 + d] (i + 1) k hdr2 (fun z hz => by
          rcases List.mem_cons.mp hz with rfl | hz
          · exact ⟨rfl, by decide, by decide, by decide⟩
          · rw [List.mem_singleton.mp hz]
            exact skp_dig (xDig_iff.mpr ⟨by omega, by omega⟩)) hlt
        unfold fX5_writeForm_L6
        simp only [chk, hu.ok5, hu.size, bP]
        rw [if_neg (nI_ge hlt (by omega)), hu.atD hdr' (by omega)]
        rw [hdI_cons]
        simp only []
        rw [isAcc_nI 41 (by decide), show xAcc 41 = false from rfl]
        simp only [Bool.false_eq_true, if_false, if_true]
        rw [if_neg (show ¬ (nI 41 = (40 : Int32)) by decide), if_pos (show nI 41 = (41 : Int32) from rfl)]
        have htb : fX5_timesBehind S u (nI i) = some (nI d) := by
          unfold fX5_timesBehind
          have e2 : nI i + (2 : Int32) = nI (i + 1 + 1) := nI_add i 2
          simp only [chk, hu.ok5, nI_1, e2, hu.atD hdr2 (by omega), hu.atD hdr3 (by omega), bP, hdI_cons]
          rw [if_pos (show nI 120 = (120 : Int32) from rfl), nI_sub48]
        simp only [htb, a1, nI_1]
        rw [hsk]
        exact t1
theorem SG.form {n u uq ucap v q : Nat} {D e : List Nat} {S : PS} (h1 : ¬ (u = v ∨ u = q)) (h2 : ¬ (uq = v ∨ uq = q)) (hD : ∀ c ∈ D, c < 127) (hD60 : D.length ≤ 60) (hn : 60 < n) {ts : List Tok} (hts : D = tkx ts) (hG : GV ts 0 0) (hu : SG S u uq ucap D) (hv : SG S v q 60 e) :
    ∃ T, fX5_writeForm n S u v = some T ∧ SG T v q 60 (rnd (fRun ts [[]])) ∧ FR (fun z => z = v ∨ z = q) S T ∧ ∃ h', h' ≠ 0 ∧ LVI (fRun ts [[]]) 0 h' D.length := by
  obtain ⟨T1, a1, a2, a3⟩ := hv.empty
  obtain ⟨T, t1, t2, t3, t4⟩ := wfL (n := n) h1 h2 hD hD60 hn ts 0 0 0 n T1 [[]] hts hG (by decide) LVI_nil (Nat.zero_le _) (by rw [← hts]; omega) (hu.keep a3 h1 h2) a2
  refine ⟨T, ?_, t2, a3.trans t3, t4⟩
  have e0 : nI 0 = (0 : Int32) := nI_0
  rw [e0] at t1
  unfold fX5_writeForm
  simp only [chk, hv.ok5, a1, bP, t1, bL1]
