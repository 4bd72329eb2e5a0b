/-! the written form: postings (account, less, amount, how often), items (group, how often, what lies within, its postings), levels of items, the innermost first -/
abbrev Pst := Nat × Bool × Nat × Nat
abbrev Itm := Bool × Nat × List Nat × List Pst
def mulP (t : Nat) (p : Pst) : Pst := (p.1, p.2.1, p.2.2.1, p.2.2.2 * t)
def itx (x : Itm) : List Nat := if x.1 = true then 40 :: (x.2.2.1 ++ [41, 120, 48 + x.2.1]) else x.2.2.1
def ipo (x : Itm) : List Pst := x.2.2.2.map (mulP x.2.1)
def jn : List (List Nat) → List Nat
  | [] => []
  | x :: r => match r with
    | [] => x
    | _ :: _ => x ++ 32 :: jn r
def dgs (v : Nat) : List Nat := (if 99 < v then [48 + v / 100] else []) ++ ((if 9 < v then [48 + v / 10 % 10] else []) ++ [48 + v % 10])
def nmv (v : Nat) : List Nat → Nat
  | [] => v
  | c :: r => if xDig c = true then nmv (10 * v + (c - 48)) r else v
def pIt (c s : Nat) (ds : List Nat) : Itm := (false, 1, c :: s :: dgs (nmv 0 ds), [(c - 97, decide (s = 45), nmv 0 ds, 1)])
def wrp (lv : List Itm) (t : Nat) : Itm := (true, t, jn (lv.map itx), lv.flatMap ipo)
def gIt (lv : List Itm) (t : Nat) : Itm := match lv with
  | [(true, t1, inn, ips)] => if t1 * t ≤ 9 then (true, t1 * t, inn, ips) else wrp lv t
  | _ => wrp lv t
/-- how often what stands ahead of a text is taken, o groups standing unclosed behind it -/
def tim : List Nat → Nat → Nat
  | [], _ => 1
  | c :: r, o => if c = 40 then tim r (o + 1) else if c = 41 then (if o = 0 then (r.getD 1 0 - 48) * tim r 0 else tim r (o - 1)) else tim r o
def scn : List Nat → List Pst
  | [] => []
  | c :: r => if xAcc c = true then (c - 97, decide (r.getD 0 0 = 45), nmv 0 (r.drop 1), tim r 0) :: scn r else scn r
def nd (r : List Nat) : Prop := ∀ c r', r = c :: r' → xDig c = false
def okc : List Nat → Prop
  | [] => True
  | c :: r => ((c = 41 → ∃ d r', r = 120 :: d :: r' ∧ 48 ≤ d ∧ d < 58) ∧ (xAcc c = true → ∃ s v r', r = s :: (dgs v ++ r') ∧ nd r' ∧ (s = 43 ∨ s = 45) ∧ v < 1000)) ∧ okc r
/-- groups closed and not yet opened, from behind -/
def dpl : List Nat → Nat → Option Nat
  | [], o => some o
  | c :: r, o => if c = 40 then dpl r (o + 1) else if c = 41 then (if o = 0 then none else dpl r (o - 1)) else dpl r o
theorem nd_nil : nd [] := fun _ _ h => nomatch h
theorem nd_cons {c : Nat} {r : List Nat} (h : xDig c = false) : nd (c :: r) := fun c' r' h2 => by injection h2 with h3 h4; subst h3; exact h
theorem mulP_mul (s t : Nat) (p : Pst) : mulP t (mulP s p) = mulP (s * t) p := by
  simp only [mulP, Nat.mul_assoc]
theorem mulP_one (p : Pst) : mulP 1 p = p := by
  simp only [mulP, Nat.mul_one]
theorem map_mulP (s t : Nat) (ps : List Pst) : (ps.map (mulP s)).map (mulP t) = ps.map (mulP (s * t)) := by
  rw [List.map_map]
  exact List.map_congr_left (fun p _ => mulP_mul s t p)
theorem map_mulP1 (ps : List Pst) : ps.map (mulP 1) = ps := by
  conv => rhs; rw [← List.map_id ps]
  exact List.map_congr_left (fun p _ => mulP_one p)
/-- a text that counts as some postings, wherever it stands -/
def TXT (x : List Nat) (ps : List Pst) : Prop := (∀ r o, tim (x ++ r) o = tim r o) ∧ (∀ r, nd r → scn (x ++ r) = ps.map (mulP (tim r 0)) ++ scn r) ∧ (∀ r, nd r → okc r → okc (x ++ r)) ∧ (∀ r o, dpl (x ++ r) o = dpl r o) ∧ ∀ c ∈ x, 32 ≤ c ∧ c < 127
theorem TXT_nil : TXT [] [] := ⟨fun _ _ => rfl, fun _ _ => rfl, fun _ _ h => h, fun _ _ => rfl, fun _ h => nomatch h⟩
theorem TXT_sep {x y : List Nat} {ps qs : List Pst} (h1 : TXT x ps) (h2 : TXT y qs) : TXT (x ++ 32 :: y) (ps ++ qs) := by
  obtain ⟨a1, a2, a3, a4, a5⟩ := h1
  obtain ⟨b1, b2, b3, b4, b5⟩ := h2
  refine ⟨fun r o => ?_, fun r hr => ?_, fun r hn hr => ?_, fun r o => ?_, fun c hc => ?_⟩
  · rw [List.append_assoc, a1, List.cons_append, ← b1 r o]
    rfl
  · rw [List.append_assoc, List.cons_append, a2 _ (nd_cons rfl)]
    have e1 : tim (32 :: (y ++ r)) 0 = tim r 0 := by rw [← b1 r 0]; rfl
    have e2 : scn (32 :: (y ++ r)) = scn (y ++ r) := rfl
    rw [e1, e2, b2 r hr, List.map_append, List.append_assoc]
  · rw [List.append_assoc, List.cons_append]
    exact a3 _ (nd_cons rfl) ⟨⟨(fun h => nomatch h), (fun h => nomatch h)⟩, b3 r hn hr⟩
  · rw [List.append_assoc, a4, List.cons_append, ← b4 r o]
    rfl
  · rcases List.mem_append.mp hc with h | h
    · exact a5 c h
    · rcases List.mem_cons.mp h with h | h
      · subst h; decide
      · exact b5 c h
theorem TXT_grp {x : List Nat} {ps : List Pst} (h : TXT x ps) {t : Nat} (ht : t < 10) : TXT (40 :: (x ++ [41, 120, 48 + t])) (ps.map (mulP t)) := by
  obtain ⟨a1, a2, a3, a4, a5⟩ := h
  have n40 : (48 + t) ≠ 40 := by omega
  have n41 : (48 + t) ≠ 41 := by omega
  have hx : xAcc (48 + t) = false := by
    simp only [xAcc, Bool.and_eq_false_iff, decide_eq_false_iff_not]
    left; omega
  have e1 : ∀ r o, tim (120 :: (48 + t) :: r) o = tim r o := fun r o => by
    simp only [tim, if_neg n40, if_neg n41]
    rfl
  have e2 : ∀ r o, dpl (120 :: (48 + t) :: r) o = dpl r o := fun r o => by
    simp only [dpl, if_neg n40, if_neg n41]
    rfl
  have e3 : ∀ r, scn (120 :: (48 + t) :: r) = scn r := fun r => by
    simp only [scn, hx]
    rfl
  have ea : ∀ r, 40 :: (x ++ [41, 120, 48 + t]) ++ r = 40 :: (x ++ 41 :: 120 :: (48 + t) :: r) := fun r => by simp
  refine ⟨fun r o => ?_, fun r hr => ?_, fun r hn hr => ?_, fun r o => ?_, fun c hc => ?_⟩
  · rw [ea]
    show tim (x ++ 41 :: 120 :: (48 + t) :: r) (o + 1) = _
    rw [a1]
    show tim (120 :: (48 + t) :: r) (o + 1 - 1) = _
    rw [e1, Nat.add_sub_cancel]
  · rw [ea]
    show scn (x ++ 41 :: 120 :: (48 + t) :: r) = _
    rw [a2 _ (nd_cons rfl)]
    have e4 : tim (41 :: 120 :: (48 + t) :: r) 0 = t * tim r 0 := by
      show ((48 + t) - 48) * tim (120 :: (48 + t) :: r) 0 = _
      rw [e1, Nat.add_sub_cancel_left]
    have e5 : scn (41 :: 120 :: (48 + t) :: r) = scn r := e3 r
    rw [e4, e5, map_mulP]
  · rw [ea]
    refine ⟨⟨(fun h => nomatch h), (fun h => nomatch h)⟩, a3 _ (nd_cons rfl) ⟨⟨fun _ => ⟨48 + t, r, rfl, by omega, by omega⟩, (fun h => nomatch h)⟩, ⟨(fun h => nomatch h), (fun h => nomatch h)⟩, ⟨fun h => absurd h n41, fun h => by rw [hx] at h; cases h⟩, hr⟩⟩
  · rw [ea]
    show dpl (x ++ 41 :: 120 :: (48 + t) :: r) (o + 1) = _
    rw [a4]
    show dpl (120 :: (48 + t) :: r) (o + 1 - 1) = _
    rw [e2, Nat.add_sub_cancel]
  · rcases List.mem_cons.mp hc with h | h
    · subst h; decide
    · rcases List.mem_append.mp h with h | h
      · exact a5 c h
      · simp only [List.mem_cons, List.not_mem_nil, or_false] at h
        rcases h with rfl | rfl | rfl
        · decide
        · decide
        · omega
/-- a digit's code does nothing to the scans but end a number -/
theorem dgs_dig : ∀ v, v < 1000 → ∀ c ∈ dgs v, xDig c = true := by decide +kernel
theorem dgs_val : ∀ v, v < 1000 → nmv 0 (dgs v) = v := by decide +kernel
theorem dgs_len : ∀ v, v < 1000 → 1 ≤ (dgs v).length ∧ (dgs v).length ≤ 3 := by decide +kernel
theorem xDig_iff {c : Nat} : xDig c = true ↔ 48 ≤ c ∧ c ≤ 57 := by simp [xDig]
theorem xAcc_iff {c : Nat} : xAcc c = true ↔ 97 ≤ c ∧ c ≤ 104 := by simp [xAcc]
theorem dig_skip {c : Nat} (h : xDig c = true) (r : List Nat) : (∀ o, tim (c :: r) o = tim r o) ∧ scn (c :: r) = scn r ∧ (okc r → okc (c :: r)) ∧ ∀ o, dpl (c :: r) o = dpl r o := by
  rw [xDig_iff] at h
  have h1 : c ≠ 40 := by omega
  have h2 : c ≠ 41 := by omega
  have h3 : xAcc c = false := by
    simp only [xAcc, Bool.and_eq_false_iff, decide_eq_false_iff_not]
    left; omega
  refine ⟨fun o => by simp only [tim, if_neg h1, if_neg h2], by simp [scn, h3], fun h => ⟨⟨fun z => absurd z h2, fun z => by rw [h3] at z; cases z⟩, h⟩, fun o => by simp only [dpl, if_neg h1, if_neg h2]⟩
theorem digs_skip : ∀ (ds : List Nat), (∀ c ∈ ds, xDig c = true) → ∀ r, (∀ o, tim (ds ++ r) o = tim r o) ∧ scn (ds ++ r) = scn r ∧ (okc r → okc (ds ++ r)) ∧ (∀ o, dpl (ds ++ r) o = dpl r o) := by
  intro ds
  induction ds with
  | nil => exact fun _ r => ⟨fun _ => rfl, rfl, fun h => h, fun _ => rfl⟩
  | cons c ds ih =>
    intro h r
    obtain ⟨a1, a2, a3, a4⟩ := ih (fun z hz => h z (List.mem_cons_of_mem _ hz)) r
    obtain ⟨b1, b2, b3, b4⟩ := dig_skip (h c List.mem_cons_self) (ds ++ r)
    exact ⟨fun o => (b1 o).trans (a1 o), b2.trans a2, fun z => b3 (a3 z), fun o => (b4 o).trans (a4 o)⟩
theorem nmv_app : ∀ (ds : List Nat) (v : Nat) (r : List Nat), (∀ c ∈ ds, xDig c = true) → nd r → nmv v (ds ++ r) = nmv v ds := by
  intro ds
  induction ds with
  | nil =>
    intro v r _ hr
    cases r with
    | nil => rfl
    | cons c r => simp [nmv, hr c r rfl]
  | cons c ds ih =>
    intro v r h hr
    simp only [List.cons_append, nmv, h c List.mem_cons_self, if_true]
    exact ih _ r (fun z hz => h z (List.mem_cons_of_mem _ hz)) hr
theorem nmv_lt3 {ds : List Nat} (h : ∀ c ∈ ds, xDig c = true) (hl : ds.length ≤ 3) : nmv 0 ds < 1000 := by
  match ds, hl with
  | [], _ => decide
  | [a], _ =>
    have := xDig_iff.mp (h a (by simp))
    simp only [nmv, h a (by simp), if_true]
    omega
  | [a, b], _ =>
    have := xDig_iff.mp (h a (by simp))
    have := xDig_iff.mp (h b (by simp))
    simp only [nmv, h a (by simp), h b (by simp), if_true]
    omega
  | [a, b, c], _ =>
    have := xDig_iff.mp (h a (by simp))
    have := xDig_iff.mp (h b (by simp))
    have := xDig_iff.mp (h c (by simp))
    simp only [nmv, h a (by simp), h b (by simp), h c (by simp), if_true]
    omega
theorem TXT_pst {c s v : Nat} (hc : xAcc c = true) (hs : s = 43 ∨ s = 45) (hv : v < 1000) : TXT (c :: s :: dgs v) [(c - 97, decide (s = 45), v, 1)] := by
  have hc' := xAcc_iff.mp hc
  have h1 : c ≠ 40 := by omega
  have h2 : c ≠ 41 := by omega
  have h3 : s ≠ 40 := by omega
  have h4 : s ≠ 41 := by omega
  have h5 : xAcc s = false := by rcases hs with rfl | rfl <;> rfl
  have hd := dgs_dig v hv
  refine ⟨fun r o => ?_, fun r hr => ?_, fun r hn hr => ?_, fun r o => ?_, fun z hz => ?_⟩
  · simp only [List.cons_append, tim, if_neg h1, if_neg h2, if_neg h3, if_neg h4]
    exact (digs_skip (dgs v) hd r).1 o
  · simp only [List.cons_append, scn, hc, if_true, h5, List.getD_cons_zero, List.drop_succ_cons, List.drop_zero, (digs_skip (dgs v) hd r).2.1, nmv_app (dgs v) 0 r hd hr, dgs_val v hv, tim, if_neg h3, if_neg h4, (digs_skip (dgs v) hd r).1 0]
    simp [mulP]
  · exact ⟨⟨fun z => absurd z h2, fun _ => ⟨s, v, r, rfl, hn, hs, hv⟩⟩, ⟨fun z => absurd z h4, fun z => by rw [h5] at z; cases z⟩, (digs_skip (dgs v) hd r).2.2.1 hr⟩
  · simp only [List.cons_append, dpl, if_neg h1, if_neg h2, if_neg h3, if_neg h4]
    exact (digs_skip (dgs v) hd r).2.2.2 o
  · rcases List.mem_cons.mp hz with rfl | hz
    · omega
    · rcases List.mem_cons.mp hz with rfl | hz
      · omega
      · have := xDig_iff.mp (hd z hz)
        omega
/-- an item as it should be -/
def ITM (x : Itm) : Prop := TXT x.2.2.1 x.2.2.2 ∧ 1 ≤ x.2.1 ∧ x.2.1 ≤ 9 ∧ x.2.2.2 ≠ [] ∧ (x.1 = false → x.2.1 = 1 ∧ ∃ c r, x.2.2.1 = c :: r ∧ xAcc c = true)
theorem ITM.txt {x : Itm} (h : ITM x) : TXT (itx x) (ipo x) := by
  obtain ⟨h1, h2, h3, h4, h5⟩ := h
  unfold itx ipo
  by_cases hg : x.1 = true
  · rw [if_pos hg]
    exact TXT_grp h1 (by omega)
  · rw [if_neg hg, (h5 (by simpa using hg)).1, map_mulP1]
    exact h1
theorem jn_cons {x : List Nat} {r : List (List Nat)} (h : r ≠ []) : jn (x :: r) = x ++ 32 :: jn r := by
  cases r with
  | nil => exact absurd rfl h
  | cons y r => rfl
theorem jn_app : ∀ {a b : List (List Nat)}, a ≠ [] → b ≠ [] → jn (a ++ b) = jn a ++ 32 :: jn b := by
  intro a
  induction a with
  | nil => intro b h; exact absurd rfl h
  | cons x a ih =>
    intro b _ hb
    rw [List.cons_append, jn_cons (by simp [hb])]
    by_cases ha : a = []
    · subst ha
      rfl
    · rw [ih ha hb, jn_cons ha, List.append_assoc]
      rfl
theorem TXT_jn : ∀ {lv : List Itm}, (∀ x ∈ lv, ITM x) → TXT (jn (lv.map itx)) (lv.flatMap ipo) := by
  intro lv
  induction lv with
  | nil => exact fun _ => TXT_nil
  | cons x lv ih =>
    intro h
    have h1 := (h x List.mem_cons_self).txt
    have h2 := ih (fun y hy => h y (List.mem_cons_of_mem _ hy))
    by_cases hl : lv = []
    · subst hl
      simpa [jn] using h1
    · rw [List.map_cons, jn_cons (by simpa using hl), List.flatMap_cons]
      exact TXT_sep h1 h2
theorem flatMap_ne {lv : List Itm} (h : ∀ x ∈ lv, ITM x) (hne : lv ≠ []) : lv.flatMap ipo ≠ [] := by
  cases lv with
  | nil => exact absurd rfl hne
  | cons x lv =>
    intro h2
    rw [List.flatMap_cons] at h2
    have := (List.append_eq_nil_iff.mp h2).1
    have h3 := (h x List.mem_cons_self).2.2.2.1
    exact h3 (by simpa [ipo] using this)
theorem ITM_pIt {c s : Nat} {ds : List Nat} (hc : xAcc c = true) (hs : s = 43 ∨ s = 45) (hd : ∀ z ∈ ds, xDig z = true) (hl : ds.length ≤ 3) : ITM (pIt c s ds) := by
  refine ⟨TXT_pst hc hs (nmv_lt3 hd hl), Nat.le_refl _, (Nat.le_of_ble_eq_true rfl), by simp [pIt], fun _ => ⟨rfl, c, _, rfl, hc⟩⟩
theorem ITM_wrp {lv : List Itm} {t : Nat} (h : ∀ x ∈ lv, ITM x) (hne : lv ≠ []) (h1 : 1 ≤ t) (h9 : t ≤ 9) : ITM (wrp lv t) :=
  ⟨TXT_jn h, h1, h9, flatMap_ne h hne, fun z => nomatch z⟩
theorem gIt_cases (lv : List Itm) (t : Nat) : (∃ t1 inn ips, lv = [(true, t1, inn, ips)] ∧ t1 * t ≤ 9 ∧ gIt lv t = (true, t1 * t, inn, ips)) ∨ ((∀ t1 inn ips, lv = [(true, t1, inn, ips)] → 9 < t1 * t) ∧ gIt lv t = wrp lv t) := by
  rcases lv with _ | ⟨⟨g, t1, inn, ips⟩, _ | ⟨y, lv⟩⟩
  · exact Or.inr ⟨fun _ _ _ h => (nomatch h), rfl⟩
  · cases g with
    | false => exact Or.inr ⟨fun _ _ _ h => by simp at h, rfl⟩
    | true =>
      by_cases h9 : t1 * t ≤ 9
      · exact Or.inl ⟨t1, inn, ips, rfl, h9, by simp only [gIt, if_pos h9]⟩
      · refine Or.inr ⟨fun a b c h => ?_, by simp only [gIt, if_neg h9]⟩
        simp only [List.cons.injEq, Prod.mk.injEq, and_true, true_and] at h
        obtain ⟨rfl, -, -⟩ := h
        omega
  · exact Or.inr ⟨fun _ _ _ h => by simp at h, by cases g <;> rfl⟩
theorem ITM_gIt {lv : List Itm} {t : Nat} (h : ∀ x ∈ lv, ITM x) (hne : lv ≠ []) (h1 : 1 ≤ t) (h9 : t ≤ 9) : ITM (gIt lv t) := by
  rcases gIt_cases lv t with ⟨t1, inn, ips, rfl, h2, h3⟩ | ⟨-, h3⟩
  · rw [h3]
    obtain ⟨a1, a2, a3, a4, a5⟩ := h _ List.mem_cons_self
    exact ⟨a1, Nat.mul_pos a2 h1, h2, a4, fun z => nomatch z⟩
  · rw [h3]
    exact ITM_wrp h hne h1 h9
theorem ipo_gIt (lv : List Itm) (t : Nat) : ipo (gIt lv t) = (lv.flatMap ipo).map (mulP t) := by
  rcases gIt_cases lv t with ⟨t1, inn, ips, rfl, h2, h3⟩ | ⟨-, h3⟩
  · rw [h3]
    simp only [ipo, List.flatMap_cons, List.flatMap_nil, List.append_nil, map_mulP]
  · rw [h3]
    rfl
/-- what the written form of all levels is, as far as it has come -/
def rnd : List (List Itm) → List Nat
  | [] => []
  | lv :: ls => match ls with
    | [] => jn (lv.map itx)
    | l2 :: _ => rnd ls ++ ((if l2 = [] then [] else [32]) ++ 40 :: jn (lv.map itx))
def pre (L : List (List Itm)) : List Nat := match L with
  | [] => []
  | l2 :: ls => rnd (l2 :: ls) ++ ((if l2 = [] then [] else [32]))
theorem rnd_cons {lv l2 : List Itm} {ls : List (List Itm)} : rnd (lv :: l2 :: ls) = pre (l2 :: ls) ++ 40 :: jn (lv.map itx) := by
  show rnd (l2 :: ls) ++ _ = _
  unfold pre
  rw [List.append_assoc]
theorem rnd_top (lv : List Itm) (ls : List (List Itm)) : ∃ p, ∀ lv' : List Itm, rnd (lv' :: ls) = p ++ jn (lv'.map itx) := by
  cases ls with
  | nil => exact ⟨[], fun _ => rfl⟩
  | cons l2 ls => exact ⟨pre (l2 :: ls) ++ [40], fun lv' => by rw [rnd_cons, List.append_assoc]; rfl⟩
theorem pre_snoc (lv : List Itm) (ls : List (List Itm)) (x : List Itm) (hx : x ≠ []) : pre (lv :: ls) ++ jn (x.map itx) = rnd ((lv ++ x) :: ls) := by
  obtain ⟨p, hp⟩ := rnd_top lv ls
  show rnd (lv :: ls) ++ _ ++ _ = _
  rw [hp, hp]
  by_cases hl : lv = []
  · subst hl
    simp [jn]
  · rw [if_neg hl, List.map_append, jn_app (by simpa using hl) (by simpa using hx)]
    simp
