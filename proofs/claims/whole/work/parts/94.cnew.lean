/-! the landed program's calls that make cells -/
theorem cSig {gs : JP} {S : PS} {v cap : Nat} {Q : PS → Prop} (ho : okP S v 5 = true) (h0 : sI S 51 v = 0) (hcap : cap ≤ 360) (kk : ∀ T q, SG T v q cap [] → FR (fun z => z = v) S T → q ∉ sL S → q ∈ sL T → Q T) : fX4_init gs S v (nI cap) Q := by
  unfold fX4_init
  have e : (if nI cap < (0 : Int32) then (0 : Int32) else nI cap) = nI cap := if_neg (nI_pos (by omega))
  rw [e, nI_clamp (show cap < 2 ^ 31 by omega)]
  refine ⟨decide_eq_true (nI_pos (by omega)), decide_eq_true hcap, ?_⟩
  intro q hq
  rintro z rfl
  have hF : FR (fun _ => False) S (pNA S q cap) := FR.pNA hq
  have hvq : v ≠ q := fun z => hq (z ▸ (okP_in ho).1)
  refine ⟨hF.ok ho, ?_⟩
  rintro w rfl
  refine kk _ q ⟨hF.ok ho, if_pos ⟨rfl, rfl⟩, okP_mk (List.mem_append_right _ List.mem_cons_self) (if_pos rfl), if_pos rfl, h0, Nat.zero_le _, by omega, fun i hi => absurd hi (Nat.not_lt_zero _)⟩ ((hF.mono (fun _ h => h.elim)).trans FR.pR) hq (List.mem_append_right _ List.mem_cons_self)
theorem pNw_new {S : PS} {q k : Nat} (hq : q ∉ sL S) : okP (pNw S q k) q k = true ∧ ∀ f, sI (pNw S q k) f q = 0 := ⟨okP_mk (List.mem_append_right _ List.mem_cons_self) (if_pos rfl), fun f => if_pos rfl⟩
theorem pR_ne {S : PS} {f f' a b : Nat} {x : Option Nat} (h : f' ≠ f) : sR (pR S f a x) f' b = sR S f' b := if_neg (fun z => h z.1)
theorem FR.mem {F : Nat → Prop} {S T : PS} (h : FR F S T) {b : Nat} (hb : b ∈ sL S) : b ∈ sL T := (h b hb).1
theorem FR.nmem {F : Nat → Prop} {S T : PS} (h : FR F S T) {b : Nat} (hb : b ∉ sL T) : b ∉ sL S := fun z => hb (h.mem z)
theorem FR.getI {F : Nat → Prop} {S T : PS} (h : FR F S T) {b f : Nat} (hb : b ∈ sL S) (hF : ¬ F b) : sI T f b = sI S f b := ((h b hb).2.2 hF).1 f
theorem FR.getR {F : Nat → Prop} {S T : PS} (h : FR F S T) {b f : Nat} (hb : b ∈ sL S) (hF : ¬ F b) : sR T f b = sR S f b := ((h b hb).2.2 hF).2.1 f
/-- a new entry: six cells, none of them there before -/
theorem cEnt0 {gs : JP} {S : PS} {e : Nat} {Q : PS → Prop} (ho : okP S e 2 = true) (h0 : ∀ f, sI S f e = 0) (kk : ∀ T tv tq wv wq am, EC T e tv wv am → SG T tv tq 60 [] → SG T wv wq 60 [] → EA T e am [] → sI T 24 e = nI (cnt []) → sI T 25 e = 0 → FR (fun z => z = e) S T → (tv ∉ sL S ∧ tq ∉ sL S ∧ wv ∉ sL S ∧ wq ∉ sL S ∧ am ∉ sL S) → (tv ≠ tq ∧ tv ≠ wv ∧ tv ≠ wq ∧ tv ≠ am ∧ tq ≠ wv ∧ tq ≠ wq ∧ tq ≠ am ∧ wv ≠ wq ∧ wv ≠ am ∧ wq ≠ am) → Q T) : fX1_init gs S e Q := by
  unfold fX1_init
  have he := (okP_in ho).1
  have e60 : (60 : Int32) = nI 60 := rfl
  intro tv htv
  rintro z5 rfl
  have F0 : FR (fun z => z = e) S (pNw S tv 5) := FR.pNw htv
  obtain ⟨n1, n2⟩ := pNw_new (k := 5) htv
  rw [e60]
  refine cSig n1 (n2 51) (by decide) (fun T1 tq s1 f1 q1 m1 => ?_)
  have hetv : e ≠ tv := fun z => htv (z ▸ he)
  have g1 : FR (fun z => z = e) S T1 := FR.weak F0 f1 (fun b hb hz => absurd (hz ▸ hb) htv)
  have o1 := g1.ok ho
  refine ⟨o1, ?_⟩
  rintro w14 rfl
  have F2 : FR (fun z => z = e) T1 (pR T1 20 e (some tv)) := FR.pR
  have s2 := s1.keep F2 (fun z => hetv z.symm) (fun z => okP_ne o1 s1.ok8 (by decide) z.symm)
  have g2 := g1.trans F2
  have r2 : sR (pR T1 20 e (some tv)) 20 e = some tv := if_pos ⟨rfl, rfl⟩
  obtain ⟨S2, hS2⟩ : ∃ S2, S2 = pR T1 20 e (some tv) := ⟨_, rfl⟩
  rw [← hS2] at s2 g2 r2 ⊢
  have o2 := g2.ok ho
  intro wv hwv
  rintro z18 rfl
  have F3 : FR (fun _ => False) S2 (pNw S2 wv 5) := FR.pNw hwv
  obtain ⟨n3, n4⟩ := pNw_new (k := 5) hwv
  refine cSig n3 (n4 51) (by decide) (fun T3 wq s3 f3 q3 m3 => ?_)
  have hewv : e ≠ wv := fun z => hwv (z ▸ (okP_in o2).1)
  have g3 : FR (fun _ => False) S2 T3 := FR.weak F3 f3 (fun b hb hz => absurd (hz ▸ hb) hwv)
  have o3 := g3.ok o2
  have s2' := s2.keep g3 id id
  have r3 : sR T3 20 e = some tv := (g3.getR (okP_in o2).1 id).trans r2
  have m_tv2 := (okP_in s2.ok5).1
  have m_tq2 := (okP_in s2.ok8).1
  have m_wv3 := (okP_in s3.ok5).1
  have m_wq3 := (okP_in s3.ok8).1
  have d_tvwv : tv ≠ wv := fun z => hwv (z ▸ m_tv2)
  have d_tqwv : tq ≠ wv := fun z => hwv (z ▸ m_tq2)
  have hwq2 : wq ∉ sL S2 := F3.nmem q3
  have d_tvwq : tv ≠ wq := fun z => hwq2 (z ▸ m_tv2)
  have d_tqwq : tq ≠ wq := fun z => hwq2 (z ▸ m_tq2)
  refine ⟨o3, ?_⟩
  rintro w27 rfl
  have F4 : FR (fun z => z = e) T3 (pR T3 21 e (some wv)) := FR.pR
  have s4 := s2'.keep F4 (fun z => hetv z.symm) (fun z => okP_ne o3 s2'.ok8 (by decide) z.symm)
  have s5 := s3.keep F4 (fun z => hewv z.symm) (fun z => okP_ne o3 s3.ok8 (by decide) z.symm)
  have r4 : sR (pR T3 21 e (some wv)) 21 e = some wv := if_pos ⟨rfl, rfl⟩
  have r4' : sR (pR T3 21 e (some wv)) 20 e = some tv := (pR_ne (by decide)).trans r3
  have g4 : FR (fun z => z = e) S (pR T3 21 e (some wv)) := (g2.trans (g3.mono (fun _ h => h.elim))).trans F4
  obtain ⟨S4, hS4⟩ : ∃ S4, S4 = pR T3 21 e (some wv) := ⟨_, rfl⟩
  have i4 : ∀ f, sI S4 f e = 0 := by
    intro f
    rw [hS4]
    show sI T3 f e = 0
    rw [g3.getI (okP_in o2).1 id, hS2]
    show sI T1 f e = 0
    have hb : e ∈ sL (pNw S tv 5) := F0.mem he
    rw [f1.getI hb hetv]
    show (if e = tv then 0 else sI S f e) = 0
    rw [if_neg hetv]; exact h0 f
  rw [← hS4] at s4 s5 r4 r4' g4 ⊢
  have o4 := g4.ok ho
  refine ⟨by decide, by decide, ?_⟩
  intro am ham
  rintro z33 rfl
  have hN8 : ((8 : Int32)).toNatClampNeg = 8 := by decide
  rw [hN8]
  have F5 : FR (fun _ => False) S4 (pNA S4 am 8) := FR.pNA ham
  have o5 := F5.ok o4
  have heam : e ≠ am := fun z => ham (z ▸ (okP_in o4).1)
  have m_tv4 := (okP_in s4.ok5).1
  have m_tq4 := (okP_in s4.ok8).1
  have m_wv4 := (okP_in s5.ok5).1
  have m_wq4 := (okP_in s5.ok8).1
  refine ⟨o5, ?_⟩
  rintro w35 rfl
  have F6 : FR (fun z => z = e) (pNA S4 am 8) (pR (pNA S4 am 8) 22 e (some am)) := FR.pR
  have g6 : FR (fun z => z = e) S (pR (pNA S4 am 8) 22 e (some am)) := (g4.trans (F5.mono (fun _ h => h.elim))).trans F6
  have okam : okP (pNA S4 am 8) am 8 = true := okP_mk (List.mem_append_right _ List.mem_cons_self) (if_pos rfl)
  refine kk _ tv tq wv wq am ⟨o5, (pR_ne (by decide)).trans r4', (pR_ne (by decide)).trans r4, if_pos ⟨rfl, rfl⟩, okam, if_pos rfl⟩ ((s4.keep F5 id id).keep F6 (fun z => hetv z.symm) (fun z => okP_ne o5 (F5.ok s4.ok8) (by decide) z.symm)) ((s5.keep F5 id id).keep F6 (fun z => hewv z.symm) (fun z => okP_ne o5 (F5.ok s5.ok8) (by decide) z.symm)) ⟨(i4 23).trans rfl, fun a _ => ?_⟩ (i4 24) (i4 25) g6 ⟨htv, ?_, ?_, ?_, ?_⟩ ⟨okP_ne s4.ok5 s4.ok8 (by decide), d_tvwv, d_tvwq, fun z => ham (z ▸ m_tv4), d_tqwv, d_tqwq, fun z => ham (z ▸ m_tq4), okP_ne s5.ok5 s5.ok8 (by decide), fun z => ham (z ▸ m_wv4), fun z => ham (z ▸ m_wq4)⟩
  · show (if am = am then (fun _ => 0) else _) a = gts [] a
    rw [if_pos rfl]; rfl
  · exact F0.nmem q1
  · exact g2.nmem hwv
  · exact g2.nmem hwq2
  · exact g4.nmem ham
section RCsec
variable {e0 : Nat} {S : PS} {x : Nat} {own : Nat → Nat × Nat} {g : Nat → Nat} {ad : Nat → EAd} {ra aa : Nat → Nat} {sp : List Nat} {A : Abs}
theorem cEntD {gs : JP} {n : Nat} (h : RC gs.2.1 S x own g ad ra aa sp A) (hW : WF A) (hn : 2000 < n) (j0 : Nat) {Q : Nat → PS → Prop} {Qx : Nat → PS → Prop} (hQx : bad A.1 (nwE A.1).2.2.1 = true → ∀ T, RC gs.2.1 T x own g ad ra aa sp A → Qx 1 T) (hQ : bad A.1 (nwE A.1).2.2.1 = false → WE (nwE A.1) → ∀ T own' a, RC gs.2.1 T x own' g ad ra aa sp A → EN T own' j0 a (nwE A.1) → Q a.1 T) : fX6_entryOfDraft gs n S x Q Qx := by
  unfold fX6_entryOfDraft
  refine ⟨h.x, _, h.r62, h.x, _, h.r60, h.rd, ?_⟩
  obtain ⟨T0, t1, h0, -⟩ := h.rdr hW (n := n) (by omega)
  refine ⟨_, _, t1, ?_⟩
  have hd60 := hW.1.1
  by_cases hf : xFault A.1 = none
  · show (if xFaultI A.1 = (-1 : Int32) then _ else _)
    rw [if_pos ((xFaultI_m1 hd60).mpr hf)]
    intro e he
    rintro z25 rfl
    obtain ⟨n1, n2⟩ := pNw_new (k := 2) he
    have F0 : FR (fun _ => False) T0 (pNw T0 e 2) := FR.pNw he
    refine cEnt0 n1 n2 (fun T1 tv tq wv wq am c1 c2 c3 c4 c5 c6 c7 hfr hne => ?_)
    have hx0 : FR (fun _ => False) T0 T1 := FR.weak F0 c7 (fun b hb hz => absurd (hz ▸ hb) he)
    have h1 := h0.fresh hx0
    obtain ⟨m1, m2, m3, m4, m5⟩ := hfr
    obtain ⟨a1, a2, a3, a4, a5, a6, a7, a8, a9, a10⟩ := hne
    have nm : ∀ {z}, z ∉ sL (pNw T0 e 2) → z ∉ sL T0 ∧ z ≠ e := fun {z} hz => ⟨F0.nmem hz, fun zz => hz (zz ▸ List.mem_append_right _ List.mem_cons_self)⟩
    obtain ⟨m1, e1⟩ := nm m1
    obtain ⟨m2, e2⟩ := nm m2
    obtain ⟨m3, e3⟩ := nm m3
    obtain ⟨m4, e4⟩ := nm m4
    obtain ⟨m5, e5⟩ := nm m5
    refine ⟨h1.x, _, h1.r60, c1.1, ?_⟩
    -- the draft's cells are none of the new ones
    have hg0 := (okP_in h0.dr.ok5).1
    have hg1 := (okP_in h0.dr.ok8).1
    have ng : ∀ z, z ∉ sL T0 → g 0 ≠ z ∧ g 1 ≠ z := fun z hz => ⟨fun y => hz (y ▸ hg0), fun y => hz (y ▸ hg1)⟩
    obtain ⟨b1, b2, b3, b4⟩ := SG.copy (n := n) (u := g 0) (uq := g 1) (v := tv) (q := tq) (fun z => z.elim (ng _ m1).1 (ng _ m2).1) (fun z => z.elim (ng _ m1).2 (ng _ m2).2) h1.dr c2 hd60 (by omega)
    have E2 := c1.keep b4 (fun z => z.elim (fun y => e1 y.symm) (fun y => e2 y.symm)) (fun z => z.elim (fun y => a4 y.symm) (fun y => a7 y.symm))
    have W2 := c3.keep b4 (fun z => z.elim (fun y => a2 y.symm) (fun y => a5 y.symm)) (fun z => z.elim (fun y => a3 y.symm) (fun y => a6 y.symm))
    have A2 := c4.keep c1 b4 (fun z => z.elim (fun y => e1 y.symm) (fun y => e2 y.symm)) (fun z => z.elim (fun y => a4 y.symm) (fun y => a7 y.symm))
    have C2 : sI b1 24 e = nI (cnt []) := (b4.getI (okP_in c1.1).1 (fun z => z.elim (fun y => e1 y.symm) (fun y => e2 y.symm))).trans c5
    have X2 : sI b1 25 e = 0 := (b4.getI (okP_in c1.1).1 (fun z => z.elim (fun y => e1 y.symm) (fun y => e2 y.symm))).trans c6
    obtain ⟨ht, hG⟩ := tkOf_ok hf
    obtain ⟨T3, d1, d2, d3, hLV⟩ := SG.form (n := n) (u := tv) (uq := tq) (v := wv) (q := wq) (fun z => z.elim a2 a3) (fun z => z.elim a5 a6) (fun c hc => (hW.1.2 c hc).2) hd60 (by omega) ht hG b3 W2
    have E3 := E2.keep d3 (fun z => z.elim (fun y => e3 y.symm) (fun y => e4 y.symm)) (fun z => z.elim (fun y => a9 y.symm) (fun y => a10 y.symm))
    have Y3 := b3.keep d3 (fun z => z.elim a2 a3) (fun z => z.elim a5 a6)
    have A3 := A2.keep E2 d3 (fun z => z.elim (fun y => e3 y.symm) (fun y => e4 y.symm)) (fun z => z.elim (fun y => a9 y.symm) (fun y => a10 y.symm))
    have C3 : sI T3 24 e = nI (cnt []) := (d3.getI (okP_in E2.1).1 (fun z => z.elim (fun y => e3 y.symm) (fun y => e4 y.symm))).trans C2
    have X3 : sI T3 25 e = 0 := (d3.getI (okP_in E2.1).1 (fun z => z.elim (fun y => e3 y.symm) (fun y => e4 y.symm))).trans X2
    obtain ⟨s1, s2, s3⟩ := nwE_small hd60 hLV
    -- the written form's postings
    have hscn : scn (nwE A.1).2.1 = (nwE A.1).2.2.1 ∧ okc (nwE A.1).2.1 ∧ ∀ c ∈ (nwE A.1).2.1, 32 ≤ c ∧ c < 127 := by
      obtain ⟨h', hh, q1, q2, q3, ⟨lv, ls, hL, q4⟩, q5, q6⟩ := hLV
      obtain rfl : ls = [] := by
        cases ls with
        | nil => rfl
        | cons y ys => rw [hL] at q2; simp at q2
      rw [hL] at q1
      have hT := TXT_jn (fun x hx => (q1.1 x hx).1)
      have g1 : (nwE A.1).2.1 = jn (lv.map itx) := by show rnd (fRun (tkOf A.1) [[]]) = _; rw [hL]; rfl
      have g2 : (nwE A.1).2.2.1 = lv.flatMap ipo := by show alP (fRun (tkOf A.1) [[]]) = _; rw [hL]; simp [alP]
      rw [g1, g2]
      have k1 := hT.2.1 [] nd_nil
      have k2 := hT.2.2.1 [] nd_nil trivial
      rw [List.append_nil] at k1 k2
      refine ⟨?_, k2, hT.2.2.2.2⟩
      rw [k1]
      simp [tim, scn, map_mulP1]
    obtain ⟨hs1, hs2, hs3⟩ := hscn
    have d2 : SG T3 wv wq 60 (nwE A.1).2.1 := d2
    obtain ⟨T4, f1, f2, f3, f4, f5, f6⟩ := EC.takeL (n := n) (fun z => z.elim e3 a9) (fun z => z.elim e4 a10) (fun c hc => (hs3 c hc).2) (by omega) (nwE A.1).2.1 0 n T3 [] rfl (Nat.zero_le _) (by omega) hs2 E3 d2 A3 C3
    rw [List.nil_append, hs1] at f2 f3
    have e0' : nI 0 = (0 : Int32) := nI_0
    rw [e0'] at f1
    have Y4 := Y3.keep f4 (fun z => z.elim e1 a4) (fun z => z.elim e2 a7)
    have W4 := d2.keep f4 (fun z => z.elim e3 a9) (fun z => z.elim e4 a10)
    have X4 : sI T4 25 e = 0 := (f6 25 (by decide) (by decide)).trans X3
    have hFall : FR (fun _ => False) T0 T4 := by
      refine FR.weak (FR.weak (FR.weak hx0 b4 (fun b hb hz => hz.elim (fun y => m1 (y ▸ hb)) (fun y => m2 (y ▸ hb)))) d3 (fun b hb hz => hz.elim (fun y => m3 (y ▸ hb)) (fun y => m4 (y ▸ hb)))) f4 (fun b hb hz => hz.elim (fun y => he (y ▸ hb)) (fun y => m5 (y ▸ hb)))
    refine ⟨T4, ?_, f5.1, ?_⟩
    · unfold fX1_take
      simp only [chk, c1.1, c1.2.1, bP, c2.ok5, b2, E2.1, E2.2.1, E2.2.2.1, d1, f1, bL1]
    · rw [f3]
      by_cases hc : 60 < cnt (nwE A.1).2.2.1
      · rw [if_neg (show ¬ (nI (cnt (nwE A.1).2.2.1) ≤ (60 : Int32)) from nI_ge (a := 60) hc s1)]
        exact hQx (by simp [bad, hc]) T4 (h0.fresh hFall)
      · rw [if_pos (show nI (cnt (nwE A.1).2.2.1) ≤ (60 : Int32) from nI_le (b := 60) (by omega) (by decide))]
        have hWE : WE (nwE A.1) := WE_new hW.1.2 hd60 hf rfl hLV (by
          have : cnt (nwE A.1).2.2.1 ≤ 60 := by omega
          exact this)
        obtain ⟨own', ho'⟩ : ∃ own' : Nat → Nat × Nat, own' = fun z => if z = e then (1 + j0, 0) else if z = tv then (1 + j0, 1) else if z = tq then (1 + j0, 2) else if z = wv then (1 + j0, 3) else if z = wq then (1 + j0, 4) else if z = am then (1 + j0, 5) else own z := ⟨_, rfl⟩
        have hr := (h0.rename (own' := own') (fun z hz => by
          rw [ho']
          simp only []
          rw [if_neg (fun y : z = e => he (y ▸ hz)), if_neg (fun y : z = tv => m1 (y ▸ hz)), if_neg (fun y : z = tq => m2 (y ▸ hz)), if_neg (fun y : z = wv => m3 (y ▸ hz)), if_neg (fun y : z = wq => m4 (y ▸ hz)), if_neg (fun y : z = am => m5 (y ▸ hz))])).fresh hFall
        refine hQ (by simp [bad, hc, hf]) hWE T4 own' (e, tv, tq, wv, wq, am) hr ⟨f5, Y4, W4, f2, X4, ?_, ?_, ?_, ?_, ?_, ?_⟩
        · rw [ho']; exact if_pos rfl
        · rw [ho']; simp only []; rw [if_neg e1, if_pos trivial]
        · rw [ho']; simp only []; rw [if_neg e2, if_neg (fun z => a1 z.symm), if_pos trivial]
        · rw [ho']; simp only []; rw [if_neg e3, if_neg (fun z => a2 z.symm), if_neg (fun z => a5 z.symm), if_pos trivial]
        · rw [ho']; simp only []; rw [if_neg e4, if_neg (fun z => a3 z.symm), if_neg (fun z => a6 z.symm), if_neg (fun z => a8 z.symm), if_pos trivial]
        · rw [ho']; simp only []; rw [if_neg e5, if_neg (fun z => a4 z.symm), if_neg (fun z => a7 z.symm), if_neg (fun z => a9 z.symm), if_neg (fun z => a10 z.symm), if_pos trivial]
  · show (if xFaultI A.1 = (-1 : Int32) then _ else _)
    rw [if_neg (fun z => hf ((xFaultI_m1 hd60).mp z))]
    exact hQx (by simp [bad, hf]) T0 h0
end RCsec
