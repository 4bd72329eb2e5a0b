/-! an entry, spread: each posting as often as it is taken -/
def ptx (p : Pst) : List Nat := (97 + p.1) :: (if p.2.1 = true then 45 else 43) :: dgs p.2.2.1
def spl (ps : List Pst) : List (List Nat) := ps.flatMap (fun p => List.replicate p.2.2.2 (ptx p))
def sprd (ps : List Pst) : List Nat := jn (spl ps)
theorem jsn (l : List (List Nat)) (y : List Nat) : jn (l ++ [y]) = jn l ++ ((if l = [] then [] else [32]) ++ y) := by
  by_cases h : l = []
  · subst h; rfl
  · rw [jn_app h (by simp), if_neg h]
    rfl
theorem jn_ne {l : List (List Nat)} (h : ∀ y ∈ l, y ≠ []) (hl : l ≠ []) : jn l ≠ [] := by
  cases l with
  | nil => exact absurd rfl hl
  | cons y l =>
    have hy := h y List.mem_cons_self
    cases l with
    | nil => exact hy
    | cons z l =>
      rw [jn_cons (by simp)]
      simp
theorem jn_len : ∀ (l : List (List Nat)), (∀ y ∈ l, y.length ≤ 5) → (jn l).length ≤ 6 * l.length := by
  intro l
  induction l with
  | nil => exact fun _ => Nat.le_refl _
  | cons y l ih =>
    intro h
    have hy := h y List.mem_cons_self
    have := ih (fun z hz => h z (List.mem_cons_of_mem _ hz))
    by_cases hl : l = []
    · subst hl
      simp [jn]
      omega
    · rw [jn_cons hl, List.length_append, List.length_cons, List.length_cons]
      omega
theorem jn_len1 : ∀ (l : List (List Nat)), l ≠ [] → (∀ y ∈ l, y.length ≤ 5) → (jn l).length + 1 ≤ 6 * l.length := by
  intro l
  induction l with
  | nil => exact fun h => absurd rfl h
  | cons y l ih =>
    intro _ h
    have hy := h y List.mem_cons_self
    by_cases hl : l = []
    · subst hl
      simp [jn]
      omega
    · have := ih hl (fun z hz => h z (List.mem_cons_of_mem _ hz))
      rw [jn_cons hl, List.length_append, List.length_cons, List.length_cons]
      omega
theorem EC.copyD {n e tv wv wq am cap v q vc : Nat} {W : List Nat} {x1 x3 x4 : Int32} (hl : ∀ c ∈ W, c < 127) (hf : ∀ z, (z = v ∨ z = q) → z ≠ e ∧ z ≠ am ∧ z ≠ wv ∧ z ≠ wq) : ∀ (ds r : List Nat) (i k : Nat) (S : PS) (y : List Nat), nd r → W.drop i = ds ++ r → i ≤ W.length → (∀ z ∈ ds, xDig z = true) → ds.length < k → EC S e tv wv am → SG S wv wq cap W → SG S v q vc y → y.length + ds.length ≤ vc →
    ∃ T, fX1_spreadPosting_L66 n k S e x1 v x3 x4 (nI i) = some T ∧ SG T v q vc (y ++ ds) ∧ FR (fun z => z = v ∨ z = q) S T := by
  intro ds
  induction ds with
  | nil =>
    intro r i k S y hr hdr hi _ hk hE hW hv hc
    obtain ⟨k, rfl⟩ : ∃ k', k = k' + 1 := ⟨k - 1, by simp at hk; omega⟩
    have hdl := hW.lt
    obtain ⟨a1, a2, a3, a4, a5, a6⟩ := hE
    refine ⟨S, ?_, by simpa using hv, FR.rf⟩
    rw [List.nil_append] at hdr
    unfold fX1_spreadPosting_L66
    simp only [chk, a1, a3, bP, hW.ok5, hW.size]
    by_cases hle : W.length ≤ i
    · rw [if_pos (nI_le hle (by omega))]
    · rw [if_neg (nI_ge (by omega) (by omega)), hW.atD hdr (by omega)]
      simp only []
      rw [isDig_hd (drop_mem hdr hl)]
      have : hdD r = false := by
        cases r with
        | nil => rfl
        | cons c r => exact hr c r rfl
      rw [this]
      rfl
  | cons z zs ih =>
    intro r i k S y hr hdr hi hds hk hE hW hv hc
    obtain ⟨k, rfl⟩ : ∃ k', k = k' + 1 := ⟨k - 1, by simp at hk; omega⟩
    have hdl := hW.lt
    rw [List.cons_append] at hdr
    obtain ⟨hlt, hg, hdr2⟩ := drop_next hdr
    simp only [List.length_cons] at hk hc
    have hz := hds z List.mem_cons_self
    have hz2 := xDig_iff.mp hz
    obtain ⟨T, t1, t2, t3⟩ := hv.add z (by omega)
    have hE2 := hE.keep t3 (fun h => (hf _ h).1 rfl) (fun h => (hf _ h).2.1 rfl)
    have hW2 := hW.keep t3 (fun h => (hf _ h).2.2.1 rfl) (fun h => (hf _ h).2.2.2 rfl)
    obtain ⟨U, u1, u2, u3⟩ := ih r (i + 1) k T (y ++ [z]) hr hdr2 hlt (fun c hc => hds c (List.mem_cons_of_mem _ hc)) (by omega) hE2 hW2 t2 (by simp; omega)
    refine ⟨U, ?_, u2.sub (by simp), t3.trans u3⟩
    obtain ⟨a1, a2, a3, a4, a5, a6⟩ := hE
    unfold fX1_spreadPosting_L66
    simp only [chk, a1, a3, bP, hW.ok5, hW.size]
    rw [if_neg (nI_ge hlt (by omega)), hW.atD hdr (by omega), hdI_cons]
    simp only []
    rw [isDig_nI z (by omega), hz]
    simp only [if_true]
    rw [if_neg (show ¬ ((1 : Int32) = 0) by decide)]
    simp only [hv.ok5, t1, nI_1]
    exact u1
theorem EC.spPL {n e tv wv wq am cap v q : Nat} {W : List Nat} (hl : ∀ c ∈ W, c < 127) (hf : ∀ z, (z = v ∨ z = q) → z ≠ e ∧ z ≠ am ∧ z ≠ wv ∧ z ≠ wq) {i c s val : Nat} {r' : List Nat} (hdr : W.drop i = c :: s :: (dgs val ++ r')) (hr : nd r') (hval : val < 1000) (hn : 60 < n) {times : Nat} (htm : times ≤ 60) : ∀ (m t k : Nat) (S : PS) (l : List (List Nat)), t + m = times → m < k → (∀ y ∈ l, y.length ≤ 5 ∧ y ≠ []) → l.length + m ≤ 60 → EC S e tv wv am → SG S wv wq cap W → SG S v q 360 (jn l) →
    ∃ T, fX1_spreadPosting_L9 n k S e (nI i) v (nI times) (nI t) = some T ∧ SG T v q 360 (jn (l ++ List.replicate m (c :: s :: dgs val))) ∧ FR (fun z => z = v ∨ z = q) S T := by
  intro m
  induction m with
  | zero =>
    intro t k S l ht hk hly hlm hE hW hv
    obtain ⟨k, rfl⟩ : ∃ k', k = k' + 1 := ⟨k - 1, by omega⟩
    refine ⟨S, ?_, by simpa using hv, FR.rf⟩
    unfold fX1_spreadPosting_L9
    rw [if_pos (nI_le (by omega) (by omega))]
  | succ m ih =>
    intro t k S l ht hk hly hlm hE hW hv
    obtain ⟨k, rfl⟩ : ∃ k', k = k' + 1 := ⟨k - 1, by omega⟩
    have hdl := hW.lt
    obtain ⟨hlt, -, hdr2⟩ := drop_next hdr
    obtain ⟨hlt2, -, hdr3⟩ := drop_next hdr2
    have hjl := jn_len l (fun y hy => (hly y hy).1)
    have hvl := hv.lt
    have htl : (c :: s :: dgs val).length ≤ 5 := by
      have := (dgs_len val hval).2
      simp only [List.length_cons]; omega
    -- the blank, if one is due
    have hsep : ∃ T1, SG T1 v q 360 (jn l ++ (if l = [] then [] else [32])) ∧ FR (fun z => z = v ∨ z = q) S T1 ∧ fX1_spreadPosting_L9 n (k + 1) S e (nI i) v (nI times) (nI t) = fX1_spreadPosting_J35 n (fX1_spreadPosting_L9 n k) T1 e (nI i) v (nI times) (nI t) := by
      have hun : fX1_spreadPosting_L9 n (k + 1) S e (nI i) v (nI times) (nI t) = (if nI times ≤ nI t then some S else if (60 : Int32) ≤ nI t then some S else chk (okP S v 5) (bP (fX4_size S v) (fun r23 => if r23 ≤ 0 then fX1_spreadPosting_J35 n (fX1_spreadPosting_L9 n k) S e (nI i) v (nI times) (nI t) else chk (okP S v 5) (bP (fX4_add S v (32 : Int32)) (fun w32 => fX1_spreadPosting_J35 n (fX1_spreadPosting_L9 n k) w32 e (nI i) v (nI times) (nI t)))))) := rfl
      rw [hun, if_neg (nI_ge (by omega) (by omega)), if_neg (show ¬ ((60 : Int32) ≤ nI t) from nI_ge (b := 60) (by omega) (by decide))]
      simp only [chk, hv.ok5, hv.size, bP]
      by_cases h0 : l = []
      · subst h0
        refine ⟨S, by simpa using hv, FR.rf, ?_⟩
        rw [if_pos (by decide)]
      · have hp := List.length_pos_iff.mpr (jn_ne (fun y hy => (hly y hy).2) h0)
        rw [if_neg (nI_nle hp (by omega))]
        obtain ⟨T1, t1, t2, t3⟩ := hv.add 32 (by omega)
        have e32 : nI 32 = (32 : Int32) := rfl
        rw [e32] at t1
        refine ⟨T1, by rw [if_neg h0]; exact t2, t3, ?_⟩
        rw [t1]
    obtain ⟨T1, s1, s2, s3⟩ := hsep
    rw [s3]
    have hsl : (jn l ++ (if l = [] then [] else [32])).length ≤ 6 * l.length := by
      by_cases h0 : l = []
      · subst h0; simp [jn]
      · have := jn_len1 l h0 (fun y hy => (hly y hy).1)
        rw [if_neg h0, List.length_append]
        simpa using this
    have hE1 := hE.keep s2 (fun h => (hf _ h).1 rfl) (fun h => (hf _ h).2.1 rfl)
    have hW1 := hW.keep s2 (fun h => (hf _ h).2.2.1 rfl) (fun h => (hf _ h).2.2.2 rfl)
    simp only [List.length_cons] at htl
    obtain ⟨T2, b1, b2, b3⟩ := s1.add c (by omega)
    have hE2 := hE1.keep b3 (fun h => (hf _ h).1 rfl) (fun h => (hf _ h).2.1 rfl)
    have hW2 := hW1.keep b3 (fun h => (hf _ h).2.2.1 rfl) (fun h => (hf _ h).2.2.2 rfl)
    obtain ⟨T3, c1, c2, c3⟩ := b2.add s (by rw [List.length_append]; simp only [List.length_cons, List.length_nil]; omega)
    have hE3 := hE2.keep c3 (fun h => (hf _ h).1 rfl) (fun h => (hf _ h).2.1 rfl)
    have hW3 := hW2.keep c3 (fun h => (hf _ h).2.2.1 rfl) (fun h => (hf _ h).2.2.2 rfl)
    obtain ⟨T4, d1, d2, d3⟩ := EC.copyD (n := n) (x1 := nI i) (x3 := nI times) (x4 := nI t) hl hf (dgs val) r' (i + 1 + 1) n T3 _ hr hdr3 (by omega) (dgs_dig val hval) (by omega) hE3 hW3 c2 (by rw [List.length_append, List.length_append]; simp only [List.length_cons, List.length_nil]; omega)
    have hE4 := hE3.keep d3 (fun h => (hf _ h).1 rfl) (fun h => (hf _ h).2.1 rfl)
    have hW4 := hW3.keep d3 (fun h => (hf _ h).2.2.1 rfl) (fun h => (hf _ h).2.2.2 rfl)
    have d2' : SG T4 v q 360 (jn (l ++ [c :: s :: dgs val])) := d2.sub (by rw [jsn]; simp)
    obtain ⟨U, u1, u2, u3⟩ := ih (t + 1) k T4 (l ++ [c :: s :: dgs val]) (by omega) (by omega) (fun y hy => by
      rcases List.mem_append.mp hy with hy | hy
      · exact hly y hy
      · rw [List.mem_singleton.mp hy]
        exact ⟨by simp only [List.length_cons]; omega, by simp⟩) (by simp; omega) hE4 hW4 d2'
    refine ⟨U, ?_, u2.sub (by rw [List.replicate_succ]; simp), (((s2.trans b3).trans c3).trans d3).trans u3⟩
    have e2 : nI i + (2 : Int32) = nI (i + 1 + 1) := nI_add i 2
    unfold fX1_spreadPosting_J35
    simp only [chk, hE1.1, hE1.2.2.1, bP, hW1.ok5, hW1.atD hdr (by omega), hdI_cons, s1.ok5, b1, hE2.1, hE2.2.2.1, hW2.ok5, nI_1, hW2.atD hdr2 (by omega), b2.ok5, c1, bnd, e2, d1, bL1]
    exact u1
theorem sprL_app (a b : List Pst) : spl (a ++ b) = spl a ++ spl b := by simp [spl]
theorem EC.spL {n e tv wv wq am v q : Nat} {W : List Nat} (hl : ∀ c ∈ W, c < 127) (hf : ∀ z, (z = v ∨ z = q) → z ≠ e ∧ z ≠ am ∧ z ≠ wv ∧ z ≠ wq) (hn : 60 < n) : ∀ (r : List Nat) (i k : Nat) (S : PS) (l : List (List Nat)), W.drop i = r → i ≤ W.length → r.length < k → okc r → (∀ y ∈ l, y.length ≤ 5 ∧ y ≠ []) → l.length + cnt (scn r) ≤ 60 → EC S e tv wv am → SG S wv wq 60 W → SG S v q 360 (jn l) →
    ∃ T, fX1_spreadInto_L6 n k S e v (nI i) = some T ∧ SG T v q 360 (jn (l ++ spl (scn r))) ∧ FR (fun z => z = v ∨ z = q) S T := by
  intro r
  induction r with
  | nil =>
    intro i k S l hdr hi hk _ _ _ hE hW hv
    obtain ⟨k, rfl⟩ : ∃ k', k = k' + 1 := ⟨k - 1, by simp at hk; omega⟩
    have hie : i = W.length := drop_nil hdr hi
    obtain ⟨a1, a2, a3, a4, a5, a6⟩ := hE
    refine ⟨S, ?_, by simpa [scn, spl] using hv, FR.rf⟩
    unfold fX1_spreadInto_L6
    simp only [chk, a1, a3, bP, hW.ok5, hW.size]
    rw [if_pos (by rw [hie]; exact Int32.le_refl _)]
  | cons c r ih =>
    intro i k S l hdr hi hk hok hly hlm hE hW hv
    obtain ⟨k, rfl⟩ : ∃ k', k = k' + 1 := ⟨k - 1, by simp at hk; omega⟩
    obtain ⟨hlt, hg, hdr2⟩ := drop_next hdr
    have hdl := hW.lt
    have hc127 : c < 127 := drop_mem hdr hl c List.mem_cons_self
    simp only [List.length_cons] at hk
    have hun : fX1_spreadInto_L6 n (k + 1) S e v (nI i) = chk (okP S e 2) (bP (sR S 21 e) (fun q8 => chk (okP S q8 5) (bP (fX4_size S q8) (fun r11 => if r11 ≤ nI i then some S else chk (okP S e 2) (bP (sR S 21 e) (fun q18 => chk (okP S q18 5) (bP (fX4_at S q18 (nI i)) (fun r22 => bP (fX6_isAccount r22) (fun r25 => if r25 = 0 then fX1_spreadInto_L6 n k S e v (nI i + (1 : Int32)) else chk (okP S e 2) (bP (fX1_spreadPosting n S e (nI i) v) (fun w34 => fX1_spreadInto_L6 n k w34 e v (nI i + (1 : Int32))))))))))))) := rfl
    rw [hun]
    simp only [chk, hE.1, hE.2.2.1, bP, hW.ok5, hW.size]
    rw [if_neg (nI_ge hlt (by omega)), hW.atD hdr (by omega), hdI_cons]
    simp only [isAcc_nI c hc127, nI_1]
    by_cases hc : xAcc c = true
    · obtain ⟨s, val, r', hr', hnd, hs, hval⟩ := hok.1.2 hc
      have hcc := xAcc_iff.mp hc
      have e9 : (if xAcc c = true then (1 : Int32) else 0) = 1 := if_pos hc
      have hnm : nmv 0 (r.drop 1) = val := by
        rw [hr']
        show nmv 0 (dgs val ++ r') = val
        rw [nmv_app (dgs val) 0 r' (dgs_dig val hval) hnd, dgs_val val hval]
      have hs0 : r.getD 0 0 = s := by rw [hr']; rfl
      have es : scn (c :: r) = (c - 97, decide (s = 45), val, tim r 0) :: scn r := by simp only [scn, if_pos hc, hnm, hs0]
      have ep : ptx (c - 97, decide (s = 45), val, tim r 0) = c :: s :: dgs val := by
        unfold ptx
        have : 97 + (c - 97) = c := by omega
        simp only [this]
        rcases hs with rfl | rfl <;> rfl
      rw [es] at hlm ⊢
      have hcnt : cnt ((c - 97, decide (s = 45), val, tim r 0) :: scn r) = tim r 0 + cnt (scn r) := by
        have key : ∀ (ps : List Pst) (a : Nat), ps.foldl (fun s p => s + p.2.2.2) a = a + ps.foldl (fun s p => s + p.2.2.2) 0 := by
          intro ps
          induction ps with
          | nil => exact fun a => rfl
          | cons p ps ih => intro a; rw [List.foldl_cons, List.foldl_cons, ih, ih (0 + p.2.2.2)]; omega
        show List.foldl _ (0 + tim r 0) (scn r) = _
        rw [key]
        unfold cnt
        omega
      rw [hcnt] at hlm
      have hdr' : W.drop i = c :: s :: (dgs val ++ r') := by rw [hdr, hr']
      obtain ⟨T, t1, t2, t3⟩ := EC.spPL (n := n) hl hf hdr' hnd hval hn (times := tim r 0) (by omega) (tim r 0) 0 n S l (by omega) (by omega) hly (by omega) hE hW hv
      have hE2 := hE.keep t3 (fun h => (hf _ h).1 rfl) (fun h => (hf _ h).2.1 rfl)
      have hW2 := hW.keep t3 (fun h => (hf _ h).2.2.1 rfl) (fun h => (hf _ h).2.2.2 rfl)
      have htl := (dgs_len val hval).2
      obtain ⟨U, u1, u2, u3⟩ := ih (i + 1) k T _ hdr2 hlt (by omega) hok.2 (fun y hy => by
        rcases List.mem_append.mp hy with hy | hy
        · exact hly y hy
        · rw [List.eq_of_mem_replicate hy]
          exact ⟨by simp only [List.length_cons]; omega, by simp⟩) (by simp; omega) hE2 hW2 t2
      have hpost : fX1_spreadPosting n S e (nI i) v = some T := by
        unfold fX1_spreadPosting
        have htm := EC.tms (n := n) hE hW hl hdr (by omega) hok hn
        rw [tim_skip hc] at htm
        have e0 : nI 0 = (0 : Int32) := nI_0
        rw [e0] at t1
        simp only [chk, hE.1, htm, bP, t1, bL1]
      rw [e9, if_neg (show ¬ ((1 : Int32) = 0) by decide), hpost]
      refine ⟨U, u1, u2.sub ?_, t3.trans u3⟩
      have : spl ((c - 97, decide (s = 45), val, tim r 0) :: scn r) = List.replicate (tim r 0) (c :: s :: dgs val) ++ spl (scn r) := by
        simp only [spl, List.flatMap_cons, ep]
      rw [this, List.append_assoc]
    · obtain ⟨U, u1, u2, u3⟩ := ih (i + 1) k S l hdr2 hlt (by omega) hok.2 hly (by
        have es : scn (c :: r) = scn r := by simp only [scn, if_neg hc]
        rwa [es] at hlm) hE hW hv
      have e9 : (if xAcc c = true then (1 : Int32) else 0) = 0 := if_neg hc
      have es : scn (c :: r) = scn r := by simp only [scn, if_neg hc]
      rw [es, e9, if_pos rfl]
      exact ⟨U, u1, u2, u3⟩
theorem EC.spread {n e tv wv wq am v q : Nat} {W d : List Nat} {S : PS} (hl : ∀ c ∈ W, c < 127) (hf : ∀ z, (z = v ∨ z = q) → z ≠ e ∧ z ≠ am ∧ z ≠ wv ∧ z ≠ wq) (hn : 60 < n) (hok : okc W) (hc : cnt (scn W) ≤ 60) (hE : EC S e tv wv am) (hW : SG S wv wq 60 W) (hv : SG S v q 360 d) :
    ∃ T, fX1_spreadInto n S e v = some T ∧ SG T v q 360 (sprd (scn W)) ∧ FR (fun z => z = v ∨ z = q) S T := by
  obtain ⟨T1, a1, a2, a3⟩ := hv.empty
  have hE2 := hE.keep a3 (fun h => (hf _ h).1 rfl) (fun h => (hf _ h).2.1 rfl)
  have hW2 := hW.keep a3 (fun h => (hf _ h).2.2.1 rfl) (fun h => (hf _ h).2.2.2 rfl)
  have hle := hW.le
  obtain ⟨U, u1, u2, u3⟩ := EC.spL (n := n) hl hf hn W 0 n T1 [] rfl (Nat.zero_le _) (by omega) hok (fun _ h => nomatch h) (by simpa using hc) hE2 hW2 a2
  refine ⟨U, ?_, u2, a3.trans u3⟩
  have e0 : nI 0 = (0 : Int32) := nI_0
  rw [e0] at u1
  unfold fX1_spreadInto
  simp only [chk, hv.ok5, a1, bP, u1, bL1]
