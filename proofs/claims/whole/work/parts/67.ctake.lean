/-! an entry of the landed program: what it counts -/
def pAmt (p : Pst) : Int32 := nI p.2.2.2 * (if p.2.1 = true then -nI p.2.2.1 else nI p.2.2.1)
def gts (ps : List Pst) (a : Nat) : Int32 := ps.foldl (fun s p => if p.1 = a then s + pAmt p else s) 0
def bts (ps : List Pst) : Int32 := ps.foldl (fun s p => s ||| ((1 : Int32) <<< (nI p.1 &&& 31))) 0
def cnt (ps : List Pst) : Nat := ps.foldl (fun s p => s + p.2.2.2) 0
theorem gts_snoc (ps : List Pst) (p : Pst) (a : Nat) : gts (ps ++ [p]) a = if p.1 = a then gts ps a + pAmt p else gts ps a := by
  simp [gts]
theorem bts_snoc (ps : List Pst) (p : Pst) : bts (ps ++ [p]) = bts ps ||| ((1 : Int32) <<< (nI p.1 &&& 31)) := by
  simp [bts]
theorem cnt_snoc (ps : List Pst) (p : Pst) : cnt (ps ++ [p]) = cnt ps + p.2.2.2 := by
  simp [cnt]
/-- an entry's cell: its two texts, its amounts -/
def EC (S : PS) (e tv wv am : Nat) : Prop := okP S e 2 = true ∧ sR S 20 e = some tv ∧ sR S 21 e = some wv ∧ sR S 22 e = some am ∧ okP S am 8 = true ∧ sN S am = 8
theorem EC.keep {F : Nat → Prop} {S T : PS} {e tv wv am : Nat} (h : EC S e tv wv am) (hF : FR F S T) (h1 : ¬ F e) (h2 : ¬ F am) : EC T e tv wv am := by
  obtain ⟨a1, a2, a3, a4, a5, a6⟩ := h
  obtain ⟨-, -, b3⟩ := hF e (okP_in a1).1
  obtain ⟨-, -, c3⟩ := hF am (okP_in a5).1
  obtain ⟨-, d2, -⟩ := b3 h1
  obtain ⟨-, -, e3, -⟩ := c3 h2
  exact ⟨hF.ok a1, (d2 _).trans a2, (d2 _).trans a3, (d2 _).trans a4, hF.ok a5, e3.trans a6⟩
theorem EC.timL {n e tv wv wq am cap : Nat} {S : PS} {W : List Nat} (hE : EC S e tv wv am) (hW : SG S wv wq cap W) (hl : ∀ c ∈ W, c < 127) : ∀ (r : List Nat) (i o t k : Nat), W.drop i = r → i ≤ W.length → o + r.length < 1000 → r.length < k → okc r →
    fX1_timesAt_L7 n k S e (nI t) (nI o) (nI i) = some (nI (t * tim r o)) := by
  obtain ⟨a1, a2, a3, a4, a5, a6⟩ := hE
  intro r
  induction r with
  | nil =>
    intro i o t k hdr hi _ hk _
    obtain ⟨k, rfl⟩ : ∃ k', k = k' + 1 := ⟨k - 1, by simp at hk; omega⟩
    have hie : i = W.length := drop_nil hdr hi
    unfold fX1_timesAt_L7
    simp only [chk, a1, a3, bP, hW.ok5, hW.size]
    rw [if_pos (by rw [hie]; exact Int32.le_refl _)]
    simp [tim]
  | cons c r ih =>
    intro i o t k hdr hi ho hk hok
    obtain ⟨k, rfl⟩ : ∃ k', k = k' + 1 := ⟨k - 1, by simp at hk; omega⟩
    obtain ⟨hlt, hg, hdr2⟩ := drop_next hdr
    have hdl := hW.lt
    have hc : c < 127 := drop_mem hdr hl c List.mem_cons_self
    simp only [List.length_cons] at ho hk
    obtain ⟨hok1, hok2⟩ := hok
    unfold fX1_timesAt_L7
    simp only [chk, a1, a3, bP, hW.ok5, hW.size]
    rw [if_neg (nI_ge hlt (by omega)), hW.atD hdr (by omega), hdI_cons]
    simp only [nI_1]
    have hrec : ∀ o', o' ≤ o + 1 → fX1_timesAt_L7 n k S e (nI t) (nI o') (nI (i + 1)) = some (nI (t * tim r o')) := fun o' ho' => ih (i + 1) o' t k hdr2 hlt (by omega) (by omega) hok2
    by_cases h40 : c = 40
    · rw [if_pos ((nI_40 hc).mpr h40), hrec _ (Nat.le_refl _)]
      simp only [tim, if_pos h40]
    · rw [if_neg (fun z => h40 ((nI_40 hc).mp z))]
      by_cases h41 : c = 41
      · rw [if_pos ((nI_41 hc).mpr h41)]
        by_cases h0 : o = 0
        · subst h0
          rw [if_pos (show nI 0 ≤ (0 : Int32) by decide)]
          obtain ⟨d, r', hr', hd1, hd2⟩ := hok1.1 h41
          unfold fX1_timesAt_J63
          have hdr4 : W.drop (i + 2) = d :: r' := by rw [drop_add hdr, hr']; rfl
          have e2 : nI i + (2 : Int32) = nI (i + 2) := nI_add i 2
          simp only [chk, a1, a3, bP, hW.ok5, hW.atD hdr (by omega), hdI_cons, if_pos ((nI_41 hc).mpr h41), e2, hW.atD hdr4 (by omega), bnd, nI_1]
          have e3 : nI d - (48 : Int32) = nI (d - 48) := by
            have : d = 48 + (d - 48) := by omega
            rw [this, nI_sub48, Nat.add_sub_cancel_left]
          rw [e3, nI_mul, ih (i + 1) 0 (t * (d - 48)) k hdr2 hlt (by omega) (by omega) hok2]
          simp only [tim, if_neg h40, if_pos h41, if_true]
          rw [hr']
          simp [Nat.mul_assoc]
        · rw [if_neg (nI_nle (by omega) (by omega))]
          obtain ⟨o, rfl⟩ : ∃ o', o = o' + 1 := ⟨o - 1, by omega⟩
          rw [nI_m1, nI_pred, hrec o (by omega)]
          simp only [tim, if_neg h40, if_pos h41, Nat.add_sub_cancel]
          rw [if_neg (by omega)]
      · rw [if_neg (fun z => h41 ((nI_41 hc).mp z))]
        unfold fX1_timesAt_J63
        simp only [chk, a1, a3, bP, hW.ok5, hW.atD hdr (by omega), hdI_cons, nI_1]
        rw [if_neg (fun z => h41 ((nI_41 hc).mp z)), hrec o (by omega)]
        simp only [tim, if_neg h40, if_neg h41]
theorem EC.tms {n e tv wv wq am cap : Nat} {S : PS} {W r : List Nat} {i : Nat} (hE : EC S e tv wv am) (hW : SG S wv wq cap W) (hl : ∀ c ∈ W, c < 127) (hdr : W.drop i = r) (hi : i ≤ W.length) (hok : okc r) (hn : cap < n) : fX1_timesAt n S e (nI i) = some (nI (tim r 0)) := by
  have hle := hW.le
  have hlt := hW.lt
  have hlen := drop_le hdr hi
  have h := EC.timL (n := n) hE hW hl r i 0 1 n hdr hi (by omega) (by omega) hok
  unfold fX1_timesAt
  rw [Nat.one_mul] at h
  have e0 : nI 0 = (0 : Int32) := nI_0
  have e1 : nI 1 = (1 : Int32) := rfl
  rw [e0, e1] at h
  rw [h]
  rfl
theorem nI_45 {a : Nat} (ha : a < 127) : nI a = (45 : Int32) ↔ a = 45 := nI_eqc ha 45 (by decide)
theorem EC.numL {n e tv wv wq am cap : Nat} {S : PS} {W : List Nat} (hE : EC S e tv wv am) (hW : SG S wv wq cap W) (hl : ∀ c ∈ W, c < 127) (x : Int32) : ∀ (r : List Nat) (i v k : Nat), W.drop i = r → r.length < k → i < 1500 →
    fX1_numberAt_L6 n k S e x (nI v) (nI i) = some (nI (nmv v r)) := by
  obtain ⟨a1, a2, a3, a4, a5, a6⟩ := hE
  intro r
  induction r with
  | nil =>
    intro i v k hdr hk hi
    obtain ⟨k, rfl⟩ : ∃ k', k = k' + 1 := ⟨k - 1, by simp at hk; omega⟩
    have hdl := hW.lt
    unfold fX1_numberAt_L6
    simp only [chk, a1, a3, bP, hW.ok5, hW.size]
    rw [if_pos (nI_le (drop_ge hdr) (by omega))]
    rfl
  | cons c r ih =>
    intro i v k hdr hk hi
    obtain ⟨k, rfl⟩ : ∃ k', k = k' + 1 := ⟨k - 1, by simp at hk; omega⟩
    obtain ⟨hlt, hg, hdr2⟩ := drop_next hdr
    have hdl := hW.lt
    have hc : c < 127 := drop_mem hdr hl c List.mem_cons_self
    simp only [List.length_cons] at hk
    unfold fX1_numberAt_L6
    simp only [chk, a1, a3, bP, hW.ok5, hW.size]
    rw [if_neg (nI_ge hlt (by omega)), hW.atD hdr (by omega), hdI_cons]
    simp only [isDig_nI c hc]
    by_cases hd : xDig c = true
    · have hd2 := xDig_iff.mp hd
      have e9 : (if xDig c = true then (1 : Int32) else 0) = 1 := if_pos hd
      rw [e9, if_neg (show ¬ ((1 : Int32) = 0) by decide)]
      simp only [bnd, nI_1]
      have e3 : (10 : Int32) * nI v + nI c - (48 : Int32) = nI (10 * v + (c - 48)) := by
        have e4 : (10 : Int32) * nI v = nI (10 * v) := nI_mul 10 v
        have : c = (c - 48) + 48 := by omega
        rw [e4, this, nI_add, ← Nat.add_assoc, ← nI_add, Nat.add_sub_cancel]
        exact Int32.add_sub_cancel _ 48
      rw [e3, ih (i + 1) _ k hdr2 (by omega) (by omega)]
      simp only [nmv, if_pos hd]
    · have e9 : (if xDig c = true then (1 : Int32) else 0) = 0 := if_neg hd
      rw [e9, if_pos rfl]
      simp only [nmv, if_neg hd]
theorem EC.num {n e tv wv wq am cap : Nat} {S : PS} {W r : List Nat} {c i : Nat} (hE : EC S e tv wv am) (hW : SG S wv wq cap W) (hl : ∀ c ∈ W, c < 127) (hdr : W.drop i = c :: r) (hn : cap < n) : fX1_numberAt n S e (nI i) = some (if decide (r.getD 0 0 = 45) = true then -nI (nmv 0 (r.drop 1)) else nI (nmv 0 (r.drop 1))) := by
  have hle := hW.le
  have hlt := hW.lt
  obtain ⟨hlt, -, hdr2⟩ := drop_next hdr
  have hdr3 : W.drop (i + 2) = r.drop 1 := by rw [drop_add hdr]; rfl
  have hlen := drop_le hdr2 hlt
  have h := EC.numL (n := n) hE hW hl (nI i) (r.drop 1) (i + 2) 0 n hdr3 (by rw [List.length_drop]; omega) (by omega)
  obtain ⟨a1, a2, a3, a4, a5, a6⟩ := hE
  have e0 : nI 0 = (0 : Int32) := nI_0
  have e2 : nI i + (2 : Int32) = nI (i + 2) := nI_add i 2
  rw [e0] at h
  unfold fX1_numberAt
  simp only [bnd, e2, h, bL1, chk, a1, a3, bP, hW.ok5, nI_1, hW.atD hdr2 (by omega)]
  cases r with
  | nil => rfl
  | cons s r =>
    have hs : s < 127 := drop_mem hdr2 hl s List.mem_cons_self
    rw [hdI_cons]
    by_cases h45 : s = 45
    · rw [if_pos ((nI_45 hs).mpr h45)]
      simp [h45]
    · rw [if_neg (fun z => h45 ((nI_45 hs).mp z))]
      simp [h45]
/-- what an entry counts, in its cells -/
def EA (S : PS) (e am : Nat) (ps : List Pst) : Prop := sI S 23 e = bts ps ∧ ∀ a, a < 8 → sA S am a = gts ps a
theorem EA.keep {F : Nat → Prop} {S T : PS} {e tv wv am : Nat} {ps : List Pst} (hE : EC S e tv wv am) (h : EA S e am ps) (hF : FR F S T) (h1 : ¬ F e) (h2 : ¬ F am) : EA T e am ps := by
  obtain ⟨a1, a2, a3, a4, a5, a6⟩ := hE
  obtain ⟨-, -, b3⟩ := hF e (okP_in a1).1
  obtain ⟨-, -, c3⟩ := hF am (okP_in a5).1
  obtain ⟨d1, -⟩ := b3 h1
  obtain ⟨-, -, -, e4, -⟩ := c3 h2
  exact ⟨(d1 _).trans h.1, fun a ha => by rw [e4]; exact h.2 a ha⟩
theorem tim_skip {c : Nat} (h : xAcc c = true) (r : List Nat) (o : Nat) : tim (c :: r) o = tim r o := by
  have := xAcc_iff.mp h
  simp only [tim]
  rw [if_neg (by omega), if_neg (by omega)]
theorem EC.cntP {n e tv wv wq am : Nat} {S : PS} {W r : List Nat} {c i : Nat} {ps : List Pst} (hE : EC S e tv wv am) (hW : SG S wv wq 60 W) (hq : ¬ (wv = e ∨ wv = am)) (hq2 : ¬ (wq = e ∨ wq = am)) (hl : ∀ c ∈ W, c < 127) (hdr : W.drop i = c :: r) (hc : xAcc c = true) (hok : okc (c :: r)) (hn : 60 < n) (hA : EA S e am ps) (hC : sI S 24 e = nI (cnt ps)) :
    ∃ T, fX1_countPosting n S e (nI i) = some T ∧ EA T e am (ps ++ [(c - 97, decide (r.getD 0 0 = 45), nmv 0 (r.drop 1), tim r 0)]) ∧ sI T 24 e = nI (cnt (ps ++ [(c - 97, decide (r.getD 0 0 = 45), nmv 0 (r.drop 1), tim r 0)])) ∧ FR (fun z => z = e ∨ z = am) S T ∧ EC T e tv wv am ∧ ∀ f, f ≠ 23 → f ≠ 24 → sI T f e = sI S f e := by
  have hE0 := hE
  obtain ⟨a1, a2, a3, a4, a5, a6⟩ := hE
  obtain ⟨hlt, -, hdr2⟩ := drop_next hdr
  have hdl := hW.lt
  have hcc := xAcc_iff.mp hc
  have hea : e ≠ am := okP_ne a1 a5 (by decide)
  have ht := EC.tms (n := n) hE0 hW hl hdr (by omega) hok hn
  rw [tim_skip hc] at ht
  obtain ⟨a, ha⟩ : ∃ a, a = c - 97 := ⟨_, rfl⟩
  have e97 : nI c - (97 : Int32) = nI a := by
    have : c = a + 97 := by omega
    rw [this, ← nI_add]
    exact Int32.add_sub_cancel _ 97
  obtain ⟨w1, hw1⟩ : ∃ w1, w1 = pI S 24 e (sI S 24 e + nI (tim r 0)) := ⟨_, rfl⟩
  obtain ⟨w2, hw2⟩ : ∃ w2, w2 = pI w1 23 e (sI w1 23 e ||| ((1 : Int32) <<< (nI a &&& 31))) := ⟨_, rfl⟩
  have hE2 : EC w2 e tv wv am := by rw [hw2, hw1]; exact ⟨a1, a2, a3, a4, a5, a6⟩
  have hF1 : FR (fun z => z = e ∨ z = am) S w1 := by rw [hw1]; exact FR.pI.mono (fun z => Or.inl)
  have hF2 : FR (fun z => z = e ∨ z = am) w1 w2 := by rw [hw2]; exact FR.pI.mono (fun z => Or.inl)
  have hW2 : SG w2 wv wq 60 W := (hW.keep hF1 hq hq2).keep hF2 hq hq2
  have hnum := EC.num (n := n) hE2 hW2 hl hdr hn
  obtain ⟨x, hx⟩ : ∃ x, x = nI (tim r 0) * (if decide (r.getD 0 0 = 45) = true then -nI (nmv 0 (r.drop 1)) else nI (nmv 0 (r.drop 1))) := ⟨_, rfl⟩
  refine ⟨pA w2 am a (sA w2 am a + x), ?_, ⟨?_, ?_⟩, ?_, (hF1.trans hF2).trans (FR.pA.mono (fun z => Or.inr)), ?_, fun f h1 h2 => ?_⟩
  · unfold fX1_countPosting
    simp only [chk, a1, a3, bP, hW.ok5, hW.atD hdr (by omega), hdI_cons, bnd, e97, ht]
    rw [← hw1]
    have o1 : okP w1 e 2 = true := hF1.ok a1
    simp only [o1]
    rw [← hw2]
    obtain ⟨b1, b2, b3, b4, b5, b6⟩ := hE2
    rw [if_neg (nI_pos (by omega))]
    simp only [b1, b4, b5, b6]
    rw [if_neg (nI_ge (show a < 8 by omega) (by decide)), inB_nI (show a < 8 by omega) (by decide), nI_clamp (by omega)]
    simp only [hnum]
    rw [← hx]
  · show sI w2 23 e = _
    rw [bts_snoc, hw2, pI_I, hw1, pI_Ig (by decide), hA.1, ha]
  · intro b hb
    rw [pA_A, gts_snoc]
    have e1 : sA w2 am = sA S am := by rw [hw2, hw1]; rfl
    unfold upd
    by_cases h1 : b = a
    · rw [if_pos h1, if_pos (by rw [h1, ha]), e1, ← h1, hA.2 b hb, hx]
      rfl
    · rw [if_neg h1, if_neg (fun z => h1 (by rw [ha]; exact z.symm)), e1, hA.2 b hb]
  · show sI w2 24 e = _
    rw [cnt_snoc, hw2, pI_Ig (by decide), hw1, pI_I, hC, nI_add]
  · obtain ⟨b1, b2, b3, b4, b5, b6⟩ := hE2
    exact ⟨b1, b2, b3, b4, b5, b6⟩
  · show sI w2 f e = _
    rw [hw2, pI_Ig h1, hw1, pI_Ig h2]
theorem EC.takeL {n e tv wv wq am : Nat} {W : List Nat} (hq : ¬ (wv = e ∨ wv = am)) (hq2 : ¬ (wq = e ∨ wq = am)) (hl : ∀ c ∈ W, c < 127) (hn : 60 < n) : ∀ (r : List Nat) (i k : Nat) (S : PS) (ps : List Pst), W.drop i = r → i ≤ W.length → r.length < k → okc r → EC S e tv wv am → SG S wv wq 60 W → EA S e am ps → sI S 24 e = nI (cnt ps) →
    ∃ T, fX1_take_L21 n k S e (nI i) = some T ∧ EA T e am (ps ++ scn r) ∧ sI T 24 e = nI (cnt (ps ++ scn r)) ∧ FR (fun z => z = e ∨ z = am) S T ∧ EC T e tv wv am ∧ ∀ f, f ≠ 23 → f ≠ 24 → sI T f e = sI S f e := by
  intro r
  induction r with
  | nil =>
    intro i k S ps hdr hi hk _ hE hW hA hC
    obtain ⟨k, rfl⟩ : ∃ k', k = k' + 1 := ⟨k - 1, by simp at hk; omega⟩
    have hie : i = W.length := drop_nil hdr hi
    refine ⟨S, ?_, by simpa [scn] using hA, by simpa [scn] using hC, FR.rf, hE, fun _ _ _ => rfl⟩
    obtain ⟨a1, a2, a3, a4, a5, a6⟩ := hE
    unfold fX1_take_L21
    simp only [chk, a1, a3, bP, hW.ok5, hW.size]
    rw [if_pos (by rw [hie]; exact Int32.le_refl _)]
  | cons c r ih =>
    intro i k S ps hdr hi hk hok hE hW hA hC
    obtain ⟨k, rfl⟩ : ∃ k', k = k' + 1 := ⟨k - 1, by simp at hk; omega⟩
    obtain ⟨hlt, hg, hdr2⟩ := drop_next hdr
    have hdl := hW.lt
    have hc127 : c < 127 := drop_mem hdr hl c List.mem_cons_self
    simp only [List.length_cons] at hk
    have hE0 := hE
    obtain ⟨a1, a2, a3, a4, a5, a6⟩ := hE
    unfold fX1_take_L21
    simp only [chk, a1, a3, bP, hW.ok5, hW.size]
    rw [if_neg (nI_ge hlt (by omega)), hW.atD hdr (by omega), hdI_cons]
    simp only [isAcc_nI c hc127, nI_1]
    by_cases hc : xAcc c = true
    · obtain ⟨T, t1, t2, t3, t4, t5, t6⟩ := EC.cntP (n := n) hE0 hW hq hq2 hl hdr hc hok hn hA hC
      obtain ⟨U, u1, u2, u3, u4, u5, u6⟩ := ih (i + 1) k T _ hdr2 hlt (by omega) hok.2 t5 (hW.keep t4 hq hq2) t2 t3
      have e9 : (if xAcc c = true then (1 : Int32) else 0) = 1 := if_pos hc
      have es : scn (c :: r) = [(c - 97, decide (r.getD 0 0 = 45), nmv 0 (r.drop 1), tim r 0)] ++ scn r := by simp only [scn, if_pos hc]; rfl
      rw [es, ← List.append_assoc, e9, if_neg (show ¬ ((1 : Int32) = 0) by decide), t1]
      exact ⟨U, u1, u2, u3, t4.trans u4, u5, fun f a b => (u6 f a b).trans (t6 f a b)⟩
    · obtain ⟨U, u1, u2, u3, u4, u5, u6⟩ := ih (i + 1) k S ps hdr2 hlt (by omega) hok.2 hE0 hW hA hC
      have e9 : (if xAcc c = true then (1 : Int32) else 0) = 0 := if_neg hc
      have es : scn (c :: r) = scn r := by simp only [scn, if_neg hc]
      rw [es, e9, if_pos rfl]
      exact ⟨U, u1, u2, u3, u4, u5, u6⟩
