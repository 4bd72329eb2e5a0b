/-! the world of the landed program: a pool of cells, as functions by address (kinds: 0 ArrayList, 1 Audit, 2 Entry, 3 Reader, 4 Rule, 5 Signs, 6 Postlint, 8 int[], 10 Object[]); field i of kind k has the number 10 k + i -/
abbrev PS : Type := List Nat × (Nat → Nat) × (Nat → Nat → Int32) × (Nat → Nat → Option Nat) × (Nat → Nat) × (Nat → Nat → Int32) × (Nat → Nat → Option Nat)
def sL (S : PS) : List Nat := S.1
def sK (S : PS) : Nat → Nat := S.2.1
def sI (S : PS) : Nat → Nat → Int32 := S.2.2.1
def sR (S : PS) : Nat → Nat → Option Nat := S.2.2.2.1
def sN (S : PS) : Nat → Nat := S.2.2.2.2.1
def sA (S : PS) : Nat → Nat → Int32 := S.2.2.2.2.2.1
def sO (S : PS) : Nat → Nat → Option Nat := S.2.2.2.2.2.2
def pI (S : PS) (f a : Nat) (v : Int32) : PS := (sL S, sK S, fun g b => if g = f ∧ b = a then v else sI S g b, sR S, sN S, sA S, sO S)
def pR (S : PS) (f a : Nat) (v : Option Nat) : PS := (sL S, sK S, sI S, fun g b => if g = f ∧ b = a then v else sR S g b, sN S, sA S, sO S)
def pA (S : PS) (a i : Nat) (v : Int32) : PS := (sL S, sK S, sI S, sR S, sN S, fun b => if b = a then upd (sA S a) i v else sA S b, sO S)
def pO (S : PS) (a i : Nat) (v : Option Nat) : PS := (sL S, sK S, sI S, sR S, sN S, sA S, fun b => if b = a then va_up (sO S a) i v else sO S b)
def pNw (S : PS) (q k : Nat) : PS := (sL S ++ [q], fun b => if b = q then k else sK S b, fun g b => if b = q then 0 else sI S g b, fun g b => if b = q then none else sR S g b, sN S, sA S, sO S)
def pNA (S : PS) (q n : Nat) : PS := (sL S ++ [q], fun b => if b = q then 8 else sK S b, sI S, sR S, fun b => if b = q then n else sN S b, fun b => if b = q then fun _ => 0 else sA S b, sO S)
def pNO (S : PS) (q n : Nat) (f : Nat → Option Nat) : PS := (sL S ++ [q], fun b => if b = q then 10 else sK S b, sI S, sR S, fun b => if b = q then n else sN S b, sA S, fun b => if b = q then f else sO S b)
def kN (k : Nat) : Nat := [3, 4, 6, 2, 5, 2, 6].getD k 0
def kR (k i : Nat) : Bool := (k == 0 && i == 1) || (k == 2 && decide (i < 3)) || (k == 5 && i == 0) || k == 6
def pOb (S : PS) (a k : Nat) : List Value := (List.range (kN k)).map (fun i => if kR k i = true then va_rf (sR S (10 * k + i) a) else .int (sI S (10 * k + i) a))
def PF (cI cO : ClassId) (S : PS) (a : Nat) : va_E := if sK S a = 8 then .inl (cI, sN S a, .inl (sA S a)) else if sK S a = 10 then .inl (cO, sN S a, .inr (.inr (.inr (.inr (sO S a))))) else .inr (sK S a, pOb S a (sK S a))
def pW (cI cO : ClassId) (S : PS) : va_W := va_pl (sL S) (PF cI cO S)
def okP (S : PS) (a k : Nat) : Bool := decide (a ∈ sL S) && decide (sK S a = k)
theorem okP_in {S : PS} {a k : Nat} (h : okP S a k = true) : a ∈ sL S ∧ sK S a = k := by
  simpa [okP] using h
theorem PF_ob {cI cO : ClassId} {S : PS} {a k : Nat} (hK : sK S a = k) (hk : k < 8) : PF cI cO S a = .inr (k, pOb S a k) := by
  unfold PF
  rw [hK, if_neg (by omega), if_neg (by omega)]
theorem PF_ia {cI cO : ClassId} {S : PS} {a : Nat} (hK : sK S a = 8) : PF cI cO S a = .inl (cI, sN S a, .inl (sA S a)) := by
  unfold PF
  rw [if_pos hK]
theorem PF_oa {cI cO : ClassId} {S : PS} {a : Nat} (hK : sK S a = 10) : PF cI cO S a = .inl (cO, sN S a, .inr (.inr (.inr (.inr (sO S a))))) := by
  unfold PF
  rw [if_neg (by omega), if_pos hK]
theorem pW_at {cI cO : ClassId} {S : PS} {a : Nat} (h : a ∈ sL S) : ∃ j : Nat, (pW cI cO S)[j]? = some (a, PF cI cO S a) := va_pl_get (X := []) h
theorem pW_set {cI cO : ClassId} {S S1 : PS} {A : Nat → Prop} {a j : Nat} {e : va_E} (hD : va_D A (pW cI cO S)) (h : a ∈ sL S) (hj : (pW cI cO S)[j]? = some (a, PF cI cO S a)) (hL : sL S1 = sL S) (he : PF cI cO S1 a = e) (ho : ∀ b, b ≠ a → PF cI cO S1 b = PF cI cO S b) : (pW cI cO S).set j (a, e) = pW cI cO S1 := by
  have h1 := va_pl_set (X := []) (e := e) hD h hj
  refine Eq.trans h1 ?_
  show va_pl (sL S) _ = va_pl (sL S1) _
  rw [hL]
  refine va_pl_congr (fun b => ?_)
  by_cases hb : b = a
  · subst hb
    rw [he]
    exact va_up_self _ _ _
  · rw [va_up_ne _ _ hb, ho b hb]
theorem pOb_at {S : PS} {a k i : Nat} (hi : i < kN k) : (pOb S a k)[i]? = some (if kR k i = true then va_rf (sR S (10 * k + i) a) else .int (sI S (10 * k + i) a)) := by
  simp only [pOb, List.getElem?_map, List.getElem?_range hi, Option.map_some]
theorem pOb_len {S : PS} {a k : Nat} : (pOb S a k).length = kN k := by simp [pOb]
theorem pOb_putI {S : PS} {a k i : Nat} {v : Int32} (hi : i < kN k) (hr : kR k i = false) : pOb (pI S (10 * k + i) a v) a k = (pOb S a k).set i (.int v) := by
  apply List.ext_getElem?
  intro j
  rw [List.getElem?_set]
  by_cases hj : i = j
  · subst hj
    rw [pOb_at hi, if_pos rfl, if_neg (by rw [hr]; decide), pOb_len, if_pos hi]
    simp [pI, sI]
  · rw [if_neg hj]
    by_cases hj2 : j < kN k
    · rw [pOb_at hj2, pOb_at hj2]
      have h9 : ¬ (10 * k + j = 10 * k + i) := fun h => hj (by omega)
      simp only [pI, sI, sR, h9, false_and, if_false]
    · rw [List.getElem?_eq_none (by rw [pOb_len]; omega), List.getElem?_eq_none (by rw [pOb_len]; omega)]
theorem pOb_putR {S : PS} {a k i : Nat} {v : Option Nat} (hi : i < kN k) (hr : kR k i = true) : pOb (pR S (10 * k + i) a v) a k = (pOb S a k).set i (va_rf v) := by
  apply List.ext_getElem?
  intro j
  rw [List.getElem?_set]
  by_cases hj : i = j
  · subst hj
    rw [pOb_at hi, if_pos rfl, if_pos hr, pOb_len, if_pos hi]
    simp [pR, sR]
  · rw [if_neg hj]
    by_cases hj2 : j < kN k
    · rw [pOb_at hj2, pOb_at hj2]
      have h9 : ¬ (10 * k + j = 10 * k + i) := fun h => hj (by omega)
      simp only [pR, sI, sR, h9, false_and, if_false]
    · rw [List.getElem?_eq_none (by rw [pOb_len]; omega), List.getElem?_eq_none (by rw [pOb_len]; omega)]
theorem pOb_putI_ne {S : PS} {a b k f : Nat} {v : Int32} (hb : b ≠ a) : pOb (pI S f a v) b k = pOb S b k := by
  unfold pOb
  refine List.map_congr_left (fun i _ => ?_)
  have h9 : ¬ (10 * k + i = f ∧ b = a) := fun h => hb h.2
  simp only [pI, sI, sR, if_neg h9]
theorem pOb_putR_ne {S : PS} {a b k f : Nat} {v : Option Nat} (hb : b ≠ a) : pOb (pR S f a v) b k = pOb S b k := by
  unfold pOb
  refine List.map_congr_left (fun i _ => ?_)
  have h9 : ¬ (10 * k + i = f ∧ b = a) := fun h => hb h.2
  simp only [pR, sI, sR, if_neg h9]
theorem pW_putI {cI cO : ClassId} {S : PS} {A : Nat → Prop} {a j k i : Nat} {v : Int32} (hD : va_D A (pW cI cO S)) (h : a ∈ sL S) (hK : sK S a = k) (hk : k < 8) (hi : i < kN k) (hr : kR k i = false) (hj : (pW cI cO S)[j]? = some (a, PF cI cO S a)) : (pW cI cO S).set j (a, .inr (k, (pOb S a k).set i (.int v))) = pW cI cO (pI S (10 * k + i) a v) := by
  refine pW_set hD h hj rfl ?_ ?_
  · rw [PF_ob (S := pI S (10 * k + i) a v) hK hk, pOb_putI hi hr]
  · intro b hb
    show PF cI cO (pI S (10 * k + i) a v) b = PF cI cO S b
    unfold PF
    rw [show pOb (pI S (10 * k + i) a v) b (sK (pI S (10 * k + i) a v) b) = pOb S b (sK S b) from pOb_putI_ne hb]
    rfl
theorem pW_putR {cI cO : ClassId} {S : PS} {A : Nat → Prop} {a j k i : Nat} {v : Option Nat} (hD : va_D A (pW cI cO S)) (h : a ∈ sL S) (hK : sK S a = k) (hk : k < 8) (hi : i < kN k) (hr : kR k i = true) (hj : (pW cI cO S)[j]? = some (a, PF cI cO S a)) : (pW cI cO S).set j (a, .inr (k, (pOb S a k).set i (va_rf v))) = pW cI cO (pR S (10 * k + i) a v) := by
  refine pW_set hD h hj rfl ?_ ?_
  · rw [PF_ob (S := pR S (10 * k + i) a v) hK hk, pOb_putR hi hr]
  · intro b hb
    show PF cI cO (pR S (10 * k + i) a v) b = PF cI cO S b
    unfold PF
    rw [show pOb (pR S (10 * k + i) a v) b (sK (pR S (10 * k + i) a v) b) = pOb S b (sK S b) from pOb_putR_ne hb]
    rfl
theorem pW_putA {cI cO : ClassId} {S : PS} {A : Nat → Prop} {a j i : Nat} {v : Int32} (hD : va_D A (pW cI cO S)) (h : a ∈ sL S) (hK : sK S a = 8) (hj : (pW cI cO S)[j]? = some (a, PF cI cO S a)) : (pW cI cO S).set j (a, .inl (cI, sN S a, .inl (upd (sA S a) i v))) = pW cI cO (pA S a i v) := by
  refine pW_set hD h hj rfl ?_ ?_
  · rw [PF_ia (S := pA S a i v) hK]
    simp [pA, sA, sN]
  · intro b hb
    have e : sA (pA S a i v) b = sA S b := by simp [pA, sA, hb]
    unfold PF
    rw [e]
    rfl
theorem pW_putO {cI cO : ClassId} {S : PS} {A : Nat → Prop} {a j i : Nat} {v : Option Nat} (hD : va_D A (pW cI cO S)) (h : a ∈ sL S) (hK : sK S a = 10) (hj : (pW cI cO S)[j]? = some (a, PF cI cO S a)) : (pW cI cO S).set j (a, .inl (cO, sN S a, .inr (.inr (.inr (.inr (va_up (sO S a) i v)))))) = pW cI cO (pO S a i v) := by
  refine pW_set hD h hj rfl ?_ ?_
  · rw [PF_oa (S := pO S a i v) hK]
    simp [pO, sO, sN]
  · intro b hb
    have e : sO (pO S a i v) b = sO S b := by simp [pO, sO, hb]
    unfold PF
    rw [e]
    rfl
theorem pW_push {cI cO : ClassId} {S S1 : PS} {q : Nat} {e : va_E} (hq : q ∉ sL S) (hL : sL S1 = sL S ++ [q]) (he : PF cI cO S1 q = e) (ho : ∀ b, b ≠ q → PF cI cO S1 b = PF cI cO S b) : pW cI cO S ++ [(q, e)] = pW cI cO S1 := by
  refine Eq.trans (va_pl_push hq) ?_
  show _ = va_pl (sL S1) _
  rw [hL]
  refine va_pl_congr (fun b => ?_)
  by_cases hb : b = q
  · subst hb
    rw [he]
    exact va_up_self _ _ _
  · rw [va_up_ne _ _ hb, ho b hb]
def kZ (k : Nat) : List Value := (List.range (kN k)).map (fun i => if kR k i = true then .null else .int 0)
theorem pW_new {cI cO : ClassId} {S : PS} {q k : Nat} (hq : q ∉ sL S) (hk : k < 8) : pW cI cO S ++ [(q, .inr (k, kZ k))] = pW cI cO (pNw S q k) := by
  refine pW_push hq rfl ?_ ?_
  · rw [PF_ob (S := pNw S q k) (by simp [pNw, sK]) hk]
    refine congrArg (fun z => Sum.inr (k, z)) (List.map_congr_left (fun i _ => ?_))
    simp [pNw, sR, sI, va_rf]
  · intro b hb
    have e1 : sK (pNw S q k) b = sK S b := by simp [pNw, sK, hb]
    have e2 : ∀ k2, pOb (pNw S q k) b k2 = pOb S b k2 := by
      intro k2
      unfold pOb
      refine List.map_congr_left (fun i _ => ?_)
      simp [pNw, sR, sI, hb]
    unfold PF
    rw [e1, e2]
    rfl
theorem pW_newA {cI cO : ClassId} {S : PS} {q n : Nat} (hq : q ∉ sL S) : pW cI cO S ++ [(q, .inl (cI, n, .inl (fun _ => 0)))] = pW cI cO (pNA S q n) := by
  refine pW_push hq rfl ?_ ?_
  · rw [PF_ia (S := pNA S q n) (by simp [pNA, sK])]
    simp [pNA, sA, sN]
  · intro b hb
    have e1 : sK (pNA S q n) b = sK S b := by simp [pNA, sK, hb]
    have e2 : ∀ k2, pOb (pNA S q n) b k2 = pOb S b k2 := fun _ => rfl
    have e3 : sN (pNA S q n) b = sN S b := by simp [pNA, sN, hb]
    have e4 : sA (pNA S q n) b = sA S b := by simp [pNA, sA, hb]
    unfold PF
    rw [e1, e2, e3, e4]
    rfl
theorem pW_newO {cI cO : ClassId} {S : PS} {q n : Nat} {f : Nat → Option Nat} (hq : q ∉ sL S) : pW cI cO S ++ [(q, .inl (cO, n, .inr (.inr (.inr (.inr f)))))] = pW cI cO (pNO S q n f) := by
  refine pW_push hq rfl ?_ ?_
  · rw [PF_oa (S := pNO S q n f) (by simp [pNO, sK])]
    simp [pNO, sO, sN]
  · intro b hb
    have e1 : sK (pNO S q n f) b = sK S b := by simp [pNO, sK, hb]
    have e2 : ∀ k2, pOb (pNO S q n f) b k2 = pOb S b k2 := fun _ => rfl
    have e3 : sN (pNO S q n f) b = sN S b := by simp [pNO, sN, hb]
    have e4 : sO (pNO S q n f) b = sO S b := by simp [pNO, sO, hb]
    unfold PF
    rw [e1, e2, e3, e4]
    rfl
