/-! lists of the landed program's world -/
theorem FR.pNO {F : Nat → Prop} {S : PS} {q n : Nat} {f : Nat → Option Nat} (hq : q ∉ sL S) : FR F S (pNO S q n f) := fun b hb => by
  have hne : b ≠ q := fun z => hq (z ▸ hb)
  exact ⟨List.mem_append_left _ hb, if_neg hne, fun _ => ⟨fun _ => rfl, fun _ => rfl, if_neg hne, rfl, if_neg hne⟩⟩
theorem FR.pNA {F : Nat → Prop} {S : PS} {q n : Nat} (hq : q ∉ sL S) : FR F S (pNA S q n) := fun b hb => by
  have hne : b ≠ q := fun z => hq (z ▸ hb)
  exact ⟨List.mem_append_left _ hb, if_neg hne, fun _ => ⟨fun _ => rfl, fun _ => rfl, if_neg hne, if_neg hne, rfl⟩⟩
theorem FR.pNw {F : Nat → Prop} {S : PS} {q k : Nat} (hq : q ∉ sL S) : FR F S (pNw S q k) := fun b hb => by
  have hne : b ≠ q := fun z => hq (z ▸ hb)
  exact ⟨List.mem_append_left _ hb, if_neg hne, fun _ => ⟨fun _ => if_neg hne, fun _ => if_neg hne, rfl, rfl, rfl⟩⟩
theorem okL_in {S : PS} {x : Nat} (h : okL S x = true) : x ∈ sL S ∧ (sK S x = 1 ∨ sK S x = 2 ∨ sK S x = 4) := by
  simp only [okL, Bool.and_eq_true, Bool.or_eq_true, decide_eq_true_eq] at h
  exact ⟨h.1, by rcases h.2 with (h | h) | h; exact Or.inl h; exact Or.inr (Or.inl h); exact Or.inr (Or.inr h)⟩
theorem okL_mk {S : PS} {x : Nat} (h : x ∈ sL S) (hk : sK S x = 1 ∨ sK S x = 2 ∨ sK S x = 4) : okL S x = true := by
  simp only [okL, Bool.and_eq_true, Bool.or_eq_true, decide_eq_true_eq]
  exact ⟨h, by rcases hk with h | h | h; exact Or.inl (Or.inl h); exact Or.inl (Or.inr h); exact Or.inr h⟩
theorem FR.okL {F : Nat → Prop} {S T : PS} (h : FR F S T) {a : Nat} (ho : okL S a = true) : okL T a = true := by
  obtain ⟨h1, h2⟩ := okL_in ho
  obtain ⟨a1, a2, -⟩ := h a h1
  exact okL_mk a1 (by rw [a2]; exact h2)
theorem okL_ok {S : PS} {a k : Nat} (h : okP S a k = true) (hk : k = 1 ∨ k = 2 ∨ k = 4) : okL S a = true := by
  obtain ⟨h1, h2⟩ := okP_in h
  exact okL_mk h1 (by rw [h2]; exact hk)
def AL (e0 : Nat) (S : PS) (v q : Nat) (L : List Nat) : Prop := okP S v 0 = true ∧ sR S 1 v = some q ∧ sI S 2 v = nI L.length ∧ L.length ≤ 24 ∧ (∀ y ∈ L, okL S y = true) ∧
  ((q = e0 ∧ L = []) ∨ (q ≠ e0 ∧ okP S q 10 = true ∧ sN S q ∈ [10, 15, 22, 33] ∧ L.length ≤ sN S q ∧ ∀ i, sO S q i = L[i]?))
theorem AL.keep {e0 v q : Nat} {F : Nat → Prop} {S T : PS} {L : List Nat} (h : AL e0 S v q L) (hF : FR F S T) (h1 : ¬ F v) (h2 : ¬ F q) : AL e0 T v q L := by
  obtain ⟨a1, a2, a3, a4, a5, a6⟩ := h
  obtain ⟨-, -, b3⟩ := hF v (okP_in a1).1
  obtain ⟨c1, c2, -⟩ := b3 h1
  refine ⟨hF.ok a1, (c2 1).trans a2, (c1 2).trans a3, a4, fun y hy => hF.okL (a5 y hy), ?_⟩
  rcases a6 with a6 | ⟨a6, a7, a8, a9, a10⟩
  · exact Or.inl a6
  · obtain ⟨-, -, d3⟩ := hF q (okP_in a7).1
    obtain ⟨-, -, e3, -, e5⟩ := d3 h2
    exact Or.inr ⟨a6, hF.ok a7, by rw [e3]; exact a8, by rw [e3]; exact a9, fun i => by rw [e5]; exact a10 i⟩
theorem AL.size {e0 v q : Nat} {S : PS} {L : List Nat} (h : AL e0 S v q L) : fJx4a65c_size_8abf5 S v = some (nI L.length) := by
  obtain ⟨a1, a2, a3, -⟩ := h
  simp only [fJx4a65c_size_8abf5, chk, a1, a3]
theorem ckIdx {i m : Nat} (h : i < m) (hm : m < 2 ^ 31) : fJ15_checkIndex_7cf53 (nI i) (nI m) = some (nI i) := by
  simp only [fJ15_checkIndex_7cf53, fJ3_checkIndex_8e157]
  rw [if_neg (nI_pos (by omega)), if_pos (nI_lt h hm)]
  rfl
theorem AL.elem {e0 v q : Nat} {S : PS} {L : List Nat} (h : AL e0 S v q L) {i : Nat} (hi : i < L.length) : fJx4a65c_elementData_915e3 S v (nI i) = some (L.getD i 0) := by
  obtain ⟨a1, a2, a3, a4, a5, a6⟩ := h
  rcases a6 with ⟨-, rfl⟩ | ⟨a6, a7, a8, a9, a10⟩
  · exact absurd hi (Nat.not_lt_zero _)
  · have h33 : sN S q ≤ 33 := by
      simp only [List.mem_cons, List.not_mem_nil, or_false] at a8
      omega
    simp only [fJx4a65c_elementData_915e3, chk, a1, a2, bP, a7]
    rw [inB_nI (show i < sN S q by omega) (by omega), nI_clamp (by omega), a10, List.getElem?_eq_getElem hi]
    simp only [List.getD_eq_getElem?_getD, List.getElem?_eq_getElem hi]
    rfl
theorem AL.get {e0 v q : Nat} {S : PS} {L : List Nat} (h : AL e0 S v q L) {i : Nat} (hi : i < L.length) : fJx4a65c_get_915e3 S v (nI i) = some (L.getD i 0) := by
  have h0 := h
  obtain ⟨a1, a2, a3, a4, a5, a6⟩ := h
  simp only [fJx4a65c_get_915e3, chk, a1, a3, ckIdx hi (show L.length < 2 ^ 31 by omega), bP, h0.elem hi]
theorem pO_O {S : PS} {a i : Nat} {x : Option Nat} : sO (pO S a i x) a = va_up (sO S a) i x := if_pos rfl
theorem AL.set {e0 v q : Nat} {S : PS} {L : List Nat} (h : AL e0 S v q L) {i y : Nat} (hi : i < L.length) (hy : okL S y = true) : ∃ T, fJx4a65c_set_bcc79 S v (nI i) y = some (L.getD i 0, T) ∧ AL e0 T v q (L.set i y) ∧ FR (fun z => z = v ∨ z = q) S T := by
  have h0 := h
  obtain ⟨a1, a2, a3, a4, a5, a6⟩ := h
  rcases a6 with ⟨-, rfl⟩ | ⟨a6, a7, a8, a9, a10⟩
  · exact absurd hi (Nat.not_lt_zero _)
  · have h33 : sN S q ≤ 33 := by
      simp only [List.mem_cons, List.not_mem_nil, or_false] at a8
      omega
    refine ⟨pO S q i (some y), ?_, ⟨a1, a2, by rw [List.length_set]; exact a3, by rw [List.length_set]; exact a4, fun z hz => ?_, Or.inr ⟨a6, a7, a8, by rw [List.length_set]; exact a9, fun j => ?_⟩⟩, FR.pO.mono (fun z => Or.inr)⟩
    · simp only [fJx4a65c_set_bcc79, chk, a1, a2, a3, ckIdx hi (show L.length < 2 ^ 31 by omega), bP, h0.elem hi, a7]
      rw [inB_nI (show i < sN S q by omega) (by omega), nI_clamp (by omega)]
      simp only [hy, bnd]
    · rcases List.mem_or_eq_of_mem_set hz with hz | rfl
      · exact a5 z hz
      · exact hy
    · rw [pO_O, List.getElem?_set]
      unfold va_up
      by_cases h1 : j = i
      · subst h1
        rw [if_pos rfl, if_pos rfl, if_pos hi]
      · rw [if_neg h1, if_neg (fun z => h1 z.symm), a10]
theorem newLen : ∀ m, m ∈ [10, 15, 22] → fJ8_newLength_cabcc (nI m) (nI m + 1 - nI m) (nI m >>> ((1 : Int32) &&& 31)) = some (nI (if m = 10 then 15 else if m = 15 then 22 else 33)) := by decide +kernel
theorem AL.put {e0 v q : Nat} {S : PS} {L : List Nat} {y : Nat} {Q : PS → Prop} (hv : okP S v 0 = true) (hr : sR S 1 v = some q) (hl : L.length < 24) (hL : ∀ y ∈ L, okL S y = true) (hy : okL S y = true) (hq : q ≠ e0) (hq10 : okP S q 10 = true) (hN : sN S q ∈ [10, 15, 22, 33]) (hlt : L.length < sN S q) (hO : ∀ i, sO S q i = L[i]?)
    (kk : ∀ T, AL e0 T v q (L ++ [y]) → FR (fun z => z = v ∨ z = q) S T → Q T) : chkW (okP S q 10) (chkW (inB (nI L.length) (sN S q)) (chkW (okL S y) (bndW (pO S q (nI L.length).toNatClampNeg (some y)) (fun w14 => chkW (okP w14 v 0) (bndW (pI w14 2 v (nI L.length + (1 : Int32))) (fun w19 => Q w19)))))) := by
  have h33 : sN S q ≤ 33 := by
    simp only [List.mem_cons, List.not_mem_nil, or_false] at hN
    omega
  refine ⟨hq10, inB_nI hlt (by omega), hy, ?_⟩
  rw [nI_clamp (by omega)]
  rintro w14 rfl
  refine ⟨hv, ?_⟩
  rintro w19 rfl
  refine kk _ ⟨hv, hr, ?_, by simp; omega, fun z hz => ?_, Or.inr ⟨hq, hq10, hN, (by show (L ++ [y]).length ≤ sN S q; simp; omega), fun i => ?_⟩⟩ ((FR.pO.mono (fun z => Or.inr)).trans (FR.pI.mono (fun z => Or.inl)))
  · rw [pI_I, nI_1]
    simp
  · rcases List.mem_append.mp hz with hz | hz
    · exact hL z hz
    · rw [List.mem_singleton.mp hz]; exact hy
  · rw [pI_O, pO_O]
    unfold va_up
    by_cases h1 : i = L.length
    · subst h1
      rw [if_pos rfl]
      simp
    · rw [if_neg h1, hO]
      by_cases h2 : i < L.length
      · rw [List.getElem?_append_left h2]
      · rw [List.getElem?_eq_none (by omega), List.getElem?_eq_none (by simp; omega)]
theorem FR.weak {F G : Nat → Prop} {S U T : PS} (h1 : FR F S U) (h2 : FR G U T) (h : ∀ b, b ∈ sL S → G b → F b) : FR F S T := fun b hb => by
  obtain ⟨a1, a2, a3⟩ := h1 b hb
  obtain ⟨b1, b2, b3⟩ := h2 b a1
  refine ⟨b1, b2.trans a2, fun hF => ?_⟩
  obtain ⟨c1, c2, c3, c4, c5⟩ := a3 hF
  obtain ⟨d1, d2, d3, d4, d5⟩ := b3 (fun z => hF (h b hb z))
  exact ⟨fun g => (d1 g).trans (c1 g), fun g => (d2 g).trans (c2 g), d3.trans c3, d4.trans c4, d5.trans c5⟩
theorem newLen2 : ∀ m, m ∈ [10, 15, 22] → ∃ r, r ∈ [15, 22, 33] ∧ m < r ∧ fJ8_newLength_cabcc (nI m) (nI m + 1 - nI m) (nI m >>> ((1 : Int32) &&& 31)) = some (nI r) := by
  intro m hm
  simp only [List.mem_cons, List.not_mem_nil, or_false] at hm
  rcases hm with rfl | rfl | rfl
  · exact ⟨15, by decide, by decide, by decide +kernel⟩
  · exact ⟨22, by decide, by decide, by decide +kernel⟩
  · exact ⟨33, by decide, by decide, by decide +kernel⟩
theorem AL.add {gs : JP} {v q : Nat} {S : PS} {L : List Nat} {y : Nat} {Q : Int32 → PS → Prop} (h : AL gs.2.1 S v q L) (hl : L.length < 24) (hy : okL S y = true)
    (kk : ∀ T q', AL gs.2.1 T v q' (L ++ [y]) → FR (fun z => z = v ∨ z = q ∧ q ≠ gs.2.1) S T → (q' = q ∨ q' ∉ sL S) → Q 1 T) : fJx4a65c_add_9ea2d gs S v y Q := by
  obtain ⟨a1, a2, a3, a4, a5, a6⟩ := h
  unfold fJx4a65c_add_9ea2d
  refine ⟨a1, a1, ?_⟩
  intro w7 hw7
  have b1 : okP w7 v 0 = true := by rw [hw7]; exact a1
  have b2 : sR w7 1 v = some q := by rw [hw7]; exact a2
  have b3 : sI w7 2 v = nI L.length := by rw [hw7, pI_Ig (by decide)]; exact a3
  have b5 : ∀ y ∈ L, okL w7 y = true := by rw [hw7]; exact a5
  have by_ : okL w7 y = true := by rw [hw7]; exact hy
  have hF : FR (fun z => z = v ∨ z = q ∧ q ≠ gs.2.1) S w7 := by rw [hw7]; exact FR.pI.mono (fun z => Or.inl)
  have hsl : sL w7 = sL S := by rw [hw7]; rfl
  refine ⟨b1, q, b2, b1, b1, ?_⟩
  rw [b3]
  unfold fJx4a65c_add_72be8
  rcases a6 with ⟨a6, rfl⟩ | ⟨a6, a7, a8, a9, a10⟩
  · -- the list's first element
    refine ⟨by simp [okE, a6], ?_⟩
    have e1 : alenO gs.2.1 w7 q = nI ([] : List Nat).length := by unfold alenO; rw [if_pos a6]; rfl
    rw [if_pos e1.symm]
    refine ⟨b1, ?_⟩
    unfold fJx4a65c_grow_d5877
    refine ⟨b1, b1, ?_⟩
    unfold fJx4a65c_grow_92f84
    refine ⟨b1, q, b2, by simp [okE, a6], ?_⟩
    rintro y5 rfl
    rw [e1, if_neg (show ¬ ((0 : Int32) < nI ([] : List Nat).length) by decide)]
    refine ⟨b1, q, b2, ?_⟩
    show (if q = gs.2.1 then _ else _)
    rw [if_pos a6, b3]
    refine ⟨by decide, by decide, ?_⟩
    intro q52 hq52 hqe
    rintro z52 rfl
    have c1 : okP (pNO w7 q52 ((if (10 : Int32) < nI ([] : List Nat).length + 1 then nI ([] : List Nat).length + 1 else (10 : Int32))).toNatClampNeg (fun _ => none)) v 0 = true := (FR.pNO (F := fun _ => False) hq52).ok b1
    refine ⟨c1, ?_⟩
    rintro w56 rfl
    have hq0 : q52 ∉ sL S := by rw [← hsl]; exact hq52
    have hN10 : ((if (10 : Int32) < nI ([] : List Nat).length + 1 then nI ([] : List Nat).length + 1 else (10 : Int32))).toNatClampNeg = 10 := by decide
    rw [hN10] at c1 ⊢
    have cy : okL (pNO w7 q52 10 (fun _ => none)) y = true := (FR.pNO (F := fun _ => False) hq52).okL by_
    refine AL.put (q := q52) (L := []) c1 (if_pos ⟨rfl, rfl⟩) (by decide) (fun _ h => nomatch h) cy hqe (okP_mk (List.mem_append_right _ List.mem_cons_self) (if_pos rfl)) ?_ ?_ (fun i => ?_) (fun T t1 t2 => ?_)
    · show (if q52 = q52 then 10 else _) ∈ _
      rw [if_pos rfl]; decide
    · show _ < (if q52 = q52 then 10 else _)
      rw [if_pos rfl]; decide
    · show (if q52 = q52 then (fun _ => none) else _) i = _
      rw [if_pos rfl]; rfl
    · exact ⟨rfl, kk T q52 t1 (FR.weak ((hF.trans (FR.pNO hq52)).trans (FR.pR.mono (fun z => Or.inl))) t2 (fun b hb hz => hz.elim Or.inl (fun z => absurd (z ▸ hb) hq0))) (Or.inr hq0)⟩
  · have b7 : okP w7 q 10 = true := by rw [hw7]; exact a7
    have b8 : sN w7 q = sN S q := by rw [hw7]; rfl
    have b10 : ∀ i, sO w7 q i = L[i]? := by rw [hw7]; exact a10
    have h33 : sN S q ≤ 33 := by
      simp only [List.mem_cons, List.not_mem_nil, or_false] at a8
      omega
    have hokE : okE gs.2.1 w7 q = true := by simp [okE, b7]
    refine ⟨hokE, ?_⟩
    have e1 : alenO gs.2.1 w7 q = nI (sN S q) := by unfold alenO; rw [if_neg a6, b8]
    rw [e1]
    by_cases hfull : L.length = sN S q
    · rw [if_pos (by rw [hfull])]
      refine ⟨b1, ?_⟩
      unfold fJx4a65c_grow_d5877
      refine ⟨b1, b1, ?_⟩
      unfold fJx4a65c_grow_92f84
      refine ⟨b1, q, b2, hokE, ?_⟩
      rintro y5 rfl
      have hm : sN S q ∈ [10, 15, 22] := by
        simp only [List.mem_cons, List.not_mem_nil, or_false] at a8 ⊢
        omega
      have hpos : 10 ≤ sN S q := by
        simp only [List.mem_cons, List.not_mem_nil, or_false] at hm
        omega
      rw [e1, if_pos (show (0 : Int32) < nI (sN S q) from nI_lt (a := 0) (by omega) (by omega)), b3, hfull]
      obtain ⟨r, hr, hlr, hnl⟩ := newLen2 _ hm
      refine ⟨nI r, hnl, b1, q, b2, ?_⟩
      unfold fJ7_copyOf_1904c
      refine ⟨b7, ?_⟩
      unfold fJ7_copyOf_6403c
      have hr33 : r ≤ 33 := by
        simp only [List.mem_cons, List.not_mem_nil, or_false] at hr
        omega
      have hrc : (nI r).toNatClampNeg = r := nI_clamp (by omega)
      rw [if_pos rfl, hrc]
      refine ⟨decide_eq_true (nI_pos (by omega)), decide_eq_true (by omega), ?_⟩
      intro q7 hq7 hqe
      rintro z7 rfl
      have hq0 : q7 ∉ sL S := by rw [← hsl]; exact hq7
      have hqq : q ≠ q7 := fun z => hq7 (z ▸ (okP_in b7).1)
      have c7 : okP (pNO w7 q7 r (fun _ => none)) q 10 = true := (FR.pNO (F := fun _ => False) hq7).ok b7
      have c8 : sN (pNO w7 q7 r (fun _ => none)) q = sN S q := (if_neg hqq).trans b8
      have cq : okP (pNO w7 q7 r (fun _ => none)) q7 10 = true := okP_mk (List.mem_append_right _ List.mem_cons_self) (if_pos rfl)
      have cN : sN (pNO w7 q7 r (fun _ => none)) q7 = r := if_pos rfl
      have e2 : alenO gs.2.1 (pNO w7 q7 r (fun _ => none)) q = nI (sN S q) := by unfold alenO; rw [if_neg a6, c8]
      have e3 : (if nI r < nI (sN S q) then nI r else nI (sN S q)) = nI (sN S q) := if_neg (nI_nlt (by omega) (by omega))
      have e4 : (nI (sN S q)).toNatClampNeg = sN S q := nI_clamp (by omega)
      have cv : okP (pNO w7 q7 r (fun _ => none)) v 0 = true := (FR.pNO (F := fun _ => False) hq7).ok b1
      have cy : ∀ y ∈ L, okL (pNO w7 q7 r (fun _ => none)) y = true := fun y hy => (FR.pNO (F := fun _ => False) hq7).okL (b5 y hy)
      have cyy : okL (pNO w7 q7 r (fun _ => none)) y = true := (FR.pNO (F := fun _ => False) hq7).okL by_
      rw [e2, e3, e4, c8, cN]
      refine ⟨by simp [okE, c7], c7, cq, decide_eq_true (nI_pos (by omega)), by simp; omega, ?_, ?_⟩
      · intro i hi y hy
        have : sO (pNO w7 q7 r (fun _ => none)) q i = L[i]? := by
          show (if q = q7 then _ else sO w7 q) i = _
          rw [if_neg hqq]; exact b10 i
        rw [this] at hy
        exact (FR.pNO (F := fun _ => False) hq7).okL (b5 y (List.mem_of_getElem? hy))
      · rintro z35 rfl
        refine ⟨cv, ?_⟩
        rintro w41 rfl
        have hO : ∀ i, sO (cpO (pNO w7 q7 r (fun _ => none)) q q7 (sN S q)) q7 i = L[i]? := by
          intro i
          show (if q7 = q7 then va_cpy (sO (pNO w7 q7 r (fun _ => none)) q) (sO (pNO w7 q7 r (fun _ => none)) q7) 0 0 (sN S q) else _) i = _
          rw [if_pos rfl]
          have f1 : sO (pNO w7 q7 r (fun _ => none)) q = sO w7 q := if_neg hqq
          have f2 : sO (pNO w7 q7 r (fun _ => none)) q7 = fun _ => none := if_pos rfl
          rw [f1, f2]
          unfold va_cpy
          by_cases hi : i < sN S q
          · rw [if_pos (by omega)]
            simp [b10]
          · rw [if_neg (by omega), List.getElem?_eq_none (by omega)]
        rw [← hfull]
        have hput : _ := AL.put (e0 := gs.2.1) (S := pR (cpO (pNO w7 q7 r (fun _ => none)) q q7 L.length) 1 v (some q7)) (q := q7) (L := L) (Q := fun w20 => chkW (b01 1) (Q 1 w20)) cv (if_pos ⟨rfl, rfl⟩) hl cy cyy hqe cq (by
          show sN (pNO w7 q7 r (fun _ => none)) q7 ∈ _
          rw [cN]
          simp only [List.mem_cons, List.not_mem_nil, or_false] at hr ⊢
          omega) (by
          show L.length < sN (pNO w7 q7 r (fun _ => none)) q7
          rw [cN]; omega) (by rw [hfull]; exact hO) (fun T t1 t2 => by
          have hcp : FR (fun z => z = q7) (pNO w7 q7 r (fun _ => none)) (cpO (pNO w7 q7 r (fun _ => none)) q q7 L.length) := fun b hb => ⟨hb, rfl, fun hn => ⟨fun _ => rfl, fun _ => rfl, rfl, rfl, if_neg hn⟩⟩
          have h1 : FR (fun z => z = v ∨ z = q ∧ q ≠ gs.2.1) S (cpO (pNO w7 q7 r (fun _ => none)) q q7 L.length) := FR.weak (hF.trans (FR.pNO hq7)) hcp (fun b hb hz => absurd (hz ▸ hb) hq0)
          exact ⟨rfl, kk T q7 t1 (FR.weak (h1.trans (FR.pR.mono (fun z => Or.inl))) t2 (fun b hb hz => hz.elim Or.inl (fun z => absurd (z ▸ hb) hq0))) (Or.inr hq0)⟩)
        rw [nI_clamp (show L.length < 2 ^ 31 by omega)] at hput
        exact hput
    · rw [if_neg (fun z => hfull ((nI_eq (by omega) (by omega)).mp z))]
      refine AL.put (q := q) (L := L) b1 b2 hl b5 by_ a6 b7 (by rw [b8]; exact a8) (by rw [b8]; omega) b10 (fun T t1 t2 => ?_)
      exact ⟨rfl, kk T q t1 (hF.trans (t2.mono (fun z hz => hz.elim Or.inl (fun h => Or.inr ⟨h, a6⟩)))) (Or.inl rfl)⟩
