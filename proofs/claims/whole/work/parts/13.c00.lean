/-! X4_empty -/
abbrev rmX4_empty : Room := { frames := 0, cells := 0, slots := 0, locals := 0 }
theorem hdX4_empty : yX4_empty.cls = RX4 ∧ yX4_empty.cls ≠ "java/lang/invoke/MethodHandle" ∧ yX4_empty.cls ≠ "java/lang/invoke/VarHandle" ∧ (parseMethodDescriptor yX4_empty.desc).map (fun d => d.parameters.length) = some 0 := by decide +kernel
theorem lkX4_empty_21 : Cond.fieldLink RX4 21 RX4 (TX4 1).2.1 (TX4 1).2.2.1 ∈ wsX4_empty := by decide +kernel
theorem inX4_empty_5 : ∀ w ∈ wsX40, w ∈ wsX4_empty := fun _ h => List.mem_cons_of_mem _ (List.mem_append_right _ h)
def fX4_empty (S : PS) (v0 : Nat) : Option PS := chk (okP S v0 5) (bnd (pI S 51 v0 (0 : Int32)) (fun w2 => some w2))
set_option maxRecDepth 100000 in
set_option maxHeartbeats 4000000 in
theorem sX4_empty {X : JX} {cI cZ cO cJ : ClassId} {gs : JP} {post : Option Value → va_W → Prop} (hX : jOK X cX4_empty 1 wsX4_empty RX4 rmX4_empty) (hT : jT X = jTy cI cZ cO cJ) (hGX : jG X (GP gs)) (hret : jRV X cX4_empty rmX4_empty post) {o : PS} (hro : ∀  (w9 : PS), o = w9 → post none (pW cI cO w9))  {S : PS} {v0 : Nat} (h : fX4_empty S v0 = some o) : JW X 0 0 (pW cI cO S) 0 [(0, .ref v0)] [] := by
  unfold fX4_empty at h
  refine jw_aload_n hX dX4_empty_0 rfl 0 rfl ?_
  refine jw_iconst (v := (0 : Int32)) hX dX4_empty_1 (by decide) ?_
  obtain ⟨ho2_2, h⟩ := chk_some h
  refine jw_pputI hX hT 5 1 rfl (by decide) (by decide) rfl inX4_empty_5 rfl lkX4_empty_21 tyX4 tyX4_ok nmX4 rfl (by decide +kernel) ho2_2 dX4_empty_2 (fun w2 e2 => ?_)
  replace h := bnd_some h w2 e2
  clear e2
  exact hret _ _ _ _ _ (by decide) (by decide) dX4_empty_5 (hro _ (Option.some.inj h).symm)
set_option maxRecDepth 100000 in
set_option maxHeartbeats 4000000 in
theorem kX4_empty {l : Launch} {D : va_G} {tys : List (ClassId × FieldType)} {cI cZ cO cJ : ClassId} {gs : JP} {S : PS} {v0 : Nat} {w1 : PS} (hT : tys = jTy cI cZ cO cJ) (h : fX4_empty S v0 = some w1) : CC l (GP gs) D tys yX4_empty wsX4_empty rmX4_empty [.ref v0] (pW cI cO S) (fun ov w2 => ov = none ∧ w2 = (pW cI cO w1)) := by
  refine CC_of (cc := cX4_empty) (maxL := 1) (ret := none) (by decide) rfl (Nat.le_of_ble_eq_true rfl) ?_
  intro X hD hL hT0 hGX hX rI rZ rV rA
  exact sX4_empty (post := fun ov w2 => ov = none ∧ w2 = (pW cI cO w1)) hX (hT0.trans hT) hGX (fun cells slots w9 pc lv => rV cells slots w9 pc lv rfl) (o := w1) (fun w9 e9 => by cases e9; exact ⟨rfl, rfl⟩) h
/-! X4_size -/
abbrev rmX4_size : Room := { frames := 0, cells := 0, slots := 0, locals := 0 }
theorem hdX4_size : yX4_size.cls = RX4 ∧ yX4_size.cls ≠ "java/lang/invoke/MethodHandle" ∧ yX4_size.cls ≠ "java/lang/invoke/VarHandle" ∧ (parseMethodDescriptor yX4_size.desc).map (fun d => d.parameters.length) = some 0 := by decide +kernel
theorem lkX4_size_21 : Cond.fieldLink RX4 21 RX4 (TX4 1).2.1 (TX4 1).2.2.1 ∈ wsX4_size := by decide +kernel
theorem inX4_size_5 : ∀ w ∈ wsX40, w ∈ wsX4_size := fun _ h => List.mem_cons_of_mem _ (List.mem_append_right _ h)
def fX4_size (S : PS) (v0 : Nat) : Option Int32 := chk (okP S v0 5) (some (sI S 51 v0))
set_option maxRecDepth 100000 in
set_option maxHeartbeats 4000000 in
theorem sX4_size {X : JX} {cI cZ cO cJ : ClassId} {gs : JP} {S : PS} {post : Option Value → va_W → Prop} (hX : jOK X cX4_size 1 wsX4_size RX4 rmX4_size) (hT : jT X = jTy cI cZ cO cJ) (hGX : jG X (GP gs)) (hret : jRI X cX4_size rmX4_size post) {o : Int32} (hro : ∀ (v9 : Int32), o = v9 → post (some (.int v9)) (pW cI cO S))  {v0 : Nat} (h : fX4_size S v0 = some o) : JW X 0 0 (pW cI cO S) 0 [(0, .ref v0)] [] := by
  unfold fX4_size at h
  refine jw_aload_n hX dX4_size_0 rfl 0 rfl ?_
  obtain ⟨ho1_1, h⟩ := chk_some h
  refine jw_pgetI hX hT 5 1 rfl (by decide) (by decide) rfl inX4_size_5 rfl lkX4_size_21 ho1_1 dX4_size_1 ?_
  exact hret _ _ _ _ _ _ (by decide) (by decide) dX4_size_4 (hro _ (Option.some.inj h).symm)
set_option maxRecDepth 100000 in
set_option maxHeartbeats 4000000 in
theorem kX4_size {l : Launch} {D : va_G} {tys : List (ClassId × FieldType)} {cI cZ cO cJ : ClassId} {gs : JP} {S : PS} {v0 : Nat} {r : Int32} (hT : tys = jTy cI cZ cO cJ) (h : fX4_size S v0 = some r) : CC l (GP gs) D tys yX4_size wsX4_size rmX4_size [.ref v0] (pW cI cO S) (fun ov w2 => ov = some (.int r) ∧ w2 = (pW cI cO S)) := by
  refine CC_of (cc := cX4_size) (maxL := 1) (ret := (some .int)) (by decide) rfl (Nat.le_of_ble_eq_true rfl) ?_
  intro X hD hL hT0 hGX hX rI rZ rV rA
  exact sX4_size (post := fun ov w2 => ov = some (.int r) ∧ w2 = (pW cI cO S)) hX (hT0.trans hT) hGX (fun cells slots w9 pc lv v => rI cells slots w9 pc lv v rfl) (o := r) (fun v9 e9 => by cases e9; exact ⟨rfl, rfl⟩) h
/-! X4_at -/
abbrev rmX4_at : Room := { frames := 0, cells := 0, slots := 0, locals := 0 }
theorem hdX4_at : yX4_at.cls = RX4 ∧ yX4_at.cls ≠ "java/lang/invoke/MethodHandle" ∧ yX4_at.cls ≠ "java/lang/invoke/VarHandle" ∧ (parseMethodDescriptor yX4_at.desc).map (fun d => d.parameters.length) = some 1 := by decide +kernel
theorem lkX4_at_21 : Cond.fieldLink RX4 21 RX4 (TX4 1).2.1 (TX4 1).2.2.1 ∈ wsX4_at := by decide +kernel
theorem inX4_at_5 : ∀ w ∈ wsX40, w ∈ wsX4_at := fun _ h => List.mem_cons_of_mem _ (List.mem_append_right _ h)
theorem lkX4_at_15 : Cond.fieldLink RX4 15 RX4 (TX4 0).2.1 (TX4 0).2.2.1 ∈ wsX4_at := by decide +kernel
def fX4_at (S : PS) (v0 : Nat) (v1 : Int32) : Option Int32 := (if v1 < 0 then some (-1 : Int32) else chk (okP S v0 5) ((if (sI S 51 v0) ≤ v1 then some (-1 : Int32) else chk (okP S v0 5) (bP (sR S 50 v0) (fun q14 => chk (okP S q14 8) ((if v1 < (nI (sN S q14)) then chk (okP S v0 5) (bP (sR S 50 v0) (fun q24 => chk (okP S q24 8) (chk (inB v1 (sN S q24)) (some (sA S q24 (v1).toNatClampNeg))))) else some (-1 : Int32))))))))
set_option maxRecDepth 100000 in
set_option maxHeartbeats 4000000 in
theorem sX4_at {X : JX} {cI cZ cO cJ : ClassId} {gs : JP} {S : PS} {post : Option Value → va_W → Prop} (hX : jOK X cX4_at 2 wsX4_at RX4 rmX4_at) (hT : jT X = jTy cI cZ cO cJ) (hGX : jG X (GP gs)) (hret : jRI X cX4_at rmX4_at post) {o : Int32} (hro : ∀ (v9 : Int32), o = v9 → post (some (.int v9)) (pW cI cO S))  {v0 : Nat} {v1 : Int32} (h : fX4_at S v0 v1 = some o) : JW X 0 0 (pW cI cO S) 0 [(0, .ref v0), (1, .int v1)] [] := by
  unfold fX4_at at h
  refine jw_iload_n hX dX4_at_0 rfl 1 rfl ?_
  refine jw_if_lt (tgt := 21) hX dX4_at_1 (by decide) (fun hc => ?_) (fun hc => ?_)
  · rw [if_pos hc] at h
    refine jw_iconst (v := (-1 : Int32)) hX dX4_at_21 (by decide) ?_
    exact hret _ _ _ _ _ _ (by decide) (by decide) dX4_at_22 (hro _ (Option.some.inj h).symm)
  · rw [if_neg hc] at h
    refine jw_iload_n hX dX4_at_4 rfl 1 rfl ?_
    refine jw_aload_n hX dX4_at_5 rfl 0 rfl ?_
    obtain ⟨ho6_2, h⟩ := chk_some h
    refine jw_pgetI hX hT 5 1 rfl (by decide) (by decide) rfl inX4_at_5 rfl lkX4_at_21 ho6_2 dX4_at_6 ?_
    refine jw_icmp_ge (tgt := 21) hX dX4_at_9 (by decide) (fun hc => ?_) (fun hc => ?_)
    · rw [if_pos hc] at h
      refine jw_iconst (v := (-1 : Int32)) hX dX4_at_21 (by decide) ?_
      exact hret _ _ _ _ _ _ (by decide) (by decide) dX4_at_22 (hro _ (Option.some.inj h).symm)
    · rw [if_neg hc] at h
      refine jw_iload_n hX dX4_at_12 rfl 1 rfl ?_
      refine jw_aload_n hX dX4_at_13 rfl 0 rfl ?_
      obtain ⟨ho14_2, h⟩ := chk_some h
      obtain ⟨q14, hr14, h⟩ := bP_some h
      refine jw_pgetR hX hT 5 0 rfl (by decide) (by decide) rfl inX4_at_5 rfl lkX4_at_15 ho14_2 hr14 dX4_at_14 ?_
      obtain ⟨ho17_5, h⟩ := chk_some h
      refine jw_pialen hX hT ho17_5 dX4_at_17 ?_
      refine jw_icmp_lt (tgt := 23) hX dX4_at_18 (by decide) (fun hc => ?_) (fun hc => ?_)
      · rw [if_pos hc] at h
        refine jw_aload_n hX dX4_at_23 rfl 0 rfl ?_
        obtain ⟨ho24_1, h⟩ := chk_some h
        obtain ⟨q24, hr24, h⟩ := bP_some h
        refine jw_pgetR hX hT 5 0 rfl (by decide) (by decide) rfl inX4_at_5 rfl lkX4_at_15 ho24_1 hr24 dX4_at_24 ?_
        refine jw_iload_n hX dX4_at_27 rfl 1 rfl ?_
        obtain ⟨ho28_5, h⟩ := chk_some h
        obtain ⟨hb28, h⟩ := chk_some h
        refine jw_piald hX hT ho28_5 hb28 dX4_at_28 ?_
        exact hret _ _ _ _ _ _ (by decide) (by decide) dX4_at_29 (hro _ (Option.some.inj h).symm)
      · rw [if_neg hc] at h
        refine jw_iconst (v := (-1 : Int32)) hX dX4_at_21 (by decide) ?_
        exact hret _ _ _ _ _ _ (by decide) (by decide) dX4_at_22 (hro _ (Option.some.inj h).symm)
set_option maxRecDepth 100000 in
set_option maxHeartbeats 4000000 in
theorem kX4_at {l : Launch} {D : va_G} {tys : List (ClassId × FieldType)} {cI cZ cO cJ : ClassId} {gs : JP} {S : PS} {v0 : Nat} {v1 : Int32} {r : Int32} (hT : tys = jTy cI cZ cO cJ) (h : fX4_at S v0 v1 = some r) : CC l (GP gs) D tys yX4_at wsX4_at rmX4_at [.ref v0, .int v1] (pW cI cO S) (fun ov w2 => ov = some (.int r) ∧ w2 = (pW cI cO S)) := by
  refine CC_of (cc := cX4_at) (maxL := 2) (ret := (some .int)) (by decide) rfl (Nat.le_of_ble_eq_true rfl) ?_
  intro X hD hL hT0 hGX hX rI rZ rV rA
  exact sX4_at (post := fun ov w2 => ov = some (.int r) ∧ w2 = (pW cI cO S)) hX (hT0.trans hT) hGX (fun cells slots w9 pc lv v => rI cells slots w9 pc lv v rfl) (o := r) (fun v9 e9 => by cases e9; exact ⟨rfl, rfl⟩) h
/-! X4_add -/
abbrev rmX4_add : Room := { frames := 0, cells := 0, slots := 0, locals := 0 }
theorem hdX4_add : yX4_add.cls = RX4 ∧ yX4_add.cls ≠ "java/lang/invoke/MethodHandle" ∧ yX4_add.cls ≠ "java/lang/invoke/VarHandle" ∧ (parseMethodDescriptor yX4_add.desc).map (fun d => d.parameters.length) = some 1 := by decide +kernel
theorem lkX4_add_21 : Cond.fieldLink RX4 21 RX4 (TX4 1).2.1 (TX4 1).2.2.1 ∈ wsX4_add := by decide +kernel
theorem inX4_add_5 : ∀ w ∈ wsX40, w ∈ wsX4_add := fun _ h => List.mem_cons_of_mem _ (List.mem_append_right _ h)
theorem lkX4_add_15 : Cond.fieldLink RX4 15 RX4 (TX4 0).2.1 (TX4 0).2.2.1 ∈ wsX4_add := by decide +kernel
def fX4_add (S : PS) (v0 : Nat) (v1 : Int32) : Option PS := chk (okP S v0 5) ((if (sI S 51 v0) < 0 then some (S) else chk (okP S v0 5) (chk (okP S v0 5) (bP (sR S 50 v0) (fun q12 => chk (okP S q12 8) ((if (nI (sN S q12)) ≤ (sI S 51 v0) then some (S) else chk (okP S v0 5) (bP (sR S 50 v0) (fun q20 => chk (okP S v0 5) (chk (okP S q20 8) (chk (inB (sI S 51 v0) (sN S q20)) (bnd (pA S q20 ((sI S 51 v0)).toNatClampNeg v1) (fun w28 => chk (okP w28 v0 5) (chk (okP w28 v0 5) (bnd (pI w28 51 v0 ((sI w28 51 v0) + (1 : Int32))) (fun w36 => some w36))))))))))))))))
set_option maxRecDepth 100000 in
set_option maxHeartbeats 4000000 in
theorem sX4_add {X : JX} {cI cZ cO cJ : ClassId} {gs : JP} {post : Option Value → va_W → Prop} (hX : jOK X cX4_add 2 wsX4_add RX4 rmX4_add) (hT : jT X = jTy cI cZ cO cJ) (hGX : jG X (GP gs)) (hret : jRV X cX4_add rmX4_add post) {o : PS} (hro : ∀  (w9 : PS), o = w9 → post none (pW cI cO w9))  {S : PS} {v0 : Nat} {v1 : Int32} (h : fX4_add S v0 v1 = some o) : JW X 0 0 (pW cI cO S) 0 [(0, .ref v0), (1, .int v1)] [] := by
  unfold fX4_add at h
  refine jw_aload_n hX dX4_add_0 rfl 0 rfl ?_
  obtain ⟨ho1_1, h⟩ := chk_some h
  refine jw_pgetI hX hT 5 1 rfl (by decide) (by decide) rfl inX4_add_5 rfl lkX4_add_21 ho1_1 dX4_add_1 ?_
  refine jw_if_lt (tgt := 39) hX dX4_add_4 (by decide) (fun hc => ?_) (fun hc => ?_)
  · rw [if_pos hc] at h
    exact hret _ _ _ _ _ (by decide) (by decide) dX4_add_39 (hro _ (Option.some.inj h).symm)
  · rw [if_neg hc] at h
    refine jw_aload_n hX dX4_add_7 rfl 0 rfl ?_
    obtain ⟨ho8_1, h⟩ := chk_some h
    refine jw_pgetI hX hT 5 1 rfl (by decide) (by decide) rfl inX4_add_5 rfl lkX4_add_21 ho8_1 dX4_add_8 ?_
    refine jw_aload_n hX dX4_add_11 rfl 0 rfl ?_
    obtain ⟨ho12_4, h⟩ := chk_some h
    obtain ⟨q12, hr12, h⟩ := bP_some h
    refine jw_pgetR hX hT 5 0 rfl (by decide) (by decide) rfl inX4_add_5 rfl lkX4_add_15 ho12_4 hr12 dX4_add_12 ?_
    obtain ⟨ho15_7, h⟩ := chk_some h
    refine jw_pialen hX hT ho15_7 dX4_add_15 ?_
    refine jw_icmp_ge (tgt := 39) hX dX4_add_16 (by decide) (fun hc => ?_) (fun hc => ?_)
    · rw [if_pos hc] at h
      exact hret _ _ _ _ _ (by decide) (by decide) dX4_add_39 (hro _ (Option.some.inj h).symm)
    · rw [if_neg hc] at h
      refine jw_aload_n hX dX4_add_19 rfl 0 rfl ?_
      obtain ⟨ho20_1, h⟩ := chk_some h
      obtain ⟨q20, hr20, h⟩ := bP_some h
      refine jw_pgetR hX hT 5 0 rfl (by decide) (by decide) rfl inX4_add_5 rfl lkX4_add_15 ho20_1 hr20 dX4_add_20 ?_
      refine jw_aload_n hX dX4_add_23 rfl 0 rfl ?_
      obtain ⟨ho24_5, h⟩ := chk_some h
      refine jw_pgetI hX hT 5 1 rfl (by decide) (by decide) rfl inX4_add_5 rfl lkX4_add_21 ho24_5 dX4_add_24 ?_
      refine jw_iload_n hX dX4_add_27 rfl 1 rfl ?_
      obtain ⟨ho28_8, h⟩ := chk_some h
      obtain ⟨hb28, h⟩ := chk_some h
      refine jw_piast hX hT ho28_8 hb28 dX4_add_28 (fun w28 e28 => ?_)
      replace h := bnd_some h w28 e28
      clear e28
      refine jw_aload_n hX dX4_add_29 rfl 0 rfl ?_
      refine jw_dup hX dX4_add_30 rfl ?_
      obtain ⟨ho31_15, h⟩ := chk_some h
      refine jw_pgetI hX hT 5 1 rfl (by decide) (by decide) rfl inX4_add_5 rfl lkX4_add_21 ho31_15 dX4_add_31 ?_
      refine jw_iconst (v := (1 : Int32)) hX dX4_add_34 (by decide) ?_
      refine jw_iadd hX dX4_add_35 ?_
      obtain ⟨ho36_19, h⟩ := chk_some h
      refine jw_pputI hX hT 5 1 rfl (by decide) (by decide) rfl inX4_add_5 rfl lkX4_add_21 tyX4 tyX4_ok nmX4 rfl (by decide +kernel) ho36_19 dX4_add_36 (fun w36 e36 => ?_)
      replace h := bnd_some h w36 e36
      clear e36
      exact hret _ _ _ _ _ (by decide) (by decide) dX4_add_39 (hro _ (Option.some.inj h).symm)
set_option maxRecDepth 100000 in
set_option maxHeartbeats 4000000 in
theorem kX4_add {l : Launch} {D : va_G} {tys : List (ClassId × FieldType)} {cI cZ cO cJ : ClassId} {gs : JP} {S : PS} {v0 : Nat} {v1 : Int32} {w1 : PS} (hT : tys = jTy cI cZ cO cJ) (h : fX4_add S v0 v1 = some w1) : CC l (GP gs) D tys yX4_add wsX4_add rmX4_add [.ref v0, .int v1] (pW cI cO S) (fun ov w2 => ov = none ∧ w2 = (pW cI cO w1)) := by
  refine CC_of (cc := cX4_add) (maxL := 2) (ret := none) (by decide) rfl (Nat.le_of_ble_eq_true rfl) ?_
  intro X hD hL hT0 hGX hX rI rZ rV rA
  exact sX4_add (post := fun ov w2 => ov = none ∧ w2 = (pW cI cO w1)) hX (hT0.trans hT) hGX (fun cells slots w9 pc lv => rV cells slots w9 pc lv rfl) (o := w1) (fun w9 e9 => by cases e9; exact ⟨rfl, rfl⟩) h
/-! X4_copy -/
abbrev rmX4_copy : Room := { frames := 1, cells := 0, slots := 0, locals := 21 }
theorem hdX4_copy : yX4_copy.cls = RX4 ∧ yX4_copy.cls ≠ "java/lang/invoke/MethodHandle" ∧ yX4_copy.cls ≠ "java/lang/invoke/VarHandle" ∧ (parseMethodDescriptor yX4_copy.desc).map (fun d => d.parameters.length) = some 1 := by decide +kernel
def fX4_copy_L6 (n : Nat) : Nat → PS → Nat → Nat → Int32 → Option (PS)
  | 0, _, _, _, _ => none
  | k + 1, S, v0, v1, v2 => chk (okP S v1 5) (bP (fX4_size S v1) (fun r8 => (if r8 ≤ v2 then some (S) else chk (okP S v1 5) (bP (fX4_at S v1 v2) (fun r17 => chk (okP S v0 5) (bP (fX4_add S v0 r17) (fun w20 => fX4_copy_L6 n k w20 v0 v1 (v2 + (1 : Int32)))))))))
def fX4_copy (n : Nat) (S : PS) (v0 : Nat) (v1 : Nat) : Option PS := chk (okP S v0 5) (bP (fX4_empty S v0) (fun w1 => bL1 (fX4_copy_L6 n n w1 v0 v1 (0 : Int32)) (fun wx6 => some wx6)))
set_option maxRecDepth 100000 in
set_option maxHeartbeats 4000000 in
theorem sX4_copy_L6 {X : JX} {cI cZ cO cJ : ClassId} {gs : JP} {n : Nat} {post : Option Value → va_W → Prop} (hX : jOK X cX4_copy 3 wsX4_copy RX4 rmX4_copy) (hT : jT X = jTy cI cZ cO cJ) (hGX : jG X (GP gs)) (hret : jRV X cX4_copy rmX4_copy post) {o : (PS)} (hex : ∀ (w9 : PS), o = w9 → JW X 0 0 (pW cI cO w9) 29 [] [])  : ∀ (k : Nat) (S : PS) (v0 : Nat) (v1 : Nat) (v2 : Int32), fX4_copy_L6 n k S v0 v1 v2 = some o → JW X 0 0 (pW cI cO S) 6 [(0, .ref v0), (1, .ref v1), (2, .int v2)] [] := by
  intro k
  induction k with
  | zero => intro S v0 v1 v2 h; cases h
  | succ k hrec0 =>
    intro S v0 v1 v2 h
    unfold fX4_copy_L6 at h
    refine jw_iload_n hX dX4_copy_6 rfl 2 rfl ?_
    refine jw_aload_n hX dX4_copy_7 rfl 1 rfl ?_
    obtain ⟨ho8_2, h⟩ := chk_some h
    obtain ⟨r8, hc8, h⟩ := bP_some h
    refine jw_pVi (As := []) hX (GP_ok gs) hGX 0 (kX4_size hT hc8) gX4_copy_X4_size rfl hdX4_size ⟨by decide, by decide⟩ 5 rfl (by decide) ho8_2 rfl (Nat.le_of_ble_eq_true rfl) dX4_copy_8 rfl rfl ⟨by decide, by decide⟩ ?_
    refine jw_icmp_ge (tgt := 29) hX dX4_copy_11 (by decide) (fun hc => ?_) (fun hc => ?_)
    · rw [if_pos hc] at h
      refine jw_sub [] [] rfl ?_
      exact hex _ (Option.some.inj h).symm
    · rw [if_neg hc] at h
      refine jw_aload_n hX dX4_copy_14 rfl 0 rfl ?_
      refine jw_aload_n hX dX4_copy_15 rfl 1 rfl ?_
      refine jw_iload_n hX dX4_copy_16 rfl 2 rfl ?_
      obtain ⟨ho17_3, h⟩ := chk_some h
      obtain ⟨r17, hc17, h⟩ := bP_some h
      refine jw_pVi (As := [.int v2]) hX (GP_ok gs) hGX 1 (kX4_at hT hc17) gX4_copy_X4_at rfl hdX4_at ⟨by decide, by decide⟩ 5 rfl (by decide) ho17_3 rfl (Nat.le_of_ble_eq_true rfl) dX4_copy_17 rfl rfl ⟨by decide, by decide⟩ ?_
      obtain ⟨ho20_6, h⟩ := chk_some h
      obtain ⟨w20, hc20, h⟩ := bP_some h
      refine jw_pVv (As := [.int r17]) hX (GP_ok gs) hGX 1 (kX4_add hT hc20) gX4_copy_X4_add rfl hdX4_add ⟨by decide, by decide⟩ 5 rfl (by decide) ho20_6 rfl (Nat.le_of_ble_eq_true rfl) dX4_copy_20 rfl rfl ⟨by decide, by decide⟩ ?_
      refine jw_iinc (v := (v2 + (1 : Int32))) hX [(2, .int (v2 + (1 : Int32))), (0, .ref v0), (1, .ref v1)] dX4_copy_23 2 rfl (by first | rfl | (congr 1; decide)) (by decide) rfl ?_
      refine jw_goto (tgt := 6) hX dX4_copy_26 (by decide) ?_
      refine jw_sub [1, 2, 0] [(0, .ref v0), (1, .ref v1), (2, .int (v2 + (1 : Int32)))] rfl ?_
      exact hrec0 _ _ _ _ h
set_option maxRecDepth 100000 in
set_option maxHeartbeats 4000000 in
theorem sX4_copy {X : JX} {cI cZ cO cJ : ClassId} {gs : JP} {n : Nat} {post : Option Value → va_W → Prop} (hX : jOK X cX4_copy 3 wsX4_copy RX4 rmX4_copy) (hT : jT X = jTy cI cZ cO cJ) (hGX : jG X (GP gs)) (hret : jRV X cX4_copy rmX4_copy post) {o : PS} (hro : ∀  (w9 : PS), o = w9 → post none (pW cI cO w9))  {S : PS} {v0 : Nat} {v1 : Nat} (h : fX4_copy n S v0 v1 = some o) : JW X 0 0 (pW cI cO S) 0 [(0, .ref v0), (1, .ref v1)] [] := by
  unfold fX4_copy at h
  refine jw_aload_n hX dX4_copy_0 rfl 0 rfl ?_
  obtain ⟨ho1_1, h⟩ := chk_some h
  obtain ⟨w1, hc1, h⟩ := bP_some h
  refine jw_pVv (As := []) hX (GP_ok gs) hGX 0 (kX4_empty hT hc1) gX4_copy_X4_empty rfl hdX4_empty ⟨by decide, by decide⟩ 5 rfl (by decide) ho1_1 rfl (Nat.le_of_ble_eq_true rfl) dX4_copy_1 rfl rfl ⟨by decide, by decide⟩ ?_
  refine jw_iconst (v := (0 : Int32)) hX dX4_copy_4 (by decide) ?_
  refine jw_istore_n hX [(2, .int (0 : Int32)), (0, .ref v0), (1, .ref v1)] dX4_copy_5 rfl (by decide) rfl ?_
  refine jw_sub [1, 2, 0] [(0, .ref v0), (1, .ref v1), (2, .int (0 : Int32))] rfl ?_
  obtain ⟨wx6, hl6, h⟩ := bL1_some h
  refine sX4_copy_L6 hX hT hGX hret (o := wx6) (fun q0 e9 => ?_) n _ _ _ _ hl6
  cases e9
  exact hret _ _ _ _ _ (by decide) (by decide) dX4_copy_29 (hro _ (Option.some.inj h).symm)
set_option maxRecDepth 100000 in
set_option maxHeartbeats 4000000 in
theorem kX4_copy {l : Launch} {D : va_G} {tys : List (ClassId × FieldType)} {cI cZ cO cJ : ClassId} {gs : JP} {n : Nat} {S : PS} {v0 : Nat} {v1 : Nat} {w1 : PS} (hT : tys = jTy cI cZ cO cJ) (h : fX4_copy n S v0 v1 = some w1) : CC l (GP gs) D tys yX4_copy wsX4_copy rmX4_copy [.ref v0, .ref v1] (pW cI cO S) (fun ov w2 => ov = none ∧ w2 = (pW cI cO w1)) := by
  refine CC_of (cc := cX4_copy) (maxL := 3) (ret := none) (by decide) rfl (Nat.le_of_ble_eq_true rfl) ?_
  intro X hD hL hT0 hGX hX rI rZ rV rA
  exact sX4_copy (post := fun ov w2 => ov = none ∧ w2 = (pW cI cO w1)) hX (hT0.trans hT) hGX (fun cells slots w9 pc lv => rV cells slots w9 pc lv rfl) (o := w1) (fun w9 e9 => by cases e9; exact ⟨rfl, rfl⟩) h
/-! X6_isAccount -/
abbrev rmX6_isAccount : Room := { frames := 0, cells := 0, slots := 0, locals := 0 }
theorem hdX6_isAccount : yX6_isAccount.cls ≠ "java/lang/invoke/MethodHandle" ∧ yX6_isAccount.cls ≠ "java/lang/invoke/VarHandle" ∧ (parseMethodDescriptor yX6_isAccount.desc).map (fun d => d.parameters.length) = some 1 := by decide +kernel
def fX6_isAccount (v0 : Int32) : Option Int32 := (if v0 < (97 : Int32) then chk (b01 (0 : Int32)) (some (0 : Int32)) else (if (105 : Int32) ≤ v0 then chk (b01 (0 : Int32)) (some (0 : Int32)) else chk (b01 (1 : Int32)) (some (1 : Int32))))
set_option maxRecDepth 100000 in
set_option maxHeartbeats 4000000 in
theorem sX6_isAccount {X : JX} {cI cZ cO cJ : ClassId} {gs : JP} {wv : va_W} {post : Option Value → va_W → Prop} (hX : jOK X cX6_isAccount 1 wsX6_isAccount RX6 rmX6_isAccount) (hT : jT X = jTy cI cZ cO cJ) (hGX : jG X (GP gs)) (hret : jRZ X cX6_isAccount rmX6_isAccount post) {o : Int32} (hro : ∀ (v9 : Int32), o = v9 → post (some (.int v9)) wv)  {v0 : Int32} (h : fX6_isAccount v0 = some o) : JW X 0 0 wv 0 [(0, .int v0)] [] := by
  unfold fX6_isAccount at h
  refine jw_iload_n hX dX6_isAccount_0 rfl 0 rfl ?_
  refine jw_bipush (v := (97 : Int32)) hX dX6_isAccount_1 (by decide) ?_
  refine jw_icmp_lt (tgt := 16) hX dX6_isAccount_3 (by decide) (fun hc => ?_) (fun hc => ?_)
  · rw [if_pos hc] at h
    refine jw_iconst (v := (0 : Int32)) hX dX6_isAccount_16 (by decide) ?_
    obtain ⟨hz17, h⟩ := chk_some h
    exact hret _ _ _ _ _ _ (b01_or hz17) (by decide) (by decide) dX6_isAccount_17 (hro _ (Option.some.inj h).symm)
  · rw [if_neg hc] at h
    refine jw_iload_n hX dX6_isAccount_6 rfl 0 rfl ?_
    refine jw_bipush (v := (105 : Int32)) hX dX6_isAccount_7 (by decide) ?_
    refine jw_icmp_ge (tgt := 16) hX dX6_isAccount_9 (by decide) (fun hc => ?_) (fun hc => ?_)
    · rw [if_pos hc] at h
      refine jw_iconst (v := (0 : Int32)) hX dX6_isAccount_16 (by decide) ?_
      obtain ⟨hz17, h⟩ := chk_some h
      exact hret _ _ _ _ _ _ (b01_or hz17) (by decide) (by decide) dX6_isAccount_17 (hro _ (Option.some.inj h).symm)
    · rw [if_neg hc] at h
      refine jw_iconst (v := (1 : Int32)) hX dX6_isAccount_12 (by decide) ?_
      refine jw_goto (tgt := 17) hX dX6_isAccount_13 (by decide) ?_
      obtain ⟨hz17, h⟩ := chk_some h
      exact hret _ _ _ _ _ _ (b01_or hz17) (by decide) (by decide) dX6_isAccount_17 (hro _ (Option.some.inj h).symm)
set_option maxRecDepth 100000 in
set_option maxHeartbeats 4000000 in
theorem kX6_isAccount {l : Launch} {D : va_G} {tys : List (ClassId × FieldType)} {cI cZ cO cJ : ClassId} {gs : JP} {wv : va_W} {v0 : Int32} {r : Int32} (hT : tys = jTy cI cZ cO cJ) (h : fX6_isAccount v0 = some r) : CC l (GP gs) D tys yX6_isAccount wsX6_isAccount rmX6_isAccount [.int v0] wv (fun ov w2 => ov = some (.int r) ∧ w2 = wv) := by
  refine CC_of (cc := cX6_isAccount) (maxL := 1) (ret := (some .boolean)) (by decide) rfl (Nat.le_of_ble_eq_true rfl) ?_
  intro X hD hL hT0 hGX hX rI rZ rV rA
  exact sX6_isAccount (post := fun ov w2 => ov = some (.int r) ∧ w2 = wv) hX (hT0.trans hT) hGX (fun cells slots w9 pc lv v => rZ cells slots w9 pc lv v rfl) (o := r) (fun v9 e9 => by cases e9; exact ⟨rfl, rfl⟩) h
/-! X4_last -/
abbrev rmX4_last : Room := { frames := 1, cells := 0, slots := 0, locals := 21 }
theorem hdX4_last : yX4_last.cls = RX4 ∧ yX4_last.cls ≠ "java/lang/invoke/MethodHandle" ∧ yX4_last.cls ≠ "java/lang/invoke/VarHandle" ∧ (parseMethodDescriptor yX4_last.desc).map (fun d => d.parameters.length) = some 0 := by decide +kernel
theorem lkX4_last_21 : Cond.fieldLink RX4 21 RX4 (TX4 1).2.1 (TX4 1).2.2.1 ∈ wsX4_last := by decide +kernel
theorem inX4_last_5 : ∀ w ∈ wsX40, w ∈ wsX4_last := fun _ h => List.mem_cons_of_mem _ (List.mem_append_right _ h)
def fX4_last (S : PS) (v0 : Nat) : Option Int32 := chk (okP S v0 5) (chk (okP S v0 5) (bP (fX4_at S v0 ((sI S 51 v0) - (1 : Int32))) (fun r7 => some r7)))
set_option maxRecDepth 100000 in
set_option maxHeartbeats 4000000 in
theorem sX4_last {X : JX} {cI cZ cO cJ : ClassId} {gs : JP} {S : PS} {post : Option Value → va_W → Prop} (hX : jOK X cX4_last 1 wsX4_last RX4 rmX4_last) (hT : jT X = jTy cI cZ cO cJ) (hGX : jG X (GP gs)) (hret : jRI X cX4_last rmX4_last post) {o : Int32} (hro : ∀ (v9 : Int32), o = v9 → post (some (.int v9)) (pW cI cO S))  {v0 : Nat} (h : fX4_last S v0 = some o) : JW X 0 0 (pW cI cO S) 0 [(0, .ref v0)] [] := by
  unfold fX4_last at h
  refine jw_aload_n hX dX4_last_0 rfl 0 rfl ?_
  refine jw_aload_n hX dX4_last_1 rfl 0 rfl ?_
  obtain ⟨ho2_2, h⟩ := chk_some h
  refine jw_pgetI hX hT 5 1 rfl (by decide) (by decide) rfl inX4_last_5 rfl lkX4_last_21 ho2_2 dX4_last_2 ?_
  refine jw_iconst (v := (1 : Int32)) hX dX4_last_5 (by decide) ?_
  refine jw_isub hX dX4_last_6 ?_
  obtain ⟨ho7_6, h⟩ := chk_some h
  obtain ⟨r7, hc7, h⟩ := bP_some h
  refine jw_pVi (As := [.int ((sI S 51 v0) - (1 : Int32))]) hX (GP_ok gs) hGX 1 (kX4_at hT hc7) gX4_last_X4_at rfl hdX4_at ⟨by decide, by decide⟩ 5 rfl (by decide) ho7_6 rfl (Nat.le_of_ble_eq_true rfl) dX4_last_7 rfl rfl ⟨by decide, by decide⟩ ?_
  exact hret _ _ _ _ _ _ (by decide) (by decide) dX4_last_10 (hro _ (Option.some.inj h).symm)
set_option maxRecDepth 100000 in
set_option maxHeartbeats 4000000 in
theorem kX4_last {l : Launch} {D : va_G} {tys : List (ClassId × FieldType)} {cI cZ cO cJ : ClassId} {gs : JP} {S : PS} {v0 : Nat} {r : Int32} (hT : tys = jTy cI cZ cO cJ) (h : fX4_last S v0 = some r) : CC l (GP gs) D tys yX4_last wsX4_last rmX4_last [.ref v0] (pW cI cO S) (fun ov w2 => ov = some (.int r) ∧ w2 = (pW cI cO S)) := by
  refine CC_of (cc := cX4_last) (maxL := 1) (ret := (some .int)) (by decide) rfl (Nat.le_of_ble_eq_true rfl) ?_
  intro X hD hL hT0 hGX hX rI rZ rV rA
  exact sX4_last (post := fun ov w2 => ov = some (.int r) ∧ w2 = (pW cI cO S)) hX (hT0.trans hT) hGX (fun cells slots w9 pc lv v => rI cells slots w9 pc lv v rfl) (o := r) (fun v9 e9 => by cases e9; exact ⟨rfl, rfl⟩) h
/-! X5_addBlankBehindItem -/
abbrev rmX5_addBlankBehindItem : Room := { frames := 2, cells := 0, slots := 0, locals := 41 }
theorem hdX5_addBlankBehindItem : yX5_addBlankBehindItem.cls ≠ "java/lang/invoke/MethodHandle" ∧ yX5_addBlankBehindItem.cls ≠ "java/lang/invoke/VarHandle" ∧ (parseMethodDescriptor yX5_addBlankBehindItem.desc).map (fun d => d.parameters.length) = some 1 := by decide +kernel
def fX5_addBlankBehindItem (S : PS) (v0 : Nat) : Option PS := chk (okP S v0 5) (bP (fX4_size S v0) (fun r1 => (if r1 ≤ 0 then some (S) else chk (okP S v0 5) (bP (fX4_last S v0) (fun r8 => (if r8 = (40 : Int32) then some (S) else chk (okP S v0 5) (bP (fX4_add S v0 (32 : Int32)) (fun w19 => some w19))))))))
set_option maxRecDepth 100000 in
set_option maxHeartbeats 4000000 in
theorem sX5_addBlankBehindItem {X : JX} {cI cZ cO cJ : ClassId} {gs : JP} {post : Option Value → va_W → Prop} (hX : jOK X cX5_addBlankBehindItem 1 wsX5_addBlankBehindItem RX5 rmX5_addBlankBehindItem) (hT : jT X = jTy cI cZ cO cJ) (hGX : jG X (GP gs)) (hret : jRV X cX5_addBlankBehindItem rmX5_addBlankBehindItem post) {o : PS} (hro : ∀  (w9 : PS), o = w9 → post none (pW cI cO w9))  {S : PS} {v0 : Nat} (h : fX5_addBlankBehindItem S v0 = some o) : JW X 0 0 (pW cI cO S) 0 [(0, .ref v0)] [] := by
  unfold fX5_addBlankBehindItem at h
  refine jw_aload_n hX dX5_addBlankBehindItem_0 rfl 0 rfl ?_
  obtain ⟨ho1_1, h⟩ := chk_some h
  obtain ⟨r1, hc1, h⟩ := bP_some h
  refine jw_pVi (As := []) hX (GP_ok gs) hGX 0 (kX4_size hT hc1) gX5_addBlankBehindItem_X4_size rfl hdX4_size ⟨by decide, by decide⟩ 5 rfl (by decide) ho1_1 rfl (Nat.le_of_ble_eq_true rfl) dX5_addBlankBehindItem_1 rfl rfl ⟨by decide, by decide⟩ ?_
  refine jw_if_le (tgt := 22) hX dX5_addBlankBehindItem_4 (by decide) (fun hc => ?_) (fun hc => ?_)
  · rw [if_pos hc] at h
    exact hret _ _ _ _ _ (by decide) (by decide) dX5_addBlankBehindItem_22 (hro _ (Option.some.inj h).symm)
  · rw [if_neg hc] at h
    refine jw_aload_n hX dX5_addBlankBehindItem_7 rfl 0 rfl ?_
    obtain ⟨ho8_1, h⟩ := chk_some h
    obtain ⟨r8, hc8, h⟩ := bP_some h
    refine jw_pVi (As := []) hX (GP_ok gs) hGX 0 (kX4_last hT hc8) gX5_addBlankBehindItem_X4_last rfl hdX4_last ⟨by decide, by decide⟩ 5 rfl (by decide) ho8_1 rfl (Nat.le_of_ble_eq_true rfl) dX5_addBlankBehindItem_8 rfl rfl ⟨by decide, by decide⟩ ?_
    refine jw_bipush (v := (40 : Int32)) hX dX5_addBlankBehindItem_11 (by decide) ?_
    refine jw_icmp_eq (tgt := 22) hX dX5_addBlankBehindItem_13 (by decide) (fun hc => ?_) (fun hc => ?_)
    · rw [if_pos hc] at h
      exact hret _ _ _ _ _ (by decide) (by decide) dX5_addBlankBehindItem_22 (hro _ (Option.some.inj h).symm)
    · rw [if_neg hc] at h
      refine jw_aload_n hX dX5_addBlankBehindItem_16 rfl 0 rfl ?_
      refine jw_bipush (v := (32 : Int32)) hX dX5_addBlankBehindItem_17 (by decide) ?_
      obtain ⟨ho19_2, h⟩ := chk_some h
      obtain ⟨w19, hc19, h⟩ := bP_some h
      refine jw_pVv (As := [.int (32 : Int32)]) hX (GP_ok gs) hGX 1 (kX4_add hT hc19) gX5_addBlankBehindItem_X4_add rfl hdX4_add ⟨by decide, by decide⟩ 5 rfl (by decide) ho19_2 rfl (Nat.le_of_ble_eq_true rfl) dX5_addBlankBehindItem_19 rfl rfl ⟨by decide, by decide⟩ ?_
      exact hret _ _ _ _ _ (by decide) (by decide) dX5_addBlankBehindItem_22 (hro _ (Option.some.inj h).symm)
set_option maxRecDepth 100000 in
set_option maxHeartbeats 4000000 in
theorem kX5_addBlankBehindItem {l : Launch} {D : va_G} {tys : List (ClassId × FieldType)} {cI cZ cO cJ : ClassId} {gs : JP} {S : PS} {v0 : Nat} {w1 : PS} (hT : tys = jTy cI cZ cO cJ) (h : fX5_addBlankBehindItem S v0 = some w1) : CC l (GP gs) D tys yX5_addBlankBehindItem wsX5_addBlankBehindItem rmX5_addBlankBehindItem [.ref v0] (pW cI cO S) (fun ov w2 => ov = none ∧ w2 = (pW cI cO w1)) := by
  refine CC_of (cc := cX5_addBlankBehindItem) (maxL := 1) (ret := none) (by decide) rfl (Nat.le_of_ble_eq_true rfl) ?_
  intro X hD hL hT0 hGX hX rI rZ rV rA
  exact sX5_addBlankBehindItem (post := fun ov w2 => ov = none ∧ w2 = (pW cI cO w1)) hX (hT0.trans hT) hGX (fun cells slots w9 pc lv => rV cells slots w9 pc lv rfl) (o := w1) (fun w9 e9 => by cases e9; exact ⟨rfl, rfl⟩) h
/-! X6_isDigit -/
abbrev rmX6_isDigit : Room := { frames := 0, cells := 0, slots := 0, locals := 0 }
theorem hdX6_isDigit : yX6_isDigit.cls ≠ "java/lang/invoke/MethodHandle" ∧ yX6_isDigit.cls ≠ "java/lang/invoke/VarHandle" ∧ (parseMethodDescriptor yX6_isDigit.desc).map (fun d => d.parameters.length) = some 1 := by decide +kernel
def fX6_isDigit (v0 : Int32) : Option Int32 := (if v0 < (48 : Int32) then chk (b01 (0 : Int32)) (some (0 : Int32)) else (if (57 : Int32) < v0 then chk (b01 (0 : Int32)) (some (0 : Int32)) else chk (b01 (1 : Int32)) (some (1 : Int32))))
set_option maxRecDepth 100000 in
set_option maxHeartbeats 4000000 in
theorem sX6_isDigit {X : JX} {cI cZ cO cJ : ClassId} {gs : JP} {wv : va_W} {post : Option Value → va_W → Prop} (hX : jOK X cX6_isDigit 1 wsX6_isDigit RX6 rmX6_isDigit) (hT : jT X = jTy cI cZ cO cJ) (hGX : jG X (GP gs)) (hret : jRZ X cX6_isDigit rmX6_isDigit post) {o : Int32} (hro : ∀ (v9 : Int32), o = v9 → post (some (.int v9)) wv)  {v0 : Int32} (h : fX6_isDigit v0 = some o) : JW X 0 0 wv 0 [(0, .int v0)] [] := by
  unfold fX6_isDigit at h
  refine jw_iload_n hX dX6_isDigit_0 rfl 0 rfl ?_
  refine jw_bipush (v := (48 : Int32)) hX dX6_isDigit_1 (by decide) ?_
  refine jw_icmp_lt (tgt := 16) hX dX6_isDigit_3 (by decide) (fun hc => ?_) (fun hc => ?_)
  · rw [if_pos hc] at h
    refine jw_iconst (v := (0 : Int32)) hX dX6_isDigit_16 (by decide) ?_
    obtain ⟨hz17, h⟩ := chk_some h
    exact hret _ _ _ _ _ _ (b01_or hz17) (by decide) (by decide) dX6_isDigit_17 (hro _ (Option.some.inj h).symm)
  · rw [if_neg hc] at h
    refine jw_iload_n hX dX6_isDigit_6 rfl 0 rfl ?_
    refine jw_bipush (v := (57 : Int32)) hX dX6_isDigit_7 (by decide) ?_
    refine jw_icmp_gt (tgt := 16) hX dX6_isDigit_9 (by decide) (fun hc => ?_) (fun hc => ?_)
    · rw [if_pos hc] at h
      refine jw_iconst (v := (0 : Int32)) hX dX6_isDigit_16 (by decide) ?_
      obtain ⟨hz17, h⟩ := chk_some h
      exact hret _ _ _ _ _ _ (b01_or hz17) (by decide) (by decide) dX6_isDigit_17 (hro _ (Option.some.inj h).symm)
    · rw [if_neg hc] at h
      refine jw_iconst (v := (1 : Int32)) hX dX6_isDigit_12 (by decide) ?_
      refine jw_goto (tgt := 17) hX dX6_isDigit_13 (by decide) ?_
      obtain ⟨hz17, h⟩ := chk_some h
      exact hret _ _ _ _ _ _ (b01_or hz17) (by decide) (by decide) dX6_isDigit_17 (hro _ (Option.some.inj h).symm)
set_option maxRecDepth 100000 in
set_option maxHeartbeats 4000000 in
theorem kX6_isDigit {l : Launch} {D : va_G} {tys : List (ClassId × FieldType)} {cI cZ cO cJ : ClassId} {gs : JP} {wv : va_W} {v0 : Int32} {r : Int32} (hT : tys = jTy cI cZ cO cJ) (h : fX6_isDigit v0 = some r) : CC l (GP gs) D tys yX6_isDigit wsX6_isDigit rmX6_isDigit [.int v0] wv (fun ov w2 => ov = some (.int r) ∧ w2 = wv) := by
  refine CC_of (cc := cX6_isDigit) (maxL := 1) (ret := (some .boolean)) (by decide) rfl (Nat.le_of_ble_eq_true rfl) ?_
  intro X hD hL hT0 hGX hX rI rZ rV rA
  exact sX6_isDigit (post := fun ov w2 => ov = some (.int r) ∧ w2 = wv) hX (hT0.trans hT) hGX (fun cells slots w9 pc lv v => rZ cells slots w9 pc lv v rfl) (o := r) (fun v9 e9 => by cases e9; exact ⟨rfl, rfl⟩) h
/-! X5_addPosting -/
abbrev rmX5_addPosting : Room := { frames := 1, cells := 0, slots := 0, locals := 21 }
theorem hdX5_addPosting : yX5_addPosting.cls ≠ "java/lang/invoke/MethodHandle" ∧ yX5_addPosting.cls ≠ "java/lang/invoke/VarHandle" ∧ (parseMethodDescriptor yX5_addPosting.desc).map (fun d => d.parameters.length) = some 3 := by decide +kernel
theorem n1X5_addPosting_X6_isDigit : Cond.static yX6_isDigit ∈ wsX5_addPosting := by decide +kernel
theorem n2X5_addPosting_X6_isDigit : Cond.initialized yX6_isDigit.cls ∈ wsX5_addPosting := by decide +kernel
def fX5_addPosting_J89 (n : Nat) (rec : PS → Nat → Nat → Int32 → Int32 → Option (PS)) (S : PS) (v0 : Nat) (v2 : Nat) (v4 : Int32) : Option (PS) := chk (okP S v0 5) (bP (fX4_at S v0 v4) (fun r93 => chk (okP S v2 5) (bP (fX4_add S v2 r93) (fun w96 => rec w96 v0 v2 (1 : Int32) (v4 + (1 : Int32))))))
def fX5_addPosting_J67 (n : Nat) (rec : PS → Nat → Nat → Int32 → Int32 → Option (PS)) (S : PS) (v0 : Nat) (v2 : Nat) (v3 : Int32) (v4 : Int32) (t0 : Int32) : Option (PS) := chk (okP S v0 5) (bP (fX4_at S v0 v4) (fun r72 => (if r72 = (48 : Int32) then (if v3 = 0 then (if t0 = 0 then rec S v0 v2 v3 (v4 + (1 : Int32)) else fX5_addPosting_J89 n (rec) S v0 v2 v4) else fX5_addPosting_J89 n (rec) S v0 v2 v4) else fX5_addPosting_J89 n (rec) S v0 v2 v4)))
def fX5_addPosting_L27 (n : Nat) : Nat → PS → Nat → Nat → Int32 → Int32 → Option (PS)
  | 0, _, _, _, _, _ => none
  | k + 1, S, v0, v2, v3, v4 => chk (okP S v0 5) (bP (fX4_size S v0) (fun r30 => (if r30 ≤ v4 then some (S) else chk (okP S v0 5) (bP (fX4_at S v0 v4) (fun r39 => bP (fX6_isDigit r39) (fun r42 => (if r42 = 0 then some (S) else chk (okP S v0 5) (bP (fX4_at S v0 (v4 + (1 : Int32))) (fun r53 => bP (fX6_isDigit r53) (fun r56 => (if r56 = 0 then fX5_addPosting_J67 n (fX5_addPosting_L27 n k) S v0 v2 v3 v4 (1 : Int32) else fX5_addPosting_J67 n (fX5_addPosting_L27 n k) S v0 v2 v3 v4 (0 : Int32))))))))))))
def fX5_addPosting (n : Nat) (S : PS) (v0 : Nat) (v1 : Int32) (v2 : Nat) : Option PS := chk (okP S v0 5) (bP (fX4_at S v0 v1) (fun r3 => chk (okP S v2 5) (bP (fX4_add S v2 r3) (fun w6 => chk (okP w6 v0 5) (bP (fX4_at w6 v0 (v1 + (1 : Int32))) (fun r14 => chk (okP w6 v2 5) (bP (fX4_add w6 v2 r14) (fun w17 => bnd ((v1 + (2 : Int32))) (fun y25 => bL1 (fX5_addPosting_L27 n n w17 v0 v2 (0 : Int32) y25) (fun wx27 => some wx27))))))))))
set_option maxRecDepth 100000 in
set_option maxHeartbeats 4000000 in
theorem sX5_addPosting_J89 {X : JX} {cI cZ cO cJ : ClassId} {gs : JP} {n : Nat} {post : Option Value → va_W → Prop} (hX : jOK X cX5_addPosting 6 wsX5_addPosting RX5 rmX5_addPosting) (hT : jT X = jTy cI cZ cO cJ) (hGX : jG X (GP gs)) (hret : jRV X cX5_addPosting rmX5_addPosting post) {o : (PS)} {rec : PS → Nat → Nat → Int32 → Int32 → Option (PS)} {v0 : Nat} {v2 : Nat} {v4 : Int32} {S : PS} (hrec : ∀ (S : PS) (v0 : Nat) (v2 : Nat) (v3 : Int32) (v4 : Int32), rec S v0 v2 v3 v4 = some o → JW X 0 0 (pW cI cO S) 27 [(0, .ref v0), (2, .ref v2), (3, .int v3), (4, .int v4)] [])  (hex : ∀ (w9 : PS), o = w9 → JW X 0 0 (pW cI cO w9) 107 [] [])  (h : fX5_addPosting_J89 n rec S v0 v2 v4 = some o) : JW X 0 0 (pW cI cO S) 89 [(0, .ref v0), (2, .ref v2), (4, .int v4)] [] := by
  unfold fX5_addPosting_J89 at h
  refine jw_aload_n hX dX5_addPosting_89 rfl 1 rfl ?_
  refine jw_aload_n hX dX5_addPosting_90 rfl 0 rfl ?_
  refine jw_iload hX dX5_addPosting_91 2 rfl ?_
  obtain ⟨ho93_3, h⟩ := chk_some h
  obtain ⟨r93, hc93, h⟩ := bP_some h
  refine jw_pVi (As := [.int v4]) hX (GP_ok gs) hGX 1 (kX4_at hT hc93) gX5_addPosting_X4_at rfl hdX4_at ⟨by decide, by decide⟩ 5 rfl (by decide) ho93_3 rfl (Nat.le_of_ble_eq_true rfl) dX5_addPosting_93 rfl rfl ⟨by decide, by decide⟩ ?_
  obtain ⟨ho96_6, h⟩ := chk_some h
  obtain ⟨w96, hc96, h⟩ := bP_some h
  refine jw_pVv (As := [.int r93]) hX (GP_ok gs) hGX 1 (kX4_add hT hc96) gX5_addPosting_X4_add rfl hdX4_add ⟨by decide, by decide⟩ 5 rfl (by decide) ho96_6 rfl (Nat.le_of_ble_eq_true rfl) dX5_addPosting_96 rfl rfl ⟨by decide, by decide⟩ ?_
  refine jw_iconst (v := (1 : Int32)) hX dX5_addPosting_99 (by decide) ?_
  refine jw_istore_n hX [(3, .int (1 : Int32)), (0, .ref v0), (2, .ref v2), (4, .int v4)] dX5_addPosting_100 rfl (by decide) rfl ?_
  refine jw_iinc (v := (v4 + (1 : Int32))) hX [(4, .int (v4 + (1 : Int32))), (3, .int (1 : Int32)), (0, .ref v0), (2, .ref v2)] dX5_addPosting_101 3 rfl (by first | rfl | (congr 1; decide)) (by decide) rfl ?_
  refine jw_goto (tgt := 27) hX dX5_addPosting_104 (by decide) ?_
  refine jw_sub [2, 3, 1, 0] [(0, .ref v0), (2, .ref v2), (3, .int (1 : Int32)), (4, .int (v4 + (1 : Int32)))] rfl ?_
  exact hrec _ _ _ _ _ h
set_option maxRecDepth 100000 in
set_option maxHeartbeats 4000000 in
theorem sX5_addPosting_J67 {X : JX} {cI cZ cO cJ : ClassId} {gs : JP} {n : Nat} {post : Option Value → va_W → Prop} (hX : jOK X cX5_addPosting 6 wsX5_addPosting RX5 rmX5_addPosting) (hT : jT X = jTy cI cZ cO cJ) (hGX : jG X (GP gs)) (hret : jRV X cX5_addPosting rmX5_addPosting post) {o : (PS)} {rec : PS → Nat → Nat → Int32 → Int32 → Option (PS)} {v0 : Nat} {v2 : Nat} {v3 : Int32} {v4 : Int32} {t0 : Int32} {S : PS} (hrec : ∀ (S : PS) (v0 : Nat) (v2 : Nat) (v3 : Int32) (v4 : Int32), rec S v0 v2 v3 v4 = some o → JW X 0 0 (pW cI cO S) 27 [(0, .ref v0), (2, .ref v2), (3, .int v3), (4, .int v4)] [])  (hex : ∀ (w9 : PS), o = w9 → JW X 0 0 (pW cI cO w9) 107 [] [])  (h : fX5_addPosting_J67 n rec S v0 v2 v3 v4 t0 = some o) : JW X 0 0 (pW cI cO S) 67 [(0, .ref v0), (2, .ref v2), (3, .int v3), (4, .int v4)] [.int t0] := by
  unfold fX5_addPosting_J67 at h
  refine jw_istore hX [(5, .int t0), (0, .ref v0), (2, .ref v2), (3, .int v3), (4, .int v4)] dX5_addPosting_67 (by decide) rfl ?_
  refine jw_aload_n hX dX5_addPosting_69 rfl 1 rfl ?_
  refine jw_iload hX dX5_addPosting_70 4 rfl ?_
  obtain ⟨ho72_3, h⟩ := chk_some h
  obtain ⟨r72, hc72, h⟩ := bP_some h
  refine jw_pVi (As := [.int v4]) hX (GP_ok gs) hGX 1 (kX4_at hT hc72) gX5_addPosting_X4_at rfl hdX4_at ⟨by decide, by decide⟩ 5 rfl (by decide) ho72_3 rfl (Nat.le_of_ble_eq_true rfl) dX5_addPosting_72 rfl rfl ⟨by decide, by decide⟩ ?_
  refine jw_bipush (v := (48 : Int32)) hX dX5_addPosting_75 (by decide) ?_
  refine jw_icmp_ne (tgt := 89) hX dX5_addPosting_77 (by decide) (fun hc => ?_) (fun hc => ?_)
  · rw [if_neg hc] at h
    refine jw_sub [1, 2, 4] [(0, .ref v0), (2, .ref v2), (4, .int v4)] rfl ?_
    exact sX5_addPosting_J89 hX hT hGX hret hrec hex h
  · rw [if_pos hc] at h
    refine jw_iload_n hX dX5_addPosting_80 rfl 3 rfl ?_
    refine jw_if_ne (tgt := 89) hX dX5_addPosting_81 (by decide) (fun hc => ?_) (fun hc => ?_)
    · rw [if_neg hc] at h
      refine jw_sub [1, 2, 4] [(0, .ref v0), (2, .ref v2), (4, .int v4)] rfl ?_
      exact sX5_addPosting_J89 hX hT hGX hret hrec hex h
    · rw [if_pos hc] at h
      refine jw_iload hX dX5_addPosting_84 0 rfl ?_
      refine jw_if_eq (tgt := 101) hX dX5_addPosting_86 (by decide) (fun hc => ?_) (fun hc => ?_)
      · rw [if_pos hc] at h
        refine jw_iinc (v := (v4 + (1 : Int32))) hX [(4, .int (v4 + (1 : Int32))), (5, .int t0), (0, .ref v0), (2, .ref v2), (3, .int v3)] dX5_addPosting_101 4 rfl (by first | rfl | (congr 1; decide)) (by decide) rfl ?_
        refine jw_goto (tgt := 27) hX dX5_addPosting_104 (by decide) ?_
        refine jw_sub [2, 3, 4, 0] [(0, .ref v0), (2, .ref v2), (3, .int v3), (4, .int (v4 + (1 : Int32)))] rfl ?_
        exact hrec _ _ _ _ _ h
      · rw [if_neg hc] at h
        refine jw_sub [1, 2, 4] [(0, .ref v0), (2, .ref v2), (4, .int v4)] rfl ?_
        exact sX5_addPosting_J89 hX hT hGX hret hrec hex h
set_option maxRecDepth 100000 in
set_option maxHeartbeats 4000000 in
theorem sX5_addPosting_L27 {X : JX} {cI cZ cO cJ : ClassId} {gs : JP} {n : Nat} {post : Option Value → va_W → Prop} (hX : jOK X cX5_addPosting 6 wsX5_addPosting RX5 rmX5_addPosting) (hT : jT X = jTy cI cZ cO cJ) (hGX : jG X (GP gs)) (hret : jRV X cX5_addPosting rmX5_addPosting post) {o : (PS)} (hex : ∀ (w9 : PS), o = w9 → JW X 0 0 (pW cI cO w9) 107 [] [])  : ∀ (k : Nat) (S : PS) (v0 : Nat) (v2 : Nat) (v3 : Int32) (v4 : Int32), fX5_addPosting_L27 n k S v0 v2 v3 v4 = some o → JW X 0 0 (pW cI cO S) 27 [(0, .ref v0), (2, .ref v2), (3, .int v3), (4, .int v4)] [] := by
  intro k
  induction k with
  | zero => intro S v0 v2 v3 v4 h; cases h
  | succ k hrec0 =>
    intro S v0 v2 v3 v4 h
    unfold fX5_addPosting_L27 at h
    refine jw_iload hX dX5_addPosting_27 3 rfl ?_
    refine jw_aload_n hX dX5_addPosting_29 rfl 0 rfl ?_
    obtain ⟨ho30_2, h⟩ := chk_some h
    obtain ⟨r30, hc30, h⟩ := bP_some h
    refine jw_pVi (As := []) hX (GP_ok gs) hGX 0 (kX4_size hT hc30) gX5_addPosting_X4_size rfl hdX4_size ⟨by decide, by decide⟩ 5 rfl (by decide) ho30_2 rfl (Nat.le_of_ble_eq_true rfl) dX5_addPosting_30 rfl rfl ⟨by decide, by decide⟩ ?_
    refine jw_icmp_ge (tgt := 107) hX dX5_addPosting_33 (by decide) (fun hc => ?_) (fun hc => ?_)
    · rw [if_pos hc] at h
      refine jw_sub [] [] rfl ?_
      exact hex _ (Option.some.inj h).symm
    · rw [if_neg hc] at h
      refine jw_aload_n hX dX5_addPosting_36 rfl 0 rfl ?_
      refine jw_iload hX dX5_addPosting_37 3 rfl ?_
      obtain ⟨ho39_2, h⟩ := chk_some h
      obtain ⟨r39, hc39, h⟩ := bP_some h
      refine jw_pVi (As := [.int v4]) hX (GP_ok gs) hGX 1 (kX4_at hT hc39) gX5_addPosting_X4_at rfl hdX4_at ⟨by decide, by decide⟩ 5 rfl (by decide) ho39_2 rfl (Nat.le_of_ble_eq_true rfl) dX5_addPosting_39 rfl rfl ⟨by decide, by decide⟩ ?_
      obtain ⟨r42, hc42, h⟩ := bP_some h
      refine jw_pSNi (As := [.int r39]) hX (GP_ok gs) hGX 1 (kX6_isDigit hT hc42) gX5_addPosting_X6_isDigit_n51 rfl (gp_nm hGX (w := .methodLinkNest RX5 51 yX6_isDigit "Postlint") (by decide +kernel)) (Or.inl n1X5_addPosting_X6_isDigit) (Or.inl n2X5_addPosting_X6_isDigit) hdX6_isDigit ⟨by decide, by decide⟩ rfl (Nat.le_of_ble_eq_true rfl) dX5_addPosting_42 rfl rfl ⟨by decide, by decide⟩ ?_
      refine jw_if_eq (tgt := 107) hX dX5_addPosting_45 (by decide) (fun hc => ?_) (fun hc => ?_)
      · rw [if_pos hc] at h
        refine jw_sub [] [] rfl ?_
        exact hex _ (Option.some.inj h).symm
      · rw [if_neg hc] at h
        refine jw_aload_n hX dX5_addPosting_48 rfl 0 rfl ?_
        refine jw_iload hX dX5_addPosting_49 3 rfl ?_
        refine jw_iconst (v := (1 : Int32)) hX dX5_addPosting_51 (by decide) ?_
        refine jw_iadd hX dX5_addPosting_52 ?_
        obtain ⟨ho53_4, h⟩ := chk_some h
        obtain ⟨r53, hc53, h⟩ := bP_some h
        refine jw_pVi (As := [.int (v4 + (1 : Int32))]) hX (GP_ok gs) hGX 1 (kX4_at hT hc53) gX5_addPosting_X4_at rfl hdX4_at ⟨by decide, by decide⟩ 5 rfl (by decide) ho53_4 rfl (Nat.le_of_ble_eq_true rfl) dX5_addPosting_53 rfl rfl ⟨by decide, by decide⟩ ?_
        obtain ⟨r56, hc56, h⟩ := bP_some h
        refine jw_pSNi (As := [.int r53]) hX (GP_ok gs) hGX 1 (kX6_isDigit hT hc56) gX5_addPosting_X6_isDigit_n51 rfl (gp_nm hGX (w := .methodLinkNest RX5 51 yX6_isDigit "Postlint") (by decide +kernel)) (Or.inl n1X5_addPosting_X6_isDigit) (Or.inl n2X5_addPosting_X6_isDigit) hdX6_isDigit ⟨by decide, by decide⟩ rfl (Nat.le_of_ble_eq_true rfl) dX5_addPosting_56 rfl rfl ⟨by decide, by decide⟩ ?_
        refine jw_if_ne (tgt := 66) hX dX5_addPosting_59 (by decide) (fun hc => ?_) (fun hc => ?_)
        · rw [if_neg hc] at h
          refine jw_iconst (v := (0 : Int32)) hX dX5_addPosting_66 (by decide) ?_
          exact sX5_addPosting_J67 hX hT hGX hret hrec0 hex h
        · rw [if_pos hc] at h
          refine jw_iconst (v := (1 : Int32)) hX dX5_addPosting_62 (by decide) ?_
          refine jw_goto (tgt := 67) hX dX5_addPosting_63 (by decide) ?_
          exact sX5_addPosting_J67 hX hT hGX hret hrec0 hex h
set_option maxRecDepth 100000 in
set_option maxHeartbeats 4000000 in
theorem sX5_addPosting {X : JX} {cI cZ cO cJ : ClassId} {gs : JP} {n : Nat} {post : Option Value → va_W → Prop} (hX : jOK X cX5_addPosting 6 wsX5_addPosting RX5 rmX5_addPosting) (hT : jT X = jTy cI cZ cO cJ) (hGX : jG X (GP gs)) (hret : jRV X cX5_addPosting rmX5_addPosting post) {o : PS} (hro : ∀  (w9 : PS), o = w9 → post none (pW cI cO w9))  {S : PS} {v0 : Nat} {v1 : Int32} {v2 : Nat} (h : fX5_addPosting n S v0 v1 v2 = some o) : JW X 0 0 (pW cI cO S) 0 [(0, .ref v0), (1, .int v1), (2, .ref v2)] [] := by
  unfold fX5_addPosting at h
  refine jw_aload_n hX dX5_addPosting_0 rfl 2 rfl ?_
  refine jw_aload_n hX dX5_addPosting_1 rfl 0 rfl ?_
  refine jw_iload_n hX dX5_addPosting_2 rfl 1 rfl ?_
  obtain ⟨ho3_3, h⟩ := chk_some h
  obtain ⟨r3, hc3, h⟩ := bP_some h
  refine jw_pVi (As := [.int v1]) hX (GP_ok gs) hGX 1 (kX4_at hT hc3) gX5_addPosting_X4_at rfl hdX4_at ⟨by decide, by decide⟩ 5 rfl (by decide) ho3_3 rfl (Nat.le_of_ble_eq_true rfl) dX5_addPosting_3 rfl rfl ⟨by decide, by decide⟩ ?_
  obtain ⟨ho6_6, h⟩ := chk_some h
  obtain ⟨w6, hc6, h⟩ := bP_some h
  refine jw_pVv (As := [.int r3]) hX (GP_ok gs) hGX 1 (kX4_add hT hc6) gX5_addPosting_X4_add rfl hdX4_add ⟨by decide, by decide⟩ 5 rfl (by decide) ho6_6 rfl (Nat.le_of_ble_eq_true rfl) dX5_addPosting_6 rfl rfl ⟨by decide, by decide⟩ ?_
  refine jw_aload_n hX dX5_addPosting_9 rfl 2 rfl ?_
  refine jw_aload_n hX dX5_addPosting_10 rfl 0 rfl ?_
  refine jw_iload_n hX dX5_addPosting_11 rfl 1 rfl ?_
  refine jw_iconst (v := (1 : Int32)) hX dX5_addPosting_12 (by decide) ?_
  refine jw_iadd hX dX5_addPosting_13 ?_
  obtain ⟨ho14_14, h⟩ := chk_some h
  obtain ⟨r14, hc14, h⟩ := bP_some h
  refine jw_pVi (As := [.int (v1 + (1 : Int32))]) hX (GP_ok gs) hGX 1 (kX4_at hT hc14) gX5_addPosting_X4_at rfl hdX4_at ⟨by decide, by decide⟩ 5 rfl (by decide) ho14_14 rfl (Nat.le_of_ble_eq_true rfl) dX5_addPosting_14 rfl rfl ⟨by decide, by decide⟩ ?_
  obtain ⟨ho17_17, h⟩ := chk_some h
  obtain ⟨w17, hc17, h⟩ := bP_some h
  refine jw_pVv (As := [.int r14]) hX (GP_ok gs) hGX 1 (kX4_add hT hc17) gX5_addPosting_X4_add rfl hdX4_add ⟨by decide, by decide⟩ 5 rfl (by decide) ho17_17 rfl (Nat.le_of_ble_eq_true rfl) dX5_addPosting_17 rfl rfl ⟨by decide, by decide⟩ ?_
  refine jw_iconst (v := (0 : Int32)) hX dX5_addPosting_20 (by decide) ?_
  refine jw_istore_n hX [(3, .int (0 : Int32)), (0, .ref v0), (1, .int v1), (2, .ref v2)] dX5_addPosting_21 rfl (by decide) rfl ?_
  refine jw_iload_n hX dX5_addPosting_22 rfl 2 rfl ?_
  refine jw_iconst (v := (2 : Int32)) hX dX5_addPosting_23 (by decide) ?_
  refine jw_iadd hX dX5_addPosting_24 ?_
  refine jw_topi (fun y25 e25 => ?_)
  replace h := bnd_some h y25 e25
  clear e25
  refine jw_istore hX [(4, .int y25), (3, .int (0 : Int32)), (0, .ref v0), (1, .int v1), (2, .ref v2)] dX5_addPosting_25 (by decide) rfl ?_
  refine jw_sub [2, 4, 1, 0] [(0, .ref v0), (2, .ref v2), (3, .int (0 : Int32)), (4, .int y25)] rfl ?_
  obtain ⟨wx27, hl27, h⟩ := bL1_some h
  refine sX5_addPosting_L27 hX hT hGX hret (o := wx27) (fun q0 e9 => ?_) n _ _ _ _ _ hl27
  cases e9
  exact hret _ _ _ _ _ (by decide) (by decide) dX5_addPosting_107 (hro _ (Option.some.inj h).symm)
set_option maxRecDepth 100000 in
set_option maxHeartbeats 4000000 in
theorem kX5_addPosting {l : Launch} {D : va_G} {tys : List (ClassId × FieldType)} {cI cZ cO cJ : ClassId} {gs : JP} {n : Nat} {S : PS} {v0 : Nat} {v1 : Int32} {v2 : Nat} {w1 : PS} (hT : tys = jTy cI cZ cO cJ) (h : fX5_addPosting n S v0 v1 v2 = some w1) : CC l (GP gs) D tys yX5_addPosting wsX5_addPosting rmX5_addPosting [.ref v0, .int v1, .ref v2] (pW cI cO S) (fun ov w2 => ov = none ∧ w2 = (pW cI cO w1)) := by
  refine CC_of (cc := cX5_addPosting) (maxL := 6) (ret := none) (by decide) rfl (Nat.le_of_ble_eq_true rfl) ?_
  intro X hD hL hT0 hGX hX rI rZ rV rA
  exact sX5_addPosting (post := fun ov w2 => ov = none ∧ w2 = (pW cI cO w1)) hX (hT0.trans hT) hGX (fun cells slots w9 pc lv => rV cells slots w9 pc lv rfl) (o := w1) (fun w9 e9 => by cases e9; exact ⟨rfl, rfl⟩) h
/-! X5_timesBehind -/
abbrev rmX5_timesBehind : Room := { frames := 1, cells := 0, slots := 0, locals := 21 }
theorem hdX5_timesBehind : yX5_timesBehind.cls ≠ "java/lang/invoke/MethodHandle" ∧ yX5_timesBehind.cls ≠ "java/lang/invoke/VarHandle" ∧ (parseMethodDescriptor yX5_timesBehind.desc).map (fun d => d.parameters.length) = some 2 := by decide +kernel
def fX5_timesBehind (S : PS) (v0 : Nat) (v1 : Int32) : Option Int32 := chk (okP S v0 5) (bP (fX4_at S v0 (v1 + (1 : Int32))) (fun r4 => (if r4 = (120 : Int32) then chk (okP S v0 5) (bP (fX4_at S v0 (v1 + (2 : Int32))) (fun r16 => some (r16 - (48 : Int32)))) else some (1 : Int32))))
set_option maxRecDepth 100000 in
set_option maxHeartbeats 4000000 in
theorem sX5_timesBehind {X : JX} {cI cZ cO cJ : ClassId} {gs : JP} {S : PS} {post : Option Value → va_W → Prop} (hX : jOK X cX5_timesBehind 2 wsX5_timesBehind RX5 rmX5_timesBehind) (hT : jT X = jTy cI cZ cO cJ) (hGX : jG X (GP gs)) (hret : jRI X cX5_timesBehind rmX5_timesBehind post) {o : Int32} (hro : ∀ (v9 : Int32), o = v9 → post (some (.int v9)) (pW cI cO S))  {v0 : Nat} {v1 : Int32} (h : fX5_timesBehind S v0 v1 = some o) : JW X 0 0 (pW cI cO S) 0 [(0, .ref v0), (1, .int v1)] [] := by
  unfold fX5_timesBehind at h
  refine jw_aload_n hX dX5_timesBehind_0 rfl 0 rfl ?_
  refine jw_iload_n hX dX5_timesBehind_1 rfl 1 rfl ?_
  refine jw_iconst (v := (1 : Int32)) hX dX5_timesBehind_2 (by decide) ?_
  refine jw_iadd hX dX5_timesBehind_3 ?_
  obtain ⟨ho4_4, h⟩ := chk_some h
  obtain ⟨r4, hc4, h⟩ := bP_some h
  refine jw_pVi (As := [.int (v1 + (1 : Int32))]) hX (GP_ok gs) hGX 1 (kX4_at hT hc4) gX5_timesBehind_X4_at rfl hdX4_at ⟨by decide, by decide⟩ 5 rfl (by decide) ho4_4 rfl (Nat.le_of_ble_eq_true rfl) dX5_timesBehind_4 rfl rfl ⟨by decide, by decide⟩ ?_
  refine jw_bipush (v := (120 : Int32)) hX dX5_timesBehind_7 (by decide) ?_
  refine jw_icmp_ne (tgt := 25) hX dX5_timesBehind_9 (by decide) (fun hc => ?_) (fun hc => ?_)
  · rw [if_neg hc] at h
    refine jw_iconst (v := (1 : Int32)) hX dX5_timesBehind_25 (by decide) ?_
    exact hret _ _ _ _ _ _ (by decide) (by decide) dX5_timesBehind_26 (hro _ (Option.some.inj h).symm)
  · rw [if_pos hc] at h
    refine jw_aload_n hX dX5_timesBehind_12 rfl 0 rfl ?_
    refine jw_iload_n hX dX5_timesBehind_13 rfl 1 rfl ?_
    refine jw_iconst (v := (2 : Int32)) hX dX5_timesBehind_14 (by decide) ?_
    refine jw_iadd hX dX5_timesBehind_15 ?_
    obtain ⟨ho16_4, h⟩ := chk_some h
    obtain ⟨r16, hc16, h⟩ := bP_some h
    refine jw_pVi (As := [.int (v1 + (2 : Int32))]) hX (GP_ok gs) hGX 1 (kX4_at hT hc16) gX5_timesBehind_X4_at rfl hdX4_at ⟨by decide, by decide⟩ 5 rfl (by decide) ho16_4 rfl (Nat.le_of_ble_eq_true rfl) dX5_timesBehind_16 rfl rfl ⟨by decide, by decide⟩ ?_
    refine jw_bipush (v := (48 : Int32)) hX dX5_timesBehind_19 (by decide) ?_
    refine jw_isub hX dX5_timesBehind_21 ?_
    refine jw_goto (tgt := 26) hX dX5_timesBehind_22 (by decide) ?_
    exact hret _ _ _ _ _ _ (by decide) (by decide) dX5_timesBehind_26 (hro _ (Option.some.inj h).symm)
set_option maxRecDepth 100000 in
set_option maxHeartbeats 4000000 in
theorem kX5_timesBehind {l : Launch} {D : va_G} {tys : List (ClassId × FieldType)} {cI cZ cO cJ : ClassId} {gs : JP} {S : PS} {v0 : Nat} {v1 : Int32} {r : Int32} (hT : tys = jTy cI cZ cO cJ) (h : fX5_timesBehind S v0 v1 = some r) : CC l (GP gs) D tys yX5_timesBehind wsX5_timesBehind rmX5_timesBehind [.ref v0, .int v1] (pW cI cO S) (fun ov w2 => ov = some (.int r) ∧ w2 = (pW cI cO S)) := by
  refine CC_of (cc := cX5_timesBehind) (maxL := 2) (ret := (some .int)) (by decide) rfl (Nat.le_of_ble_eq_true rfl) ?_
  intro X hD hL hT0 hGX hX rI rZ rV rA
  exact sX5_timesBehind (post := fun ov w2 => ov = some (.int r) ∧ w2 = (pW cI cO S)) hX (hT0.trans hT) hGX (fun cells slots w9 pc lv v => rI cells slots w9 pc lv v rfl) (o := r) (fun v9 e9 => by cases e9; exact ⟨rfl, rfl⟩) h
/-! X5_lastOpen -/
abbrev rmX5_lastOpen : Room := { frames := 1, cells := 0, slots := 0, locals := 21 }
theorem hdX5_lastOpen : yX5_lastOpen.cls ≠ "java/lang/invoke/MethodHandle" ∧ yX5_lastOpen.cls ≠ "java/lang/invoke/VarHandle" ∧ (parseMethodDescriptor yX5_lastOpen.desc).map (fun d => d.parameters.length) = some 1 := by decide +kernel
def fX5_lastOpen_J45 (n : Nat) (rec : PS → Nat → Int32 → Int32 → Option (Int32 ⊕ Unit)) (S : PS) (v0 : Nat) (v1 : Int32) (v2 : Int32) : Option (Int32 ⊕ Unit) := chk (okP S v0 5) (bP (fX4_at S v0 v2) (fun r47 => (if r47 = (40 : Int32) then rec S v0 (v1 + (-1 : Int32)) (v2 + (-1 : Int32)) else rec S v0 v1 (v2 + (-1 : Int32)))))
def fX5_lastOpen_L9 (n : Nat) : Nat → PS → Nat → Int32 → Int32 → Option (Int32 ⊕ Unit)
  | 0, _, _, _, _ => none
  | k + 1, S, v0, v1, v2 => (if v2 < 0 then some (Sum.inr ()) else chk (okP S v0 5) (bP (fX4_at S v0 v2) (fun r15 => (if r15 = (41 : Int32) then fX5_lastOpen_L9 n k S v0 (v1 + (1 : Int32)) (v2 + (-1 : Int32)) else chk (okP S v0 5) (bP (fX4_at S v0 v2) (fun r31 => (if r31 = (40 : Int32) then (if v1 = 0 then some (Sum.inl v2) else fX5_lastOpen_J45 n (fX5_lastOpen_L9 n k) S v0 v1 v2) else fX5_lastOpen_J45 n (fX5_lastOpen_L9 n k) S v0 v1 v2)))))))
def fX5_lastOpen (n : Nat) (S : PS) (v0 : Nat) : Option Int32 := chk (okP S v0 5) (bP (fX4_size S v0) (fun r3 => bnd ((r3 - (1 : Int32))) (fun y8 => bS0 (fX5_lastOpen_L9 n n S v0 (0 : Int32) y8) (fun rr => some rr) (fun _ => some (-1 : Int32)))))
set_option maxRecDepth 100000 in
set_option maxHeartbeats 4000000 in
theorem sX5_lastOpen_J45 {X : JX} {cI cZ cO cJ : ClassId} {gs : JP} {n : Nat} {S : PS} {post : Option Value → va_W → Prop} (hX : jOK X cX5_lastOpen 3 wsX5_lastOpen RX5 rmX5_lastOpen) (hT : jT X = jTy cI cZ cO cJ) (hGX : jG X (GP gs)) (hret : jRI X cX5_lastOpen rmX5_lastOpen post) {o : (Int32 ⊕ Unit)} {rec : PS → Nat → Int32 → Int32 → Option (Int32 ⊕ Unit)} {v0 : Nat} {v1 : Int32} {v2 : Int32} (hrec : ∀ (v0 : Nat) (v1 : Int32) (v2 : Int32), rec S v0 v1 v2 = some o → JW X 0 0 (pW cI cO S) 9 [(0, .ref v0), (1, .int v1), (2, .int v2)] [])  (hex : o = .inr () → JW X 0 0 (pW cI cO S) 64 [] []) (hro : ∀ (v9 : Int32), o = .inl v9 → post (some (.int v9)) (pW cI cO S)) (h : fX5_lastOpen_J45 n rec S v0 v1 v2 = some o) : JW X 0 0 (pW cI cO S) 45 [(0, .ref v0), (1, .int v1), (2, .int v2)] [] := by
  unfold fX5_lastOpen_J45 at h
  refine jw_aload_n hX dX5_lastOpen_45 rfl 0 rfl ?_
  refine jw_iload_n hX dX5_lastOpen_46 rfl 2 rfl ?_
  obtain ⟨ho47_2, h⟩ := chk_some h
  obtain ⟨r47, hc47, h⟩ := bP_some h
  refine jw_pVi (As := [.int v2]) hX (GP_ok gs) hGX 1 (kX4_at hT hc47) gX5_lastOpen_X4_at rfl hdX4_at ⟨by decide, by decide⟩ 5 rfl (by decide) ho47_2 rfl (Nat.le_of_ble_eq_true rfl) dX5_lastOpen_47 rfl rfl ⟨by decide, by decide⟩ ?_
  refine jw_bipush (v := (40 : Int32)) hX dX5_lastOpen_50 (by decide) ?_
  refine jw_icmp_ne (tgt := 58) hX dX5_lastOpen_52 (by decide) (fun hc => ?_) (fun hc => ?_)
  · rw [if_neg hc] at h
    refine jw_iinc (v := (v2 + (-1 : Int32))) hX [(2, .int (v2 + (-1 : Int32))), (0, .ref v0), (1, .int v1)] dX5_lastOpen_58 2 rfl (by first | rfl | (congr 1; decide)) (by decide) rfl ?_
    refine jw_goto (tgt := 9) hX dX5_lastOpen_61 (by decide) ?_
    refine jw_sub [1, 2, 0] [(0, .ref v0), (1, .int v1), (2, .int (v2 + (-1 : Int32)))] rfl ?_
    exact hrec _ _ _ h
  · rw [if_pos hc] at h
    refine jw_iinc (v := (v1 + (-1 : Int32))) hX [(1, .int (v1 + (-1 : Int32))), (0, .ref v0), (2, .int v2)] dX5_lastOpen_55 1 rfl (by first | rfl | (congr 1; decide)) (by decide) rfl ?_
    refine jw_iinc (v := (v2 + (-1 : Int32))) hX [(2, .int (v2 + (-1 : Int32))), (1, .int (v1 + (-1 : Int32))), (0, .ref v0)] dX5_lastOpen_58 2 rfl (by first | rfl | (congr 1; decide)) (by decide) rfl ?_
    refine jw_goto (tgt := 9) hX dX5_lastOpen_61 (by decide) ?_
    refine jw_sub [2, 1, 0] [(0, .ref v0), (1, .int (v1 + (-1 : Int32))), (2, .int (v2 + (-1 : Int32)))] rfl ?_
    exact hrec _ _ _ h
set_option maxRecDepth 100000 in
set_option maxHeartbeats 4000000 in
theorem sX5_lastOpen_L9 {X : JX} {cI cZ cO cJ : ClassId} {gs : JP} {n : Nat} {S : PS} {post : Option Value → va_W → Prop} (hX : jOK X cX5_lastOpen 3 wsX5_lastOpen RX5 rmX5_lastOpen) (hT : jT X = jTy cI cZ cO cJ) (hGX : jG X (GP gs)) (hret : jRI X cX5_lastOpen rmX5_lastOpen post) {o : (Int32 ⊕ Unit)} (hex : o = .inr () → JW X 0 0 (pW cI cO S) 64 [] []) (hro : ∀ (v9 : Int32), o = .inl v9 → post (some (.int v9)) (pW cI cO S)) : ∀ (k : Nat) (v0 : Nat) (v1 : Int32) (v2 : Int32), fX5_lastOpen_L9 n k S v0 v1 v2 = some o → JW X 0 0 (pW cI cO S) 9 [(0, .ref v0), (1, .int v1), (2, .int v2)] [] := by
  intro k
  induction k with
  | zero => intro v0 v1 v2 h; cases h
  | succ k hrec0 =>
    intro v0 v1 v2 h
    unfold fX5_lastOpen_L9 at h
    refine jw_iload_n hX dX5_lastOpen_9 rfl 2 rfl ?_
    refine jw_if_lt (tgt := 64) hX dX5_lastOpen_10 (by decide) (fun hc => ?_) (fun hc => ?_)
    · rw [if_pos hc] at h
      refine jw_sub [] [] rfl ?_
      exact hex (Option.some.inj h).symm
    · rw [if_neg hc] at h
      refine jw_aload_n hX dX5_lastOpen_13 rfl 0 rfl ?_
      refine jw_iload_n hX dX5_lastOpen_14 rfl 2 rfl ?_
      obtain ⟨ho15_2, h⟩ := chk_some h
      obtain ⟨r15, hc15, h⟩ := bP_some h
      refine jw_pVi (As := [.int v2]) hX (GP_ok gs) hGX 1 (kX4_at hT hc15) gX5_lastOpen_X4_at rfl hdX4_at ⟨by decide, by decide⟩ 5 rfl (by decide) ho15_2 rfl (Nat.le_of_ble_eq_true rfl) dX5_lastOpen_15 rfl rfl ⟨by decide, by decide⟩ ?_
      refine jw_bipush (v := (41 : Int32)) hX dX5_lastOpen_18 (by decide) ?_
      refine jw_icmp_ne (tgt := 29) hX dX5_lastOpen_20 (by decide) (fun hc => ?_) (fun hc => ?_)
      · rw [if_neg hc] at h
        refine jw_aload_n hX dX5_lastOpen_29 rfl 0 rfl ?_
        refine jw_iload_n hX dX5_lastOpen_30 rfl 2 rfl ?_
        obtain ⟨ho31_2, h⟩ := chk_some h
        obtain ⟨r31, hc31, h⟩ := bP_some h
        refine jw_pVi (As := [.int v2]) hX (GP_ok gs) hGX 1 (kX4_at hT hc31) gX5_lastOpen_X4_at rfl hdX4_at ⟨by decide, by decide⟩ 5 rfl (by decide) ho31_2 rfl (Nat.le_of_ble_eq_true rfl) dX5_lastOpen_31 rfl rfl ⟨by decide, by decide⟩ ?_
        refine jw_bipush (v := (40 : Int32)) hX dX5_lastOpen_34 (by decide) ?_
        refine jw_icmp_ne (tgt := 45) hX dX5_lastOpen_36 (by decide) (fun hc => ?_) (fun hc => ?_)
        · rw [if_neg hc] at h
          exact sX5_lastOpen_J45 hX hT hGX hret hrec0 hex hro h
        · rw [if_pos hc] at h
          refine jw_iload_n hX dX5_lastOpen_39 rfl 1 rfl ?_
          refine jw_if_ne (tgt := 45) hX dX5_lastOpen_40 (by decide) (fun hc => ?_) (fun hc => ?_)
          · rw [if_neg hc] at h
            exact sX5_lastOpen_J45 hX hT hGX hret hrec0 hex hro h
          · rw [if_pos hc] at h
            refine jw_iload_n hX dX5_lastOpen_43 rfl 2 rfl ?_
            exact hret _ _ _ _ _ _ (by decide) (by decide) dX5_lastOpen_44 (hro _ (Option.some.inj h).symm)
      · rw [if_pos hc] at h
        refine jw_iinc (v := (v1 + (1 : Int32))) hX [(1, .int (v1 + (1 : Int32))), (0, .ref v0), (2, .int v2)] dX5_lastOpen_23 1 rfl (by first | rfl | (congr 1; decide)) (by decide) rfl ?_
        refine jw_goto (tgt := 58) hX dX5_lastOpen_26 (by decide) ?_
        refine jw_iinc (v := (v2 + (-1 : Int32))) hX [(2, .int (v2 + (-1 : Int32))), (1, .int (v1 + (1 : Int32))), (0, .ref v0)] dX5_lastOpen_58 2 rfl (by first | rfl | (congr 1; decide)) (by decide) rfl ?_
        refine jw_goto (tgt := 9) hX dX5_lastOpen_61 (by decide) ?_
        refine jw_sub [2, 1, 0] [(0, .ref v0), (1, .int (v1 + (1 : Int32))), (2, .int (v2 + (-1 : Int32)))] rfl ?_
        exact hrec0 _ _ _ h
set_option maxRecDepth 100000 in
set_option maxHeartbeats 4000000 in
theorem sX5_lastOpen {X : JX} {cI cZ cO cJ : ClassId} {gs : JP} {n : Nat} {S : PS} {post : Option Value → va_W → Prop} (hX : jOK X cX5_lastOpen 3 wsX5_lastOpen RX5 rmX5_lastOpen) (hT : jT X = jTy cI cZ cO cJ) (hGX : jG X (GP gs)) (hret : jRI X cX5_lastOpen rmX5_lastOpen post) {o : Int32} (hro : ∀ (v9 : Int32), o = v9 → post (some (.int v9)) (pW cI cO S))  {v0 : Nat} (h : fX5_lastOpen n S v0 = some o) : JW X 0 0 (pW cI cO S) 0 [(0, .ref v0)] [] := by
  unfold fX5_lastOpen at h
  refine jw_iconst (v := (0 : Int32)) hX dX5_lastOpen_0 (by decide) ?_
  refine jw_istore_n hX [(1, .int (0 : Int32)), (0, .ref v0)] dX5_lastOpen_1 rfl (by decide) rfl ?_
  refine jw_aload_n hX dX5_lastOpen_2 rfl 1 rfl ?_
  obtain ⟨ho3_3, h⟩ := chk_some h
  obtain ⟨r3, hc3, h⟩ := bP_some h
  refine jw_pVi (As := []) hX (GP_ok gs) hGX 0 (kX4_size hT hc3) gX5_lastOpen_X4_size rfl hdX4_size ⟨by decide, by decide⟩ 5 rfl (by decide) ho3_3 rfl (Nat.le_of_ble_eq_true rfl) dX5_lastOpen_3 rfl rfl ⟨by decide, by decide⟩ ?_
  refine jw_iconst (v := (1 : Int32)) hX dX5_lastOpen_6 (by decide) ?_
  refine jw_isub hX dX5_lastOpen_7 ?_
  refine jw_topi (fun y8 e8 => ?_)
  replace h := bnd_some h y8 e8
  clear e8
  refine jw_istore_n hX [(2, .int y8), (1, .int (0 : Int32)), (0, .ref v0)] dX5_lastOpen_8 rfl (by decide) rfl ?_
  refine jw_sub [2, 1, 0] [(0, .ref v0), (1, .int (0 : Int32)), (2, .int y8)] rfl ?_
  rcases bS0_some h with ⟨rr, hl9, h⟩ | ⟨hl9, h⟩
  · refine sX5_lastOpen_L9 hX hT hGX hret (o := .inl rr) (fun e9 => nomatch e9) (fun v9 e9 => ?_) n _ _ _ hl9
    cases e9
    exact hro _ (Option.some.inj h).symm
  · refine sX5_lastOpen_L9 hX hT hGX hret (o := .inr ()) (fun e9 => ?_) (fun v9 e9 => nomatch e9) n _ _ _ hl9
    cases e9
    refine jw_iconst (v := (-1 : Int32)) hX dX5_lastOpen_64 (by decide) ?_
    exact hret _ _ _ _ _ _ (by decide) (by decide) dX5_lastOpen_65 (hro _ (Option.some.inj h).symm)
set_option maxRecDepth 100000 in
set_option maxHeartbeats 4000000 in
theorem kX5_lastOpen {l : Launch} {D : va_G} {tys : List (ClassId × FieldType)} {cI cZ cO cJ : ClassId} {gs : JP} {n : Nat} {S : PS} {v0 : Nat} {r : Int32} (hT : tys = jTy cI cZ cO cJ) (h : fX5_lastOpen n S v0 = some r) : CC l (GP gs) D tys yX5_lastOpen wsX5_lastOpen rmX5_lastOpen [.ref v0] (pW cI cO S) (fun ov w2 => ov = some (.int r) ∧ w2 = (pW cI cO S)) := by
  refine CC_of (cc := cX5_lastOpen) (maxL := 3) (ret := (some .int)) (by decide) rfl (Nat.le_of_ble_eq_true rfl) ?_
  intro X hD hL hT0 hGX hX rI rZ rV rA
  exact sX5_lastOpen (post := fun ov w2 => ov = some (.int r) ∧ w2 = (pW cI cO S)) hX (hT0.trans hT) hGX (fun cells slots w9 pc lv v => rI cells slots w9 pc lv v rfl) (o := r) (fun v9 e9 => by cases e9; exact ⟨rfl, rfl⟩) h
/-! X4_remove -/
abbrev rmX4_remove : Room := { frames := 0, cells := 0, slots := 0, locals := 0 }
theorem hdX4_remove : yX4_remove.cls = RX4 ∧ yX4_remove.cls ≠ "java/lang/invoke/MethodHandle" ∧ yX4_remove.cls ≠ "java/lang/invoke/VarHandle" ∧ (parseMethodDescriptor yX4_remove.desc).map (fun d => d.parameters.length) = some 1 := by decide +kernel
theorem lkX4_remove_21 : Cond.fieldLink RX4 21 RX4 (TX4 1).2.1 (TX4 1).2.2.1 ∈ wsX4_remove := by decide +kernel
theorem inX4_remove_5 : ∀ w ∈ wsX40, w ∈ wsX4_remove := fun _ h => List.mem_cons_of_mem _ (List.mem_append_right _ h)
theorem lkX4_remove_15 : Cond.fieldLink RX4 15 RX4 (TX4 0).2.1 (TX4 0).2.2.1 ∈ wsX4_remove := by decide +kernel
def fX4_remove_L15 (n : Nat) : Nat → PS → Nat → Int32 → Option (PS)
  | 0, _, _, _ => none
  | k + 1, S, v0, v2 => chk (okP S v0 5) ((if (sI S 51 v0) ≤ (v2 + (1 : Int32)) then some (S) else chk (okP S v0 5) (bP (sR S 50 v0) (fun q29 => chk (okP S q29 8) ((if (nI (sN S q29)) ≤ (v2 + (1 : Int32)) then some (S) else chk (okP S v0 5) (bP (sR S 50 v0) (fun q37 => chk (okP S v0 5) (bP (sR S 50 v0) (fun q42 => chk (okP S q42 8) (chk (inB (v2 + (1 : Int32)) (sN S q42)) (chk (okP S q37 8) (chk (inB v2 (sN S q37)) (bnd (pA S q37 (v2).toNatClampNeg (sA S q42 ((v2 + (1 : Int32))).toNatClampNeg)) (fun w49 => fX4_remove_L15 n k w49 v0 (v2 + (1 : Int32)))))))))))))))))
def fX4_remove (n : Nat) (S : PS) (v0 : Nat) (v1 : Int32) : Option PS := (if v1 < 0 then some (S) else chk (okP S v0 5) ((if v1 < (sI S 51 v0) then bL1 (fX4_remove_L15 n n S v0 v1) (fun wx15 => chk (okP wx15 v0 5) (chk (okP wx15 v0 5) (bnd (pI wx15 51 v0 ((sI wx15 51 v0) - (1 : Int32))) (fun w63 => some w63)))) else some (S))))
set_option maxRecDepth 100000 in
set_option maxHeartbeats 4000000 in
theorem sX4_remove_L15 {X : JX} {cI cZ cO cJ : ClassId} {gs : JP} {n : Nat} {post : Option Value → va_W → Prop} (hX : jOK X cX4_remove 3 wsX4_remove RX4 rmX4_remove) (hT : jT X = jTy cI cZ cO cJ) (hGX : jG X (GP gs)) (hret : jRV X cX4_remove rmX4_remove post) {o : (PS)} {v0 : Nat} (hex : ∀ (w9 : PS), o = w9 → JW X 0 0 (pW cI cO w9) 56 [(0, .ref v0)] [])  : ∀ (k : Nat) (S : PS) (v2 : Int32), fX4_remove_L15 n k S v0 v2 = some o → JW X 0 0 (pW cI cO S) 15 [(0, .ref v0), (2, .int v2)] [] := by
  intro k
  induction k with
  | zero => intro S v2 h; cases h
  | succ k hrec0 =>
    intro S v2 h
    unfold fX4_remove_L15 at h
    refine jw_iload_n hX dX4_remove_15 rfl 1 rfl ?_
    refine jw_iconst (v := (1 : Int32)) hX dX4_remove_16 (by decide) ?_
    refine jw_iadd hX dX4_remove_17 ?_
    refine jw_aload_n hX dX4_remove_18 rfl 0 rfl ?_
    obtain ⟨ho19_4, h⟩ := chk_some h
    refine jw_pgetI hX hT 5 1 rfl (by decide) (by decide) rfl inX4_remove_5 rfl lkX4_remove_21 ho19_4 dX4_remove_19 ?_
    refine jw_icmp_ge (tgt := 56) hX dX4_remove_22 (by decide) (fun hc => ?_) (fun hc => ?_)
    · rw [if_pos hc] at h
      refine jw_sub [0] [(0, .ref v0)] rfl ?_
      exact hex _ (Option.some.inj h).symm
    · rw [if_neg hc] at h
      refine jw_iload_n hX dX4_remove_25 rfl 1 rfl ?_
      refine jw_iconst (v := (1 : Int32)) hX dX4_remove_26 (by decide) ?_
      refine jw_iadd hX dX4_remove_27 ?_
      refine jw_aload_n hX dX4_remove_28 rfl 0 rfl ?_
      obtain ⟨ho29_4, h⟩ := chk_some h
      obtain ⟨q29, hr29, h⟩ := bP_some h
      refine jw_pgetR hX hT 5 0 rfl (by decide) (by decide) rfl inX4_remove_5 rfl lkX4_remove_15 ho29_4 hr29 dX4_remove_29 ?_
      obtain ⟨ho32_7, h⟩ := chk_some h
      refine jw_pialen hX hT ho32_7 dX4_remove_32 ?_
      refine jw_icmp_ge (tgt := 56) hX dX4_remove_33 (by decide) (fun hc => ?_) (fun hc => ?_)
      · rw [if_pos hc] at h
        refine jw_sub [0] [(0, .ref v0)] rfl ?_
        exact hex _ (Option.some.inj h).symm
      · rw [if_neg hc] at h
        refine jw_aload_n hX dX4_remove_36 rfl 0 rfl ?_
        obtain ⟨ho37_1, h⟩ := chk_some h
        obtain ⟨q37, hr37, h⟩ := bP_some h
        refine jw_pgetR hX hT 5 0 rfl (by decide) (by decide) rfl inX4_remove_5 rfl lkX4_remove_15 ho37_1 hr37 dX4_remove_37 ?_
        refine jw_iload_n hX dX4_remove_40 rfl 1 rfl ?_
        refine jw_aload_n hX dX4_remove_41 rfl 0 rfl ?_
        obtain ⟨ho42_6, h⟩ := chk_some h
        obtain ⟨q42, hr42, h⟩ := bP_some h
        refine jw_pgetR hX hT 5 0 rfl (by decide) (by decide) rfl inX4_remove_5 rfl lkX4_remove_15 ho42_6 hr42 dX4_remove_42 ?_
        refine jw_iload_n hX dX4_remove_45 rfl 1 rfl ?_
        refine jw_iconst (v := (1 : Int32)) hX dX4_remove_46 (by decide) ?_
        refine jw_iadd hX dX4_remove_47 ?_
        obtain ⟨ho48_12, h⟩ := chk_some h
        obtain ⟨hb48, h⟩ := chk_some h
        refine jw_piald hX hT ho48_12 hb48 dX4_remove_48 ?_
        obtain ⟨ho49_15, h⟩ := chk_some h
        obtain ⟨hb49, h⟩ := chk_some h
        refine jw_piast hX hT ho49_15 hb49 dX4_remove_49 (fun w49 e49 => ?_)
        replace h := bnd_some h w49 e49
        clear e49
        refine jw_iinc (v := (v2 + (1 : Int32))) hX [(2, .int (v2 + (1 : Int32))), (0, .ref v0)] dX4_remove_50 1 rfl (by first | rfl | (congr 1; decide)) (by decide) rfl ?_
        refine jw_goto (tgt := 15) hX dX4_remove_53 (by decide) ?_
        refine jw_sub [1, 0] [(0, .ref v0), (2, .int (v2 + (1 : Int32)))] rfl ?_
        exact hrec0 _ _ h
set_option maxRecDepth 100000 in
set_option maxHeartbeats 4000000 in
theorem sX4_remove {X : JX} {cI cZ cO cJ : ClassId} {gs : JP} {n : Nat} {post : Option Value → va_W → Prop} (hX : jOK X cX4_remove 3 wsX4_remove RX4 rmX4_remove) (hT : jT X = jTy cI cZ cO cJ) (hGX : jG X (GP gs)) (hret : jRV X cX4_remove rmX4_remove post) {o : PS} (hro : ∀  (w9 : PS), o = w9 → post none (pW cI cO w9))  {S : PS} {v0 : Nat} {v1 : Int32} (h : fX4_remove n S v0 v1 = some o) : JW X 0 0 (pW cI cO S) 0 [(0, .ref v0), (1, .int v1)] [] := by
  unfold fX4_remove at h
  refine jw_iload_n hX dX4_remove_0 rfl 1 rfl ?_
  refine jw_if_lt (tgt := 12) hX dX4_remove_1 (by decide) (fun hc => ?_) (fun hc => ?_)
  · rw [if_pos hc] at h
    exact hret _ _ _ _ _ (by decide) (by decide) dX4_remove_12 (hro _ (Option.some.inj h).symm)
  · rw [if_neg hc] at h
    refine jw_iload_n hX dX4_remove_4 rfl 1 rfl ?_
    refine jw_aload_n hX dX4_remove_5 rfl 0 rfl ?_
    obtain ⟨ho6_2, h⟩ := chk_some h
    refine jw_pgetI hX hT 5 1 rfl (by decide) (by decide) rfl inX4_remove_5 rfl lkX4_remove_21 ho6_2 dX4_remove_6 ?_
    refine jw_icmp_lt (tgt := 13) hX dX4_remove_9 (by decide) (fun hc => ?_) (fun hc => ?_)
    · rw [if_pos hc] at h
      refine jw_iload_n hX dX4_remove_13 rfl 1 rfl ?_
      refine jw_istore_n hX [(2, .int v1), (0, .ref v0), (1, .int v1)] dX4_remove_14 rfl (by decide) rfl ?_
      refine jw_sub [1, 0] [(0, .ref v0), (2, .int v1)] rfl ?_
      obtain ⟨wx15, hl15, h⟩ := bL1_some h
      refine sX4_remove_L15 hX hT hGX hret (o := wx15) (fun q0 e9 => ?_) n _ _ hl15
      cases e9
      refine jw_aload_n hX dX4_remove_56 rfl 0 rfl ?_
      refine jw_dup hX dX4_remove_57 rfl ?_
      obtain ⟨ho58_2, h⟩ := chk_some h
      refine jw_pgetI hX hT 5 1 rfl (by decide) (by decide) rfl inX4_remove_5 rfl lkX4_remove_21 ho58_2 dX4_remove_58 ?_
      refine jw_iconst (v := (1 : Int32)) hX dX4_remove_61 (by decide) ?_
      refine jw_isub hX dX4_remove_62 ?_
      obtain ⟨ho63_6, h⟩ := chk_some h
      refine jw_pputI hX hT 5 1 rfl (by decide) (by decide) rfl inX4_remove_5 rfl lkX4_remove_21 tyX4 tyX4_ok nmX4 rfl (by decide +kernel) ho63_6 dX4_remove_63 (fun w63 e63 => ?_)
      replace h := bnd_some h w63 e63
      clear e63
      exact hret _ _ _ _ _ (by decide) (by decide) dX4_remove_66 (hro _ (Option.some.inj h).symm)
    · rw [if_neg hc] at h
      exact hret _ _ _ _ _ (by decide) (by decide) dX4_remove_12 (hro _ (Option.some.inj h).symm)
set_option maxRecDepth 100000 in
set_option maxHeartbeats 4000000 in
theorem kX4_remove {l : Launch} {D : va_G} {tys : List (ClassId × FieldType)} {cI cZ cO cJ : ClassId} {gs : JP} {n : Nat} {S : PS} {v0 : Nat} {v1 : Int32} {w1 : PS} (hT : tys = jTy cI cZ cO cJ) (h : fX4_remove n S v0 v1 = some w1) : CC l (GP gs) D tys yX4_remove wsX4_remove rmX4_remove [.ref v0, .int v1] (pW cI cO S) (fun ov w2 => ov = none ∧ w2 = (pW cI cO w1)) := by
  refine CC_of (cc := cX4_remove) (maxL := 3) (ret := none) (by decide) rfl (Nat.le_of_ble_eq_true rfl) ?_
  intro X hD hL hT0 hGX hX rI rZ rV rA
  exact sX4_remove (post := fun ov w2 => ov = none ∧ w2 = (pW cI cO w1)) hX (hT0.trans hT) hGX (fun cells slots w9 pc lv => rV cells slots w9 pc lv rfl) (o := w1) (fun w9 e9 => by cases e9; exact ⟨rfl, rfl⟩) h
