/-! X6_clear -/
abbrev rmX6_clear : Room := { frames := 1, cells := 0, slots := 0, locals := 20 }
theorem hdX6_clear : yX6_clear.cls = RX6 ∧ yX6_clear.cls ≠ "java/lang/invoke/MethodHandle" ∧ yX6_clear.cls ≠ "java/lang/invoke/VarHandle" ∧ (parseMethodDescriptor yX6_clear.desc).map (fun d => d.parameters.length) = some 0 := by decide +kernel
theorem lkX6_clear_14 : Cond.fieldLink RX6 14 RX6 (TX6 0).2.1 (TX6 0).2.2.1 ∈ wsX6_clear := by decide +kernel
theorem inX6_clear_6 : ∀ w ∈ wsX60, w ∈ wsX6_clear := fun _ h => List.mem_cons_of_mem _ (List.mem_append_left _ (List.mem_append_right _ h))
def fX6_clear (S : PS) (v0 : Nat) : Option (Int32 × PS) := chk (okP S v0 6) (bP (sR S 60 v0) (fun q1 => chk (okP S q1 5) (bP (fX4_size S q1) (fun r4 => chk (okP S v0 6) (bP (sR S 60 v0) (fun q9 => chk (okP S q9 5) (bP (fX4_empty S q9) (fun w12 => some (r4, w12)))))))))
set_option maxRecDepth 100000 in
set_option maxHeartbeats 4000000 in
theorem sX6_clear {X : JX} {cI cZ cO cJ : ClassId} {gs : JP} {post : Option Value → va_W → Prop} (hX : jOK X cX6_clear 2 wsX6_clear RX6 rmX6_clear) (hT : jT X = jTy cI cZ cO cJ) (hGX : jG X (GP gs)) (hret : jRI X cX6_clear rmX6_clear post) {o : (Int32 × PS)} (hro : ∀ (v9 : Int32) (w9 : PS), o = (v9, w9) → post (some (.int v9)) (pW cI cO w9))  {S : PS} {v0 : Nat} (h : fX6_clear S v0 = some o) : JW X 0 0 (pW cI cO S) 0 [(0, .ref v0)] [] := by
  unfold fX6_clear at h
  refine jw_aload_n hX dX6_clear_0 rfl 0 rfl ?_
  obtain ⟨ho1_1, h⟩ := chk_some h
  obtain ⟨q1, hr1, h⟩ := bP_some h
  refine jw_pgetR hX hT 6 0 rfl (by decide) (by decide) rfl inX6_clear_6 rfl lkX6_clear_14 ho1_1 hr1 dX6_clear_1 ?_
  obtain ⟨ho4_4, h⟩ := chk_some h
  obtain ⟨r4, hc4, h⟩ := bP_some h
  refine jw_pVi (As := []) hX (GP_ok gs) hGX 0 (kX4_size hT hc4) gX6_clear_X4_size rfl hdX4_size ⟨by decide, by decide⟩ 5 rfl (by decide) ho4_4 rfl (Nat.le_of_ble_eq_true rfl) dX6_clear_4 rfl rfl ⟨by decide, by decide⟩ ?_
  refine jw_istore_n hX [(1, .int r4), (0, .ref v0)] dX6_clear_7 rfl (by decide) rfl ?_
  refine jw_aload_n hX dX6_clear_8 rfl 1 rfl ?_
  obtain ⟨ho9_9, h⟩ := chk_some h
  obtain ⟨q9, hr9, h⟩ := bP_some h
  refine jw_pgetR hX hT 6 0 rfl (by decide) (by decide) rfl inX6_clear_6 rfl lkX6_clear_14 ho9_9 hr9 dX6_clear_9 ?_
  obtain ⟨ho12_12, h⟩ := chk_some h
  obtain ⟨w12, hc12, h⟩ := bP_some h
  refine jw_pVv (As := []) hX (GP_ok gs) hGX 0 (kX4_empty hT hc12) gX6_clear_X4_empty rfl hdX4_empty ⟨by decide, by decide⟩ 5 rfl (by decide) ho12_12 rfl (Nat.le_of_ble_eq_true rfl) dX6_clear_12 rfl rfl ⟨by decide, by decide⟩ ?_
  refine jw_iload_n hX dX6_clear_15 rfl 0 rfl ?_
  exact hret _ _ _ _ _ _ (by decide) (by decide) dX6_clear_16 (hro _ _ (Option.some.inj h).symm)
set_option maxRecDepth 100000 in
set_option maxHeartbeats 4000000 in
theorem kX6_clear {l : Launch} {D : va_G} {tys : List (ClassId × FieldType)} {cI cZ cO cJ : ClassId} {gs : JP} {S : PS} {v0 : Nat} {r : Int32} {w1 : PS} (hT : tys = jTy cI cZ cO cJ) (h : fX6_clear S v0 = some (r, w1)) : CC l (GP gs) D tys yX6_clear wsX6_clear rmX6_clear [.ref v0] (pW cI cO S) (fun ov w2 => ov = some (.int r) ∧ w2 = (pW cI cO w1)) := by
  refine CC_of (cc := cX6_clear) (maxL := 2) (ret := (some .int)) (by decide) rfl (Nat.le_of_ble_eq_true rfl) ?_
  intro X hD hL hT0 hGX hX rI rZ rV rA
  exact sX6_clear (post := fun ov w2 => ov = some (.int r) ∧ w2 = (pW cI cO w1)) hX (hT0.trans hT) hGX (fun cells slots w9 pc lv v => rI cells slots w9 pc lv v rfl) (o := (r, w1)) (fun v9 w9 e9 => by cases e9; exact ⟨rfl, rfl⟩) h
/-! X6_fault -/
abbrev rmX6_fault : Room := { frames := 4, cells := 0, slots := 0, locals := 84 }
theorem hdX6_fault : yX6_fault.cls = RX6 ∧ yX6_fault.cls ≠ "java/lang/invoke/MethodHandle" ∧ yX6_fault.cls ≠ "java/lang/invoke/VarHandle" ∧ (parseMethodDescriptor yX6_fault.desc).map (fun d => d.parameters.length) = some 0 := by decide +kernel
theorem lkX6_fault_24 : Cond.fieldLink RX6 24 RX6 (TX6 2).2.1 (TX6 2).2.2.1 ∈ wsX6_fault := by decide +kernel
theorem inX6_fault_6 : ∀ w ∈ wsX60, w ∈ wsX6_fault := fun _ h => List.mem_cons_of_mem _ (List.mem_append_left _ (List.mem_append_left _ (List.mem_append_right _ h)))
theorem lkX6_fault_14 : Cond.fieldLink RX6 14 RX6 (TX6 0).2.1 (TX6 0).2.2.1 ∈ wsX6_fault := by decide +kernel
def fX6_fault (n : Nat) (S : PS) (v0 : Nat) : Option (Int32 × PS) := chk (okP S v0 6) (bP (sR S 62 v0) (fun q1 => chk (okP S v0 6) (bP (sR S 60 v0) (fun q5 => chk (okP S q1 3) (b2 (fX2_faultOf n S q1 q5) (fun r8 w8 => some (r8, w8)))))))
set_option maxRecDepth 100000 in
set_option maxHeartbeats 4000000 in
theorem sX6_fault {X : JX} {cI cZ cO cJ : ClassId} {gs : JP} {n : Nat} {post : Option Value → va_W → Prop} (hX : jOK X cX6_fault 1 wsX6_fault RX6 rmX6_fault) (hT : jT X = jTy cI cZ cO cJ) (hGX : jG X (GP gs)) (hret : jRI X cX6_fault rmX6_fault post) {o : (Int32 × PS)} (hro : ∀ (v9 : Int32) (w9 : PS), o = (v9, w9) → post (some (.int v9)) (pW cI cO w9))  {S : PS} {v0 : Nat} (h : fX6_fault n S v0 = some o) : JW X 0 0 (pW cI cO S) 0 [(0, .ref v0)] [] := by
  unfold fX6_fault at h
  refine jw_aload_n hX dX6_fault_0 rfl 0 rfl ?_
  obtain ⟨ho1_1, h⟩ := chk_some h
  obtain ⟨q1, hr1, h⟩ := bP_some h
  refine jw_pgetR hX hT 6 2 rfl (by decide) (by decide) rfl inX6_fault_6 rfl lkX6_fault_24 ho1_1 hr1 dX6_fault_1 ?_
  refine jw_aload_n hX dX6_fault_4 rfl 0 rfl ?_
  obtain ⟨ho5_5, h⟩ := chk_some h
  obtain ⟨q5, hr5, h⟩ := bP_some h
  refine jw_pgetR hX hT 6 0 rfl (by decide) (by decide) rfl inX6_fault_6 rfl lkX6_fault_14 ho5_5 hr5 dX6_fault_5 ?_
  obtain ⟨ho8_8, h⟩ := chk_some h
  obtain ⟨r8, w8, hc8, h⟩ := b2_some h
  refine jw_pVi (As := [.ref q5]) hX (GP_ok gs) hGX 1 (kX2_faultOf hT hc8) gX6_fault_X2_faultOf rfl hdX2_faultOf ⟨by decide, by decide⟩ 3 rfl (by decide) ho8_8 rfl (Nat.le_of_ble_eq_true rfl) dX6_fault_8 rfl rfl ⟨by decide, by decide⟩ ?_
  exact hret _ _ _ _ _ _ (by decide) (by decide) dX6_fault_11 (hro _ _ (Option.some.inj h).symm)
set_option maxRecDepth 100000 in
set_option maxHeartbeats 4000000 in
theorem kX6_fault {l : Launch} {D : va_G} {tys : List (ClassId × FieldType)} {cI cZ cO cJ : ClassId} {gs : JP} {n : Nat} {S : PS} {v0 : Nat} {r : Int32} {w1 : PS} (hT : tys = jTy cI cZ cO cJ) (h : fX6_fault n S v0 = some (r, w1)) : CC l (GP gs) D tys yX6_fault wsX6_fault rmX6_fault [.ref v0] (pW cI cO S) (fun ov w2 => ov = some (.int r) ∧ w2 = (pW cI cO w1)) := by
  refine CC_of (cc := cX6_fault) (maxL := 1) (ret := (some .int)) (by decide) rfl (Nat.le_of_ble_eq_true rfl) ?_
  intro X hD hL hT0 hGX hX rI rZ rV rA
  exact sX6_fault (post := fun ov w2 => ov = some (.int r) ∧ w2 = (pW cI cO w1)) hX (hT0.trans hT) hGX (fun cells slots w9 pc lv v => rI cells slots w9 pc lv v rfl) (o := (r, w1)) (fun v9 w9 e9 => by cases e9; exact ⟨rfl, rfl⟩) h
/-! Jx4a65c_size_8abf5 -/
abbrev rmJx4a65c_size_8abf5 : Room := { frames := 0, cells := 0, slots := 0, locals := 0 }
theorem hdJx4a65c_size_8abf5 : yJx4a65c_size_8abf5.cls = RJx4a65c ∧ yJx4a65c_size_8abf5.cls ≠ "java/lang/invoke/MethodHandle" ∧ yJx4a65c_size_8abf5.cls ≠ "java/lang/invoke/VarHandle" ∧ (parseMethodDescriptor yJx4a65c_size_8abf5.desc).map (fun d => d.parameters.length) = some 0 := by decide +kernel
theorem lkJx4a65c_size_8abf5_48 : Cond.fieldLink RJx4a65c 48 RJx4a65c (TJx4a65c 2).2.1 (TJx4a65c 2).2.2.1 ∈ wsJx4a65c_size_8abf5 := by decide +kernel
theorem inJx4a65c_size_8abf5_0 : ∀ w ∈ wsJx4a65c0, w ∈ wsJx4a65c_size_8abf5 := fun _ h => List.mem_cons_of_mem _ (List.mem_append_right _ h)
def fJx4a65c_size_8abf5 (S : PS) (v0 : Nat) : Option Int32 := chk (okP S v0 0) (some (sI S 2 v0))
set_option maxRecDepth 100000 in
set_option maxHeartbeats 4000000 in
theorem sJx4a65c_size_8abf5 {X : JX} {cI cZ cO cJ : ClassId} {gs : JP} {S : PS} {post : Option Value → va_W → Prop} (hX : jOK X cJx4a65c_size_8abf5 1 wsJx4a65c_size_8abf5 RJx4a65c rmJx4a65c_size_8abf5) (hT : jT X = jTy cI cZ cO cJ) (hGX : jG X (GP gs)) (hret : jRI X cJx4a65c_size_8abf5 rmJx4a65c_size_8abf5 post) {o : Int32} (hro : ∀ (v9 : Int32), o = v9 → post (some (.int v9)) (pW cI cO S))  {v0 : Nat} (h : fJx4a65c_size_8abf5 S v0 = some o) : JW X 0 0 (pW cI cO S) 0 [(0, .ref v0)] [] := by
  unfold fJx4a65c_size_8abf5 at h
  refine jw_aload_n hX dJx4a65c_size_8abf5_0 rfl 0 rfl ?_
  obtain ⟨ho1_1, h⟩ := chk_some h
  refine jw_pgetI hX hT 0 2 rfl (by decide) (by decide) rfl inJx4a65c_size_8abf5_0 rfl lkJx4a65c_size_8abf5_48 ho1_1 dJx4a65c_size_8abf5_1 ?_
  exact hret _ _ _ _ _ _ (by decide) (by decide) dJx4a65c_size_8abf5_4 (hro _ (Option.some.inj h).symm)
set_option maxRecDepth 100000 in
set_option maxHeartbeats 4000000 in
theorem kJx4a65c_size_8abf5 {l : Launch} {D : va_G} {tys : List (ClassId × FieldType)} {cI cZ cO cJ : ClassId} {gs : JP} {S : PS} {v0 : Nat} {r : Int32} (hT : tys = jTy cI cZ cO cJ) (h : fJx4a65c_size_8abf5 S v0 = some r) : CC l (GP gs) D tys yJx4a65c_size_8abf5 wsJx4a65c_size_8abf5 rmJx4a65c_size_8abf5 [.ref v0] (pW cI cO S) (fun ov w2 => ov = some (.int r) ∧ w2 = (pW cI cO S)) := by
  refine CC_of (cc := cJx4a65c_size_8abf5) (maxL := 1) (ret := (some .int)) (by decide) rfl (Nat.le_of_ble_eq_true rfl) ?_
  intro X hD hL hT0 hGX hX rI rZ rV rA
  exact sJx4a65c_size_8abf5 (post := fun ov w2 => ov = some (.int r) ∧ w2 = (pW cI cO S)) hX (hT0.trans hT) hGX (fun cells slots w9 pc lv v => rI cells slots w9 pc lv v rfl) (o := r) (fun v9 e9 => by cases e9; exact ⟨rfl, rfl⟩) h
/-! J3_checkIndex_8e157 -/
abbrev rmJ3_checkIndex_8e157 : Room := { frames := 0, cells := 0, slots := 0, locals := 0 }
theorem hdJ3_checkIndex_8e157 : yJ3_checkIndex_8e157.cls ≠ "java/lang/invoke/MethodHandle" ∧ yJ3_checkIndex_8e157.cls ≠ "java/lang/invoke/VarHandle" ∧ (parseMethodDescriptor yJ3_checkIndex_8e157.desc).map (fun d => d.parameters.length) = some 3 := by decide +kernel
def fJ3_checkIndex_8e157 (v0 : Int32) (v1 : Int32) : Option Int32 := (if v0 < 0 then none else (if v0 < v1 then some v0 else none))
set_option maxRecDepth 100000 in
set_option maxHeartbeats 4000000 in
theorem sJ3_checkIndex_8e157 {X : JX} {cI cZ cO cJ : ClassId} {gs : JP} {wv : va_W} {post : Option Value → va_W → Prop} (hX : jOK X cJ3_checkIndex_8e157 3 wsJ3_checkIndex_8e157 RJ3 rmJ3_checkIndex_8e157) (hT : jT X = jTy cI cZ cO cJ) (hGX : jG X (GP gs)) (hret : jRI X cJ3_checkIndex_8e157 rmJ3_checkIndex_8e157 post) {o : Int32} (hro : ∀ (v9 : Int32), o = v9 → post (some (.int v9)) wv)  {v0 : Int32} {v1 : Int32} (h : fJ3_checkIndex_8e157 v0 v1 = some o) : JW X 0 0 wv 0 [(0, .int v0), (1, .int v1), (2, .null)] [] := by
  unfold fJ3_checkIndex_8e157 at h
  refine jw_iload_n hX dJ3_checkIndex_8e157_0 rfl 0 rfl ?_
  refine jw_if_lt (tgt := 9) hX dJ3_checkIndex_8e157_1 (by decide) (fun hc => ?_) (fun hc => ?_)
  · rw [if_pos hc] at h
    cases h
  · rw [if_neg hc] at h
    refine jw_iload_n hX dJ3_checkIndex_8e157_4 rfl 0 rfl ?_
    refine jw_iload_n hX dJ3_checkIndex_8e157_5 rfl 1 rfl ?_
    refine jw_icmp_lt (tgt := 16) hX dJ3_checkIndex_8e157_6 (by decide) (fun hc => ?_) (fun hc => ?_)
    · rw [if_pos hc] at h
      refine jw_iload_n hX dJ3_checkIndex_8e157_16 rfl 0 rfl ?_
      exact hret _ _ _ _ _ _ (by decide) (by decide) dJ3_checkIndex_8e157_17 (hro _ (Option.some.inj h).symm)
    · rw [if_neg hc] at h
      cases h
set_option maxRecDepth 100000 in
set_option maxHeartbeats 4000000 in
theorem kJ3_checkIndex_8e157 {l : Launch} {D : va_G} {tys : List (ClassId × FieldType)} {cI cZ cO cJ : ClassId} {gs : JP} {wv : va_W} {v0 : Int32} {v1 : Int32} {r : Int32} (hT : tys = jTy cI cZ cO cJ) (h : fJ3_checkIndex_8e157 v0 v1 = some r) : CC l (GP gs) D tys yJ3_checkIndex_8e157 wsJ3_checkIndex_8e157 rmJ3_checkIndex_8e157 [.int v0, .int v1, .null] wv (fun ov w2 => ov = some (.int r) ∧ w2 = wv) := by
  refine CC_of (cc := cJ3_checkIndex_8e157) (maxL := 3) (ret := (some .int)) (by decide) rfl (Nat.le_of_ble_eq_true rfl) ?_
  intro X hD hL hT0 hGX hX rI rZ rV rA
  exact sJ3_checkIndex_8e157 (post := fun ov w2 => ov = some (.int r) ∧ w2 = wv) hX (hT0.trans hT) hGX (fun cells slots w9 pc lv v => rI cells slots w9 pc lv v rfl) (o := r) (fun v9 e9 => by cases e9; exact ⟨rfl, rfl⟩) h
/-! J15_checkIndex_7cf53 -/
abbrev rmJ15_checkIndex_7cf53 : Room := { frames := 1, cells := 0, slots := 0, locals := 22 }
theorem hdJ15_checkIndex_7cf53 : yJ15_checkIndex_7cf53.cls ≠ "java/lang/invoke/MethodHandle" ∧ yJ15_checkIndex_7cf53.cls ≠ "java/lang/invoke/VarHandle" ∧ (parseMethodDescriptor yJ15_checkIndex_7cf53.desc).map (fun d => d.parameters.length) = some 2 := by decide +kernel
def fJ15_checkIndex_7cf53 (v0 : Int32) (v1 : Int32) : Option Int32 := bP (fJ3_checkIndex_8e157 v0 v1) (fun r3 => some r3)
set_option maxRecDepth 100000 in
set_option maxHeartbeats 4000000 in
theorem sJ15_checkIndex_7cf53 {X : JX} {cI cZ cO cJ : ClassId} {gs : JP} {wv : va_W} {post : Option Value → va_W → Prop} (hX : jOK X cJ15_checkIndex_7cf53 2 wsJ15_checkIndex_7cf53 RJ15 rmJ15_checkIndex_7cf53) (hT : jT X = jTy cI cZ cO cJ) (hGX : jG X (GP gs)) (hret : jRI X cJ15_checkIndex_7cf53 rmJ15_checkIndex_7cf53 post) {o : Int32} (hro : ∀ (v9 : Int32), o = v9 → post (some (.int v9)) wv)  {v0 : Int32} {v1 : Int32} (h : fJ15_checkIndex_7cf53 v0 v1 = some o) : JW X 0 0 wv 0 [(0, .int v0), (1, .int v1)] [] := by
  unfold fJ15_checkIndex_7cf53 at h
  refine jw_iload_n hX dJ15_checkIndex_7cf53_0 rfl 0 rfl ?_
  refine jw_iload_n hX dJ15_checkIndex_7cf53_1 rfl 1 rfl ?_
  refine jw_null hX dJ15_checkIndex_7cf53_2 ?_
  obtain ⟨r3, hc3, h⟩ := bP_some h
  refine jw_cSi (As := [.int v0, .int v1, .null]) hX (GP_ok gs) hGX 3 (kJ3_checkIndex_8e157 hT hc3) gJ15_checkIndex_7cf53_J3_checkIndex_8e157 rfl hdJ3_checkIndex_8e157 ⟨by decide, by decide⟩ rfl (Nat.le_of_ble_eq_true rfl) dJ15_checkIndex_7cf53_3 rfl rfl ⟨by decide, by decide⟩ ?_
  exact hret _ _ _ _ _ _ (by decide) (by decide) dJ15_checkIndex_7cf53_6 (hro _ (Option.some.inj h).symm)
set_option maxRecDepth 100000 in
set_option maxHeartbeats 4000000 in
theorem kJ15_checkIndex_7cf53 {l : Launch} {D : va_G} {tys : List (ClassId × FieldType)} {cI cZ cO cJ : ClassId} {gs : JP} {wv : va_W} {v0 : Int32} {v1 : Int32} {r : Int32} (hT : tys = jTy cI cZ cO cJ) (h : fJ15_checkIndex_7cf53 v0 v1 = some r) : CC l (GP gs) D tys yJ15_checkIndex_7cf53 wsJ15_checkIndex_7cf53 rmJ15_checkIndex_7cf53 [.int v0, .int v1] wv (fun ov w2 => ov = some (.int r) ∧ w2 = wv) := by
  refine CC_of (cc := cJ15_checkIndex_7cf53) (maxL := 2) (ret := (some .int)) (by decide) rfl (Nat.le_of_ble_eq_true rfl) ?_
  intro X hD hL hT0 hGX hX rI rZ rV rA
  exact sJ15_checkIndex_7cf53 (post := fun ov w2 => ov = some (.int r) ∧ w2 = wv) hX (hT0.trans hT) hGX (fun cells slots w9 pc lv v => rI cells slots w9 pc lv v rfl) (o := r) (fun v9 e9 => by cases e9; exact ⟨rfl, rfl⟩) h
/-! Jx4a65c_elementData_915e3 -/
abbrev rmJx4a65c_elementData_915e3 : Room := { frames := 0, cells := 0, slots := 0, locals := 0 }
theorem hdJx4a65c_elementData_915e3 : yJx4a65c_elementData_915e3.cls = RJx4a65c ∧ yJx4a65c_elementData_915e3.cls ≠ "java/lang/invoke/MethodHandle" ∧ yJx4a65c_elementData_915e3.cls ≠ "java/lang/invoke/VarHandle" ∧ (parseMethodDescriptor yJx4a65c_elementData_915e3.desc).map (fun d => d.parameters.length) = some 1 := by decide +kernel
theorem lkJx4a65c_elementData_915e3_9 : Cond.fieldLink RJx4a65c 9 RJx4a65c (TJx4a65c 1).2.1 (TJx4a65c 1).2.2.1 ∈ wsJx4a65c_elementData_915e3 := by decide +kernel
theorem inJx4a65c_elementData_915e3_0 : ∀ w ∈ wsJx4a65c0, w ∈ wsJx4a65c_elementData_915e3 := fun _ h => List.mem_cons_of_mem _ (List.mem_append_right _ h)
def fJx4a65c_elementData_915e3 (S : PS) (v0 : Nat) (v1 : Int32) : Option Nat := chk (okP S v0 0) (bP (sR S 1 v0) (fun q1 => chk (okP S q1 10) (chk (inB v1 (sN S q1)) (bP (sO S q1 (v1).toNatClampNeg) (fun q5 => some q5)))))
set_option maxRecDepth 100000 in
set_option maxHeartbeats 4000000 in
theorem sJx4a65c_elementData_915e3 {X : JX} {cI cZ cO cJ : ClassId} {gs : JP} {S : PS} {post : Option Value → va_W → Prop} (hX : jOK X cJx4a65c_elementData_915e3 2 wsJx4a65c_elementData_915e3 RJx4a65c rmJx4a65c_elementData_915e3) (hT : jT X = jTy cI cZ cO cJ) (hGX : jG X (GP gs)) (hret : jRA X cJx4a65c_elementData_915e3 rmJx4a65c_elementData_915e3 post) {o : Nat} (hro : ∀ (v9 : Nat), o = v9 → post (some (.ref v9)) (pW cI cO S))  {v0 : Nat} {v1 : Int32} (h : fJx4a65c_elementData_915e3 S v0 v1 = some o) : JW X 0 0 (pW cI cO S) 0 [(0, .ref v0), (1, .int v1)] [] := by
  unfold fJx4a65c_elementData_915e3 at h
  refine jw_aload_n hX dJx4a65c_elementData_915e3_0 rfl 0 rfl ?_
  obtain ⟨ho1_1, h⟩ := chk_some h
  obtain ⟨q1, hr1, h⟩ := bP_some h
  refine jw_pgetR hX hT 0 1 rfl (by decide) (by decide) rfl inJx4a65c_elementData_915e3_0 rfl lkJx4a65c_elementData_915e3_9 ho1_1 hr1 dJx4a65c_elementData_915e3_1 ?_
  refine jw_iload_n hX dJx4a65c_elementData_915e3_4 rfl 1 rfl ?_
  obtain ⟨ho5_5, h⟩ := chk_some h
  obtain ⟨hb5, h⟩ := chk_some h
  obtain ⟨q5, hr5, h⟩ := bP_some h
  refine jw_paald hX hT ho5_5 hb5 hr5 dJx4a65c_elementData_915e3_5 ?_
  exact hret _ _ _ _ _ _ (by decide) (by decide) dJx4a65c_elementData_915e3_6 (hro _ (Option.some.inj h).symm)
set_option maxRecDepth 100000 in
set_option maxHeartbeats 4000000 in
theorem kJx4a65c_elementData_915e3 {l : Launch} {D : va_G} {tys : List (ClassId × FieldType)} {cI cZ cO cJ : ClassId} {gs : JP} {S : PS} {v0 : Nat} {v1 : Int32} {r : Nat} (hT : tys = jTy cI cZ cO cJ) (h : fJx4a65c_elementData_915e3 S v0 v1 = some r) : CC l (GP gs) D tys yJx4a65c_elementData_915e3 wsJx4a65c_elementData_915e3 rmJx4a65c_elementData_915e3 [.ref v0, .int v1] (pW cI cO S) (fun ov w2 => ov = some (.ref r) ∧ w2 = (pW cI cO S)) := by
  refine CC_of (cc := cJx4a65c_elementData_915e3) (maxL := 2) (ret := (some (.object "java/lang/Object"))) (by decide) rfl (Nat.le_of_ble_eq_true rfl) ?_
  intro X hD hL hT0 hGX hX rI rZ rV rA
  exact sJx4a65c_elementData_915e3 (post := fun ov w2 => ov = some (.ref r) ∧ w2 = (pW cI cO S)) hX (hT0.trans hT) hGX (fun cells slots w9 pc lv v => rA cells slots w9 pc lv v (Or.inl ⟨_, rfl⟩)) (o := r) (fun v9 e9 => by cases e9; exact ⟨rfl, rfl⟩) h
/-! Jx4a65c_get_915e3 -/
abbrev rmJx4a65c_get_915e3 : Room := { frames := 2, cells := 0, slots := 0, locals := 43 }
theorem hdJx4a65c_get_915e3 : yJx4a65c_get_915e3.cls = RJx4a65c ∧ yJx4a65c_get_915e3.cls ≠ "java/lang/invoke/MethodHandle" ∧ yJx4a65c_get_915e3.cls ≠ "java/lang/invoke/VarHandle" ∧ (parseMethodDescriptor yJx4a65c_get_915e3.desc).map (fun d => d.parameters.length) = some 1 := by decide +kernel
theorem lkJx4a65c_get_915e3_48 : Cond.fieldLink RJx4a65c 48 RJx4a65c (TJx4a65c 2).2.1 (TJx4a65c 2).2.2.1 ∈ wsJx4a65c_get_915e3 := by decide +kernel
theorem inJx4a65c_get_915e3_0 : ∀ w ∈ wsJx4a65c0, w ∈ wsJx4a65c_get_915e3 := fun _ h => List.mem_cons_of_mem _ (List.mem_append_right _ h)
def fJx4a65c_get_915e3 (S : PS) (v0 : Nat) (v1 : Int32) : Option Nat := chk (okP S v0 0) (bP (fJ15_checkIndex_7cf53 v1 (sI S 2 v0)) (fun r5 => chk (okP S v0 0) (bP (fJx4a65c_elementData_915e3 S v0 v1) (fun r11 => some r11))))
set_option maxRecDepth 100000 in
set_option maxHeartbeats 4000000 in
theorem sJx4a65c_get_915e3 {X : JX} {cI cZ cO cJ : ClassId} {gs : JP} {S : PS} {post : Option Value → va_W → Prop} (hX : jOK X cJx4a65c_get_915e3 2 wsJx4a65c_get_915e3 RJx4a65c rmJx4a65c_get_915e3) (hT : jT X = jTy cI cZ cO cJ) (hGX : jG X (GP gs)) (hret : jRA X cJx4a65c_get_915e3 rmJx4a65c_get_915e3 post) {o : Nat} (hro : ∀ (v9 : Nat), o = v9 → post (some (.ref v9)) (pW cI cO S))  {v0 : Nat} {v1 : Int32} (h : fJx4a65c_get_915e3 S v0 v1 = some o) : JW X 0 0 (pW cI cO S) 0 [(0, .ref v0), (1, .int v1)] [] := by
  unfold fJx4a65c_get_915e3 at h
  refine jw_iload_n hX dJx4a65c_get_915e3_0 rfl 1 rfl ?_
  refine jw_aload_n hX dJx4a65c_get_915e3_1 rfl 0 rfl ?_
  obtain ⟨ho2_2, h⟩ := chk_some h
  refine jw_pgetI hX hT 0 2 rfl (by decide) (by decide) rfl inJx4a65c_get_915e3_0 rfl lkJx4a65c_get_915e3_48 ho2_2 dJx4a65c_get_915e3_2 ?_
  obtain ⟨r5, hc5, h⟩ := bP_some h
  refine jw_cSi (As := [.int v1, .int (sI S 2 v0)]) hX (GP_ok gs) hGX 2 (kJ15_checkIndex_7cf53 hT hc5) gJx4a65c_get_915e3_J15_checkIndex_7cf53 rfl hdJ15_checkIndex_7cf53 ⟨by decide, by decide⟩ rfl (Nat.le_of_ble_eq_true rfl) dJx4a65c_get_915e3_5 rfl rfl ⟨by decide, by decide⟩ ?_
  refine jw_pop hX dJx4a65c_get_915e3_8 rfl ?_
  refine jw_aload_n hX dJx4a65c_get_915e3_9 rfl 0 rfl ?_
  refine jw_iload_n hX dJx4a65c_get_915e3_10 rfl 1 rfl ?_
  obtain ⟨ho11_9, h⟩ := chk_some h
  obtain ⟨r11, hc11, h⟩ := bP_some h
  refine jw_pVr (As := [.int v1]) hX (GP_ok gs) hGX 1 (kJx4a65c_elementData_915e3 hT hc11) gJx4a65c_get_915e3_Jx4a65c_elementData_915e3 rfl hdJx4a65c_elementData_915e3 ⟨by decide, by decide⟩ 0 rfl (by decide) ho11_9 rfl (Nat.le_of_ble_eq_true rfl) dJx4a65c_get_915e3_11 rfl rfl ⟨by decide, by decide⟩ ?_
  exact hret _ _ _ _ _ _ (by decide) (by decide) dJx4a65c_get_915e3_14 (hro _ (Option.some.inj h).symm)
set_option maxRecDepth 100000 in
set_option maxHeartbeats 4000000 in
theorem kJx4a65c_get_915e3 {l : Launch} {D : va_G} {tys : List (ClassId × FieldType)} {cI cZ cO cJ : ClassId} {gs : JP} {S : PS} {v0 : Nat} {v1 : Int32} {r : Nat} (hT : tys = jTy cI cZ cO cJ) (h : fJx4a65c_get_915e3 S v0 v1 = some r) : CC l (GP gs) D tys yJx4a65c_get_915e3 wsJx4a65c_get_915e3 rmJx4a65c_get_915e3 [.ref v0, .int v1] (pW cI cO S) (fun ov w2 => ov = some (.ref r) ∧ w2 = (pW cI cO S)) := by
  refine CC_of (cc := cJx4a65c_get_915e3) (maxL := 2) (ret := (some (.object "java/lang/Object"))) (by decide) rfl (Nat.le_of_ble_eq_true rfl) ?_
  intro X hD hL hT0 hGX hX rI rZ rV rA
  exact sJx4a65c_get_915e3 (post := fun ov w2 => ov = some (.ref r) ∧ w2 = (pW cI cO S)) hX (hT0.trans hT) hGX (fun cells slots w9 pc lv v => rA cells slots w9 pc lv v (Or.inl ⟨_, rfl⟩)) (o := r) (fun v9 e9 => by cases e9; exact ⟨rfl, rfl⟩) h
/-! X6_entryAt -/
abbrev rmX6_entryAt : Room := { frames := 6, cells := 1, slots := 6, locals := 90 }
theorem hdX6_entryAt : yX6_entryAt.cls = RX6 ∧ yX6_entryAt.cls ≠ "java/lang/invoke/MethodHandle" ∧ yX6_entryAt.cls ≠ "java/lang/invoke/VarHandle" ∧ (parseMethodDescriptor yX6_entryAt.desc).map (fun d => d.parameters.length) = some 1 := by decide +kernel
theorem tkX6_entryAt_IO : Cond.classLink "Postlint" 172 "java/lang/IndexOutOfBoundsException" ∈ wsX6_entryAt ∧ Cond.initialized "java/lang/IndexOutOfBoundsException" ∈ wsX6_entryAt := by decide +kernel
theorem taX6_entryAt_IO : ∀ w ∈ (vx_atS "Postlint" 176 "java/lang/IndexOutOfBoundsException" ["java/lang/RuntimeException", "java/lang/Exception"]).filter goodWord, w ∈ wsX6_entryAt := fun _ h => List.mem_cons_of_mem _ (List.mem_append_right _ h)
theorem lkX6_entryAt_31 : Cond.fieldLink RX6 31 RX6 (TX6 3).2.1 (TX6 3).2.2.1 ∈ wsX6_entryAt := by decide +kernel
theorem inX6_entryAt_6 : ∀ w ∈ wsX60, w ∈ wsX6_entryAt := fun _ h => List.mem_cons_of_mem _ (List.mem_append_left _ (List.mem_append_left _ (List.mem_append_right _ h)))
theorem ckX6_entryAt_82 : Cond.classLink RX6 82 RX1 ∈ wsX6_entryAt := by decide +kernel
def fX6_entryAt (S : PS) (v0 : Nat) (v1 : Int32) : Option (Nat ⊕ Nat) := (if v1 < 0 then some (Sum.inl 2) else chk (okP S v0 6) (bP (sR S 63 v0) (fun q6 => chk (okP S q6 0) (bP (fJx4a65c_size_8abf5 S q6) (fun r9 => (if v1 < r9 then chk (okP S v0 6) (bP (sR S 63 v0) (fun q26 => chk (okP S q26 0) (bP (fJx4a65c_get_915e3 S q26 v1) (fun r30 => chk (okP S r30 2) (some (Sum.inr r30)))))) else some (Sum.inl 2)))))))
set_option maxRecDepth 100000 in
set_option maxHeartbeats 4000000 in
theorem sX6_entryAt {X : JX} {cI cZ cO cJ : ClassId} {gs : JP} {S : PS} {post : Option Value → va_W → Prop} (hX : jOK X cX6_entryAt 2 wsX6_entryAt RX6 rmX6_entryAt) (hT : jT X = jTy cI cZ cO cJ) (hGX : jG X (GP gs)) (hret : jRA X cX6_entryAt rmX6_entryAt post) {w0 : va_W} {px : String → va_W → Prop} (hQ : jXQ X w0 rmX6_entryAt post px) {o : (Nat ⊕ Nat)} (hro : ∀ (v9 : Nat), o = .inr v9 → post (some (.ref v9)) (pW cI cO S)) (hrx : ∀ x9 : Nat, o = .inl x9 → px (exN x9) (pW cI cO S)) {v0 : Nat} {v1 : Int32} (h : fX6_entryAt S v0 v1 = some o) : JW X 0 0 (pW cI cO S) 0 [(0, .ref v0), (1, .int v1)] [] := by
  unfold fX6_entryAt at h
  refine jw_iload_n hX dX6_entryAt_0 rfl 1 rfl ?_
  refine jw_if_lt (tgt := 15) hX dX6_entryAt_1 (by decide) (fun hc => ?_) (fun hc => ?_)
  · rw [if_pos hc] at h
    exact jw_throwS (is := 198) (text := "there is no such entry") hX hGX hQ (by decide +kernel) (by decide +kernel) tkX6_entryAt_IO.1 tkX6_entryAt_IO.2 (by decide +kernel) taX6_entryAt_IO tbIO gNc_on tgIO dX6_entryAt_15 dX6_entryAt_18 dX6_entryAt_19 dX6_entryAt_21 dX6_entryAt_24 (Nat.le_of_ble_eq_true rfl) (Nat.le_of_ble_eq_true rfl) (Nat.le_of_ble_eq_true rfl) (Nat.le_of_ble_eq_true rfl) (hrx _ (Option.some.inj h).symm)
  · rw [if_neg hc] at h
    refine jw_iload_n hX dX6_entryAt_4 rfl 1 rfl ?_
    refine jw_aload_n hX dX6_entryAt_5 rfl 0 rfl ?_
    obtain ⟨ho6_2, h⟩ := chk_some h
    obtain ⟨q6, hr6, h⟩ := bP_some h
    refine jw_pgetR hX hT 6 3 rfl (by decide) (by decide) rfl inX6_entryAt_6 rfl lkX6_entryAt_31 ho6_2 hr6 dX6_entryAt_6 ?_
    obtain ⟨ho9_5, h⟩ := chk_some h
    obtain ⟨r9, hc9, h⟩ := bP_some h
    refine jw_pVi (As := []) hX (GP_ok gs) hGX 0 (kJx4a65c_size_8abf5 hT hc9) gX6_entryAt_Jx4a65c_size_8abf5 rfl hdJx4a65c_size_8abf5 ⟨by decide, by decide⟩ 0 rfl (by decide) ho9_5 rfl (Nat.le_of_ble_eq_true rfl) dX6_entryAt_9 rfl rfl ⟨by decide, by decide⟩ ?_
    refine jw_icmp_lt (tgt := 25) hX dX6_entryAt_12 (by decide) (fun hc => ?_) (fun hc => ?_)
    · rw [if_pos hc] at h
      refine jw_aload_n hX dX6_entryAt_25 rfl 0 rfl ?_
      obtain ⟨ho26_1, h⟩ := chk_some h
      obtain ⟨q26, hr26, h⟩ := bP_some h
      refine jw_pgetR hX hT 6 3 rfl (by decide) (by decide) rfl inX6_entryAt_6 rfl lkX6_entryAt_31 ho26_1 hr26 dX6_entryAt_26 ?_
      refine jw_iload_n hX dX6_entryAt_29 rfl 1 rfl ?_
      obtain ⟨ho30_5, h⟩ := chk_some h
      obtain ⟨r30, hc30, h⟩ := bP_some h
      refine jw_pVr (As := [.int v1]) hX (GP_ok gs) hGX 1 (kJx4a65c_get_915e3 hT hc30) gX6_entryAt_Jx4a65c_get_915e3 rfl hdJx4a65c_get_915e3 ⟨by decide, by decide⟩ 0 rfl (by decide) ho30_5 rfl (Nat.le_of_ble_eq_true rfl) dX6_entryAt_30 rfl rfl ⟨by decide, by decide⟩ ?_
      obtain ⟨ho33_8, h⟩ := chk_some h
      refine jw_pcast hX hT (k := 2) rfl (by decide) ho33_8 ckX6_entryAt_82 (gp_nc hGX (w := .castable RX1 RX1) (by decide +kernel)) dX6_entryAt_33 ?_
      exact hret _ _ _ _ _ _ (by decide) (by decide) dX6_entryAt_36 (hro _ (Option.some.inj h).symm)
    · rw [if_neg hc] at h
      exact jw_throwS (is := 198) (text := "there is no such entry") hX hGX hQ (by decide +kernel) (by decide +kernel) tkX6_entryAt_IO.1 tkX6_entryAt_IO.2 (by decide +kernel) taX6_entryAt_IO tbIO gNc_on tgIO dX6_entryAt_15 dX6_entryAt_18 dX6_entryAt_19 dX6_entryAt_21 dX6_entryAt_24 (Nat.le_of_ble_eq_true rfl) (Nat.le_of_ble_eq_true rfl) (Nat.le_of_ble_eq_true rfl) (Nat.le_of_ble_eq_true rfl) (hrx _ (Option.some.inj h).symm)
set_option maxRecDepth 100000 in
set_option maxHeartbeats 4000000 in
theorem kX6_entryAt {l : Launch} {D : va_G} {tys : List (ClassId × FieldType)} {cI cZ cO cJ : ClassId} {gs : JP} {S : PS} {v0 : Nat} {v1 : Int32} {r : Nat} (hl : l.stackTraces = false) (hT : tys = jTy cI cZ cO cJ) (h : fX6_entryAt S v0 v1 = some (.inr r)) : CX l (GP gs) D tys yX6_entryAt wsX6_entryAt rmX6_entryAt [.ref v0, .int v1] (pW cI cO S) (fun ov w2 => ov = some (.ref r) ∧ w2 = (pW cI cO S)) (fun _ _ => False) := by
  refine CX_of (cc := cX6_entryAt) (maxL := 2) (ret := (some (.object "Postlint$Entry"))) hl (by decide) rfl (Nat.le_of_ble_eq_true rfl) ?_
  intro X hD hL hT0 hGX hX hQ rI rZ rV rA
  exact sX6_entryAt (post := fun ov w2 => ov = some (.ref r) ∧ w2 = (pW cI cO S)) (px := fun _ _ => False) hX (hT0.trans hT) hGX (rA (Or.inl ⟨_, rfl⟩)) hQ (o := .inr r) (fun v9 e9 => by cases e9; exact ⟨rfl, rfl⟩) (fun x9 e9 => nomatch e9) h
set_option maxRecDepth 100000 in
set_option maxHeartbeats 4000000 in
theorem kxX6_entryAt {l : Launch} {D : va_G} {tys : List (ClassId × FieldType)} {cI cZ cO cJ : ClassId} {gs : JP} {S : PS} {v0 : Nat} {v1 : Int32} {x9 : Nat} (hl : l.stackTraces = false) (hT : tys = jTy cI cZ cO cJ) (h : fX6_entryAt S v0 v1 = some (.inl x9)) : CX l (GP gs) D tys yX6_entryAt wsX6_entryAt rmX6_entryAt [.ref v0, .int v1] (pW cI cO S) (fun _ _ => False) (fun E w2 => E = exN x9 ∧ w2 = (pW cI cO S)) := by
  refine CX_of (cc := cX6_entryAt) (maxL := 2) (ret := (some (.object "Postlint$Entry"))) hl (by decide) rfl (Nat.le_of_ble_eq_true rfl) ?_
  intro X hD hL hT0 hGX hX hQ rI rZ rV rA
  exact sX6_entryAt (post := fun _ _ => False) (px := fun E w2 => E = exN x9 ∧ w2 = (pW cI cO S)) hX (hT0.trans hT) hGX (rA (Or.inl ⟨_, rfl⟩)) hQ (o := .inl x9) (fun v9 e9 => nomatch e9) (fun x9 e9 => by cases e9; exact ⟨rfl, rfl⟩) h
/-! X6_freezes -/
abbrev rmX6_freezes : Room := { frames := 3, cells := 0, slots := 0, locals := 64 }
theorem hdX6_freezes : yX6_freezes.cls = RX6 ∧ yX6_freezes.cls ≠ "java/lang/invoke/MethodHandle" ∧ yX6_freezes.cls ≠ "java/lang/invoke/VarHandle" ∧ (parseMethodDescriptor yX6_freezes.desc).map (fun d => d.parameters.length) = some 1 := by decide +kernel
theorem lkX6_freezes_38 : Cond.fieldLink RX6 38 RX6 (TX6 5).2.1 (TX6 5).2.2.1 ∈ wsX6_freezes := by decide +kernel
theorem inX6_freezes_6 : ∀ w ∈ wsX60, w ∈ wsX6_freezes := fun _ h => List.mem_cons_of_mem _ (List.mem_append_left _ (List.mem_append_left _ (List.mem_append_right _ h)))
theorem ckX6_freezes_151 : Cond.classLink RX6 151 RX0 ∈ wsX6_freezes := by decide +kernel
theorem inX6_freezes_1 : ∀ w ∈ wsX00, w ∈ wsX6_freezes := fun _ h => List.mem_cons_of_mem _ (List.mem_append_left _ (List.mem_append_right _ h))
def fX6_freezes_L2 (n : Nat) : Nat → PS → Nat → Int32 → Int32 → Option (Int32 ⊕ Unit)
  | 0, _, _, _, _ => none
  | k + 1, S, v0, v1, v2 => chk (okP S v0 6) (bP (sR S 65 v0) (fun q4 => chk (okP S q4 0) (bP (fJx4a65c_size_8abf5 S q4) (fun r7 => (if r7 ≤ v2 then some (Sum.inr ()) else chk (okP S v0 6) (bP (sR S 65 v0) (fun q14 => chk (okP S q14 0) (bP (fJx4a65c_get_915e3 S q14 v2) (fun r18 => chk (okP S r18 1) (chk (okP S r18 1) ((if (sI S 13 r18) = 0 then chk (okP S r18 1) ((if v1 < (sI S 10 r18) then fX6_freezes_L2 n k S v0 v1 (v2 + (1 : Int32)) else chk (okP S r18 1) ((if (sI S 11 r18) < v1 then fX6_freezes_L2 n k S v0 v1 (v2 + (1 : Int32)) else chk (b01 (1 : Int32)) (some (Sum.inl (1 : Int32))))))) else fX6_freezes_L2 n k S v0 v1 (v2 + (1 : Int32))))))))))))))
def fX6_freezes (n : Nat) (S : PS) (v0 : Nat) (v1 : Int32) : Option Int32 := bS0 (fX6_freezes_L2 n n S v0 v1 (0 : Int32)) (fun rr => some rr) (fun _ => chk (b01 (0 : Int32)) (some (0 : Int32)))
set_option maxRecDepth 100000 in
set_option maxHeartbeats 4000000 in
theorem sX6_freezes_L2 {X : JX} {cI cZ cO cJ : ClassId} {gs : JP} {n : Nat} {S : PS} {post : Option Value → va_W → Prop} (hX : jOK X cX6_freezes 4 wsX6_freezes RX6 rmX6_freezes) (hT : jT X = jTy cI cZ cO cJ) (hGX : jG X (GP gs)) (hret : jRZ X cX6_freezes rmX6_freezes post) {o : (Int32 ⊕ Unit)} (hex : o = .inr () → JW X 0 0 (pW cI cO S) 56 [] []) (hro : ∀ (v9 : Int32), o = .inl v9 → post (some (.int v9)) (pW cI cO S)) : ∀ (k : Nat) (v0 : Nat) (v1 : Int32) (v2 : Int32), fX6_freezes_L2 n k S v0 v1 v2 = some o → JW X 0 0 (pW cI cO S) 2 [(0, .ref v0), (1, .int v1), (2, .int v2)] [] := by
  intro k
  induction k with
  | zero => intro v0 v1 v2 h; cases h
  | succ k hrec0 =>
    intro v0 v1 v2 h
    unfold fX6_freezes_L2 at h
    refine jw_iload_n hX dX6_freezes_2 rfl 2 rfl ?_
    refine jw_aload_n hX dX6_freezes_3 rfl 0 rfl ?_
    obtain ⟨ho4_2, h⟩ := chk_some h
    obtain ⟨q4, hr4, h⟩ := bP_some h
    refine jw_pgetR hX hT 6 5 rfl (by decide) (by decide) rfl inX6_freezes_6 rfl lkX6_freezes_38 ho4_2 hr4 dX6_freezes_4 ?_
    obtain ⟨ho7_5, h⟩ := chk_some h
    obtain ⟨r7, hc7, h⟩ := bP_some h
    refine jw_pVi (As := []) hX (GP_ok gs) hGX 0 (kJx4a65c_size_8abf5 hT hc7) gX6_freezes_Jx4a65c_size_8abf5 rfl hdJx4a65c_size_8abf5 ⟨by decide, by decide⟩ 0 rfl (by decide) ho7_5 rfl (Nat.le_of_ble_eq_true rfl) dX6_freezes_7 rfl rfl ⟨by decide, by decide⟩ ?_
    refine jw_icmp_ge (tgt := 56) hX dX6_freezes_10 (by decide) (fun hc => ?_) (fun hc => ?_)
    · rw [if_pos hc] at h
      refine jw_sub [] [] rfl ?_
      exact hex (Option.some.inj h).symm
    · rw [if_neg hc] at h
      refine jw_aload_n hX dX6_freezes_13 rfl 0 rfl ?_
      obtain ⟨ho14_1, h⟩ := chk_some h
      obtain ⟨q14, hr14, h⟩ := bP_some h
      refine jw_pgetR hX hT 6 5 rfl (by decide) (by decide) rfl inX6_freezes_6 rfl lkX6_freezes_38 ho14_1 hr14 dX6_freezes_14 ?_
      refine jw_iload_n hX dX6_freezes_17 rfl 2 rfl ?_
      obtain ⟨ho18_5, h⟩ := chk_some h
      obtain ⟨r18, hc18, h⟩ := bP_some h
      refine jw_pVr (As := [.int v2]) hX (GP_ok gs) hGX 1 (kJx4a65c_get_915e3 hT hc18) gX6_freezes_Jx4a65c_get_915e3 rfl hdJx4a65c_get_915e3 ⟨by decide, by decide⟩ 0 rfl (by decide) ho18_5 rfl (Nat.le_of_ble_eq_true rfl) dX6_freezes_18 rfl rfl ⟨by decide, by decide⟩ ?_
      obtain ⟨ho21_8, h⟩ := chk_some h
      refine jw_pcast hX hT (k := 1) rfl (by decide) ho21_8 ckX6_freezes_151 (gp_nc hGX (w := .castable RX0 RX0) (by decide +kernel)) dX6_freezes_21 ?_
      refine jw_astore_n hX [(3, .ref r18), (0, .ref v0), (1, .int v1), (2, .int v2)] dX6_freezes_24 rfl (by decide) rfl ?_
      refine jw_aload_n hX dX6_freezes_25 rfl 0 rfl ?_
      obtain ⟨ho26_12, h⟩ := chk_some h
      refine jw_pgetIN hX hT 1 3 rfl (by decide) (by decide) rfl inX6_freezes_1 rfl (gp_nf hGX (w := .fieldLinkNest RX6 163 RX0 (TX0 3).2.1 (TX0 3).2.2.1 "Postlint") (by decide +kernel)) ho26_12 dX6_freezes_26 ?_
      refine jw_if_ne (tgt := 50) hX dX6_freezes_29 (by decide) (fun hc => ?_) (fun hc => ?_)
      · rw [if_neg hc] at h
        refine jw_iinc (v := (v2 + (1 : Int32))) hX [(2, .int (v2 + (1 : Int32))), (3, .ref r18), (0, .ref v0), (1, .int v1)] dX6_freezes_50 3 rfl (by first | rfl | (congr 1; decide)) (by decide) rfl ?_
        refine jw_goto (tgt := 2) hX dX6_freezes_53 (by decide) ?_
        refine jw_sub [2, 3, 0] [(0, .ref v0), (1, .int v1), (2, .int (v2 + (1 : Int32)))] rfl ?_
        exact hrec0 _ _ _ h
      · rw [if_pos hc] at h
        refine jw_aload_n hX dX6_freezes_32 rfl 0 rfl ?_
        obtain ⟨ho33_1, h⟩ := chk_some h
        refine jw_pgetIN hX hT 1 0 rfl (by decide) (by decide) rfl inX6_freezes_1 rfl (gp_nf hGX (w := .fieldLinkNest RX6 236 RX0 (TX0 0).2.1 (TX0 0).2.2.1 "Postlint") (by decide +kernel)) ho33_1 dX6_freezes_33 ?_
        refine jw_iload_n hX dX6_freezes_36 rfl 2 rfl ?_
        refine jw_icmp_gt (tgt := 50) hX dX6_freezes_37 (by decide) (fun hc => ?_) (fun hc => ?_)
        · rw [if_pos hc] at h
          refine jw_iinc (v := (v2 + (1 : Int32))) hX [(2, .int (v2 + (1 : Int32))), (3, .ref r18), (0, .ref v0), (1, .int v1)] dX6_freezes_50 3 rfl (by first | rfl | (congr 1; decide)) (by decide) rfl ?_
          refine jw_goto (tgt := 2) hX dX6_freezes_53 (by decide) ?_
          refine jw_sub [2, 3, 0] [(0, .ref v0), (1, .int v1), (2, .int (v2 + (1 : Int32)))] rfl ?_
          exact hrec0 _ _ _ h
        · rw [if_neg hc] at h
          refine jw_iload_n hX dX6_freezes_40 rfl 2 rfl ?_
          refine jw_aload_n hX dX6_freezes_41 rfl 0 rfl ?_
          obtain ⟨ho42_2, h⟩ := chk_some h
          refine jw_pgetIN hX hT 1 1 rfl (by decide) (by decide) rfl inX6_freezes_1 rfl (gp_nf hGX (w := .fieldLinkNest RX6 239 RX0 (TX0 1).2.1 (TX0 1).2.2.1 "Postlint") (by decide +kernel)) ho42_2 dX6_freezes_42 ?_
          refine jw_icmp_gt (tgt := 50) hX dX6_freezes_45 (by decide) (fun hc => ?_) (fun hc => ?_)
          · rw [if_pos hc] at h
            refine jw_iinc (v := (v2 + (1 : Int32))) hX [(2, .int (v2 + (1 : Int32))), (3, .ref r18), (0, .ref v0), (1, .int v1)] dX6_freezes_50 3 rfl (by first | rfl | (congr 1; decide)) (by decide) rfl ?_
            refine jw_goto (tgt := 2) hX dX6_freezes_53 (by decide) ?_
            refine jw_sub [2, 3, 0] [(0, .ref v0), (1, .int v1), (2, .int (v2 + (1 : Int32)))] rfl ?_
            exact hrec0 _ _ _ h
          · rw [if_neg hc] at h
            refine jw_iconst (v := (1 : Int32)) hX dX6_freezes_48 (by decide) ?_
            obtain ⟨hz49, h⟩ := chk_some h
            exact hret _ _ _ _ _ _ (b01_or hz49) (by decide) (by decide) dX6_freezes_49 (hro _ (Option.some.inj h).symm)
set_option maxRecDepth 100000 in
set_option maxHeartbeats 4000000 in
theorem sX6_freezes {X : JX} {cI cZ cO cJ : ClassId} {gs : JP} {n : Nat} {S : PS} {post : Option Value → va_W → Prop} (hX : jOK X cX6_freezes 4 wsX6_freezes RX6 rmX6_freezes) (hT : jT X = jTy cI cZ cO cJ) (hGX : jG X (GP gs)) (hret : jRZ X cX6_freezes rmX6_freezes post) {o : Int32} (hro : ∀ (v9 : Int32), o = v9 → post (some (.int v9)) (pW cI cO S))  {v0 : Nat} {v1 : Int32} (h : fX6_freezes n S v0 v1 = some o) : JW X 0 0 (pW cI cO S) 0 [(0, .ref v0), (1, .int v1)] [] := by
  unfold fX6_freezes at h
  refine jw_iconst (v := (0 : Int32)) hX dX6_freezes_0 (by decide) ?_
  refine jw_istore_n hX [(2, .int (0 : Int32)), (0, .ref v0), (1, .int v1)] dX6_freezes_1 rfl (by decide) rfl ?_
  refine jw_sub [1, 2, 0] [(0, .ref v0), (1, .int v1), (2, .int (0 : Int32))] rfl ?_
  rcases bS0_some h with ⟨rr, hl2, h⟩ | ⟨hl2, h⟩
  · refine sX6_freezes_L2 hX hT hGX hret (o := .inl rr) (fun e9 => nomatch e9) (fun v9 e9 => ?_) n _ _ _ hl2
    cases e9
    exact hro _ (Option.some.inj h).symm
  · refine sX6_freezes_L2 hX hT hGX hret (o := .inr ()) (fun e9 => ?_) (fun v9 e9 => nomatch e9) n _ _ _ hl2
    cases e9
    refine jw_iconst (v := (0 : Int32)) hX dX6_freezes_56 (by decide) ?_
    obtain ⟨hz57, h⟩ := chk_some h
    exact hret _ _ _ _ _ _ (b01_or hz57) (by decide) (by decide) dX6_freezes_57 (hro _ (Option.some.inj h).symm)
set_option maxRecDepth 100000 in
set_option maxHeartbeats 4000000 in
theorem kX6_freezes {l : Launch} {D : va_G} {tys : List (ClassId × FieldType)} {cI cZ cO cJ : ClassId} {gs : JP} {n : Nat} {S : PS} {v0 : Nat} {v1 : Int32} {r : Int32} (hT : tys = jTy cI cZ cO cJ) (h : fX6_freezes n S v0 v1 = some r) : CC l (GP gs) D tys yX6_freezes wsX6_freezes rmX6_freezes [.ref v0, .int v1] (pW cI cO S) (fun ov w2 => ov = some (.int r) ∧ w2 = (pW cI cO S)) := by
  refine CC_of (cc := cX6_freezes) (maxL := 4) (ret := (some .boolean)) (by decide) rfl (Nat.le_of_ble_eq_true rfl) ?_
  intro X hD hL hT0 hGX hX rI rZ rV rA
  exact sX6_freezes (post := fun ov w2 => ov = some (.int r) ∧ w2 = (pW cI cO S)) hX (hT0.trans hT) hGX (fun cells slots w9 pc lv v => rZ cells slots w9 pc lv v rfl) (o := r) (fun v9 e9 => by cases e9; exact ⟨rfl, rfl⟩) h
/-! X6_strike -/
abbrev rmX6_strike : Room := { frames := 7, cells := 2, slots := 12, locals := 111 }
theorem hdX6_strike : yX6_strike.cls = RX6 ∧ yX6_strike.cls ≠ "java/lang/invoke/MethodHandle" ∧ yX6_strike.cls ≠ "java/lang/invoke/VarHandle" ∧ (parseMethodDescriptor yX6_strike.desc).map (fun d => d.parameters.length) = some 1 := by decide +kernel
theorem inX6_strike_2 : ∀ w ∈ wsX10, w ∈ wsX6_strike := fun _ h => List.mem_cons_of_mem _ (List.mem_append_left _ (List.mem_append_left _ (List.mem_append_left _ (List.mem_append_left _ (List.mem_append_left _ (List.mem_append_left _ (List.mem_append_right _ h)))))))
theorem tkX6_strike_IS : Cond.classLink "Postlint" 52 "java/lang/IllegalStateException" ∈ wsX6_strike ∧ Cond.initialized "java/lang/IllegalStateException" ∈ wsX6_strike := by decide +kernel
theorem taX6_strike_IS : ∀ w ∈ (vx_atS "Postlint" 56 "java/lang/IllegalStateException" ["java/lang/RuntimeException", "java/lang/Exception"]).filter goodWord, w ∈ wsX6_strike := fun _ h => List.mem_cons_of_mem _ (List.mem_append_left _ (List.mem_append_right _ h))
theorem lkX6_strike_31 : Cond.fieldLink RX6 31 RX6 (TX6 3).2.1 (TX6 3).2.2.1 ∈ wsX6_strike := by decide +kernel
theorem inX6_strike_6 : ∀ w ∈ wsX60, w ∈ wsX6_strike := fun _ h => List.mem_cons_of_mem _ (List.mem_append_left _ (List.mem_append_left _ (List.mem_append_left _ (List.mem_append_left _ (List.mem_append_left _ (List.mem_append_right _ h))))))
theorem ckX6_strike_82 : Cond.classLink RX6 82 RX1 ∈ wsX6_strike := by decide +kernel
def fX6_strike_L40 (n : Nat) : Nat → PS → Nat → Int32 → Int32 → Option (Int32)
  | 0, _, _, _, _ => none
  | k + 1, S, v0, v3, v4 => chk (okP S v0 6) (bP (sR S 63 v0) (fun q43 => chk (okP S q43 0) (bP (fJx4a65c_size_8abf5 S q43) (fun r46 => (if r46 ≤ v4 then some v3 else chk (okP S v0 6) (bP (sR S 63 v0) (fun q53 => chk (okP S q53 0) (bP (fJx4a65c_get_915e3 S q53 v4) (fun r58 => chk (okP S r58 2) (chk (okP S r58 2) ((if (sI S 25 r58) = 0 then fX6_strike_L40 n k S v0 (v3 + (1 : Int32)) (v4 + (1 : Int32)) else fX6_strike_L40 n k S v0 v3 (v4 + (1 : Int32))))))))))))))
def fX6_strike (n : Nat) (S : PS) (v0 : Nat) (v1 : Int32) : Option ((Nat × PS) ⊕ (Int32 × PS)) := chk (okP S v0 6) (bS1 (fX6_entryAt S v0 v1) (fun ex => some (Sum.inl (ex, S))) (fun r2 => chk (okP S r2 2) ((if (sI S 25 r2) = 0 then chk (okP S v0 6) (bP (fX6_freezes n S v0 v1) (fun r15 => (if r15 = 0 then chk (okP S r2 2) (bP (fX1_strikeOut n S r2) (fun w32 => bL1 (fX6_strike_L40 n n w32 v0 (0 : Int32) (0 : Int32)) (fun x3_40 => some (Sum.inr (x3_40, w32))))) else some (Sum.inl (1, S))))) else some (Sum.inl (1, S))))))
set_option maxRecDepth 100000 in
set_option maxHeartbeats 4000000 in
theorem sX6_strike_L40 {X : JX} {cI cZ cO cJ : ClassId} {gs : JP} {n : Nat} {post : Option Value → va_W → Prop} (hX : jOK X cX6_strike 5 wsX6_strike RX6 rmX6_strike) (hT : jT X = jTy cI cZ cO cJ) (hGX : jG X (GP gs)) (hret : jRI X cX6_strike rmX6_strike post) {w0 : va_W} {px : String → va_W → Prop} (hQ : jXQ X w0 rmX6_strike post px) {S : PS} {o : (Int32)} (hex : ∀ (x3 : Int32), o = x3 → JW X 1 6 (pW cI cO S) 79 [(3, .int x3)] [])  : ∀ (k : Nat) (v0 : Nat) (v3 : Int32) (v4 : Int32), fX6_strike_L40 n k S v0 v3 v4 = some o → JW X 1 6 (pW cI cO S) 40 [(0, .ref v0), (3, .int v3), (4, .int v4)] [] := by
  intro k
  induction k with
  | zero => intro v0 v3 v4 h; cases h
  | succ k hrec0 =>
    intro v0 v3 v4 h
    unfold fX6_strike_L40 at h
    refine jw_iload hX dX6_strike_40 2 rfl ?_
    refine jw_aload_n hX dX6_strike_42 rfl 0 rfl ?_
    obtain ⟨ho43_2, h⟩ := chk_some h
    obtain ⟨q43, hr43, h⟩ := bP_some h
    refine jw_pgetR hX hT 6 3 rfl (by decide) (by decide) rfl inX6_strike_6 rfl lkX6_strike_31 ho43_2 hr43 dX6_strike_43 ?_
    obtain ⟨ho46_5, h⟩ := chk_some h
    obtain ⟨r46, hc46, h⟩ := bP_some h
    refine jw_pVi (As := []) hX (GP_ok gs) hGX 0 (kJx4a65c_size_8abf5 hT hc46) gX6_strike_Jx4a65c_size_8abf5 rfl hdJx4a65c_size_8abf5 ⟨by decide, by decide⟩ 0 rfl (by decide) ho46_5 rfl (Nat.le_of_ble_eq_true rfl) dX6_strike_46 rfl rfl ⟨by decide, by decide⟩ ?_
    refine jw_icmp_ge (tgt := 79) hX dX6_strike_49 (by decide) (fun hc => ?_) (fun hc => ?_)
    · rw [if_pos hc] at h
      refine jw_sub [1] [(3, .int v3)] rfl ?_
      exact hex _ (Option.some.inj h).symm
    · rw [if_neg hc] at h
      refine jw_aload_n hX dX6_strike_52 rfl 0 rfl ?_
      obtain ⟨ho53_1, h⟩ := chk_some h
      obtain ⟨q53, hr53, h⟩ := bP_some h
      refine jw_pgetR hX hT 6 3 rfl (by decide) (by decide) rfl inX6_strike_6 rfl lkX6_strike_31 ho53_1 hr53 dX6_strike_53 ?_
      refine jw_iload hX dX6_strike_56 2 rfl ?_
      obtain ⟨ho58_5, h⟩ := chk_some h
      obtain ⟨r58, hc58, h⟩ := bP_some h
      refine jw_pVr (As := [.int v4]) hX (GP_ok gs) hGX 1 (kJx4a65c_get_915e3 hT hc58) gX6_strike_Jx4a65c_get_915e3 rfl hdJx4a65c_get_915e3 ⟨by decide, by decide⟩ 0 rfl (by decide) ho58_5 rfl (Nat.le_of_ble_eq_true rfl) dX6_strike_58 rfl rfl ⟨by decide, by decide⟩ ?_
      obtain ⟨ho61_8, h⟩ := chk_some h
      refine jw_pcast hX hT (k := 2) rfl (by decide) ho61_8 ckX6_strike_82 (gp_nc hGX (w := .castable RX1 RX1) (by decide +kernel)) dX6_strike_61 ?_
      obtain ⟨ho64_10, h⟩ := chk_some h
      refine jw_pgetIN hX hT 2 5 rfl (by decide) (by decide) rfl inX6_strike_2 rfl (gp_nf hGX (w := .fieldLinkNest RX6 100 RX1 (TX1 5).2.1 (TX1 5).2.2.1 "Postlint") (by decide +kernel)) ho64_10 dX6_strike_64 ?_
      refine jw_if_ne (tgt := 73) hX dX6_strike_67 (by decide) (fun hc => ?_) (fun hc => ?_)
      · rw [if_neg hc] at h
        refine jw_iinc (v := (v4 + (1 : Int32))) hX [(4, .int (v4 + (1 : Int32))), (0, .ref v0), (3, .int v3)] dX6_strike_73 2 rfl (by first | rfl | (congr 1; decide)) (by decide) rfl ?_
        refine jw_goto (tgt := 40) hX dX6_strike_76 (by decide) ?_
        refine jw_sub [1, 2, 0] [(0, .ref v0), (3, .int v3), (4, .int (v4 + (1 : Int32)))] rfl ?_
        exact hrec0 _ _ _ h
      · rw [if_pos hc] at h
        refine jw_iinc (v := (v3 + (1 : Int32))) hX [(3, .int (v3 + (1 : Int32))), (0, .ref v0), (4, .int v4)] dX6_strike_70 1 rfl (by first | rfl | (congr 1; decide)) (by decide) rfl ?_
        refine jw_iinc (v := (v4 + (1 : Int32))) hX [(4, .int (v4 + (1 : Int32))), (3, .int (v3 + (1 : Int32))), (0, .ref v0)] dX6_strike_73 2 rfl (by first | rfl | (congr 1; decide)) (by decide) rfl ?_
        refine jw_goto (tgt := 40) hX dX6_strike_76 (by decide) ?_
        refine jw_sub [2, 1, 0] [(0, .ref v0), (3, .int (v3 + (1 : Int32))), (4, .int (v4 + (1 : Int32)))] rfl ?_
        exact hrec0 _ _ _ h
set_option maxRecDepth 100000 in
set_option maxHeartbeats 4000000 in
theorem sX6_strike {X : JX} {cI cZ cO cJ : ClassId} {gs : JP} {n : Nat} {post : Option Value → va_W → Prop} (hX : jOK X cX6_strike 5 wsX6_strike RX6 rmX6_strike) (hT : jT X = jTy cI cZ cO cJ) (hGX : jG X (GP gs)) (hret : jRI X cX6_strike rmX6_strike post) {w0 : va_W} {px : String → va_W → Prop} (hQ : jXQ X w0 rmX6_strike post px) {o : ((Nat × PS) ⊕ (Int32 × PS))} (hro : ∀ (v9 : Int32) (w9 : PS), o = .inr (v9, w9) → post (some (.int v9)) (pW cI cO w9)) (hrx : ∀ (x9 : Nat) (w9 : PS), o = .inl (x9, w9) → px (exN x9) (pW cI cO w9)) {S : PS} {v0 : Nat} {v1 : Int32} (h : fX6_strike n S v0 v1 = some o) : JW X 0 0 (pW cI cO S) 0 [(0, .ref v0), (1, .int v1)] [] := by
  unfold fX6_strike at h
  refine jw_aload_n hX dX6_strike_0 rfl 0 rfl ?_
  refine jw_iload_n hX dX6_strike_1 rfl 1 rfl ?_
  obtain ⟨ho2_2, h⟩ := chk_some h
  rcases bS1_some h with ⟨ex, hl2, h⟩ | ⟨r2, hl2, h⟩
  · skip
    exact jw_pVx (As := [.int v1]) hX (GP_ok gs) hGX hQ 1 (kxX6_entryAt (jXQ_tr hQ) hT hl2) gX6_strike_X6_entryAt rfl hdX6_entryAt ⟨by decide, by decide⟩ 6 rfl (by decide) ho2_2 rfl (Nat.le_of_ble_eq_true rfl) dX6_strike_2 ⟨by decide, by decide⟩ (hrx _ _ (Option.some.inj h).symm)
  · skip
    refine jw_pVXr (As := [.int v1]) hX (GP_ok gs) hGX 1 (kX6_entryAt (jXQ_tr hQ) hT hl2) gX6_strike_X6_entryAt rfl hdX6_entryAt ⟨by decide, by decide⟩ 6 rfl (by decide) ho2_2 rfl (Nat.le_of_ble_eq_true rfl) dX6_strike_2 rfl rfl ⟨by decide, by decide⟩ ?_
    refine jw_astore_n hX [(2, .ref r2), (0, .ref v0), (1, .int v1)] dX6_strike_5 rfl (by decide) rfl ?_
    refine jw_aload_n hX dX6_strike_6 rfl 0 rfl ?_
    obtain ⟨ho7_2, h⟩ := chk_some h
    refine jw_pgetIN hX hT 2 5 rfl (by decide) (by decide) rfl inX6_strike_2 rfl (gp_nf hGX (w := .fieldLinkNest RX6 100 RX1 (TX1 5).2.1 (TX1 5).2.2.1 "Postlint") (by decide +kernel)) ho7_2 dX6_strike_7 ?_
    refine jw_if_ne (tgt := 21) hX dX6_strike_10 (by decide) (fun hc => ?_) (fun hc => ?_)
    · rw [if_neg hc] at h
      exact jw_throwS (is := 104) (text := "the entry is struck out or frozen") hX hGX hQ (by decide +kernel) (by decide +kernel) tkX6_strike_IS.1 tkX6_strike_IS.2 (by decide +kernel) taX6_strike_IS tbIS gNc_on tgIS dX6_strike_21 dX6_strike_24 dX6_strike_25 dX6_strike_27 dX6_strike_30 (Nat.le_of_ble_eq_true rfl) (Nat.le_of_ble_eq_true rfl) (Nat.le_of_ble_eq_true rfl) (Nat.le_of_ble_eq_true rfl) (hrx _ _ (Option.some.inj h).symm)
    · rw [if_pos hc] at h
      refine jw_aload_n hX dX6_strike_13 rfl 1 rfl ?_
      refine jw_iload_n hX dX6_strike_14 rfl 2 rfl ?_
      obtain ⟨ho15_2, h⟩ := chk_some h
      obtain ⟨r15, hc15, h⟩ := bP_some h
      refine jw_pVi (As := [.int v1]) hX (GP_ok gs) hGX 1 (kX6_freezes hT hc15) gX6_strike_X6_freezes rfl hdX6_freezes ⟨by decide, by decide⟩ 6 rfl (by decide) ho15_2 rfl (Nat.le_of_ble_eq_true rfl) dX6_strike_15 rfl rfl ⟨by decide, by decide⟩ ?_
      refine jw_if_eq (tgt := 31) hX dX6_strike_18 (by decide) (fun hc => ?_) (fun hc => ?_)
      · rw [if_pos hc] at h
        refine jw_aload_n hX dX6_strike_31 rfl 0 rfl ?_
        obtain ⟨ho32_1, h⟩ := chk_some h
        obtain ⟨w32, hc32, h⟩ := bP_some h
        refine jw_pVv (As := []) hX (GP_ok gs) hGX 0 (kX1_strikeOut hT hc32) gX6_strike_X1_strikeOut rfl hdX1_strikeOut ⟨by decide, by decide⟩ 2 rfl (by decide) ho32_1 rfl (Nat.le_of_ble_eq_true rfl) dX6_strike_32 rfl rfl ⟨by decide, by decide⟩ ?_
        refine jw_iconst (v := (0 : Int32)) hX dX6_strike_35 (by decide) ?_
        refine jw_istore_n hX [(3, .int (0 : Int32)), (2, .ref r2), (0, .ref v0), (1, .int v1)] dX6_strike_36 rfl (by decide) rfl ?_
        refine jw_iconst (v := (0 : Int32)) hX dX6_strike_37 (by decide) ?_
        refine jw_istore hX [(4, .int (0 : Int32)), (3, .int (0 : Int32)), (2, .ref r2), (0, .ref v0), (1, .int v1)] dX6_strike_38 (by decide) rfl ?_
        refine jw_sub [3, 1, 0] [(0, .ref v0), (3, .int (0 : Int32)), (4, .int (0 : Int32))] rfl ?_
        obtain ⟨x3_40, hl40, h⟩ := bL1_some h
        refine sX6_strike_L40 hX hT hGX hret hQ (o := x3_40) (fun q0 e9 => ?_) n _ _ _ hl40
        cases e9
        refine jw_iload_n hX dX6_strike_79 rfl 0 rfl ?_
        exact hret _ _ _ _ _ _ (by decide) (by decide) dX6_strike_80 (hro _ _ (Option.some.inj h).symm)
      · rw [if_neg hc] at h
        exact jw_throwS (is := 104) (text := "the entry is struck out or frozen") hX hGX hQ (by decide +kernel) (by decide +kernel) tkX6_strike_IS.1 tkX6_strike_IS.2 (by decide +kernel) taX6_strike_IS tbIS gNc_on tgIS dX6_strike_21 dX6_strike_24 dX6_strike_25 dX6_strike_27 dX6_strike_30 (Nat.le_of_ble_eq_true rfl) (Nat.le_of_ble_eq_true rfl) (Nat.le_of_ble_eq_true rfl) (Nat.le_of_ble_eq_true rfl) (hrx _ _ (Option.some.inj h).symm)
set_option maxRecDepth 100000 in
set_option maxHeartbeats 4000000 in
theorem kX6_strike {l : Launch} {D : va_G} {tys : List (ClassId × FieldType)} {cI cZ cO cJ : ClassId} {gs : JP} {n : Nat} {S : PS} {v0 : Nat} {v1 : Int32} {r : Int32} {w1 : PS} (hl : l.stackTraces = false) (hT : tys = jTy cI cZ cO cJ) (h : fX6_strike n S v0 v1 = some (.inr (r, w1))) : CX l (GP gs) D tys yX6_strike wsX6_strike rmX6_strike [.ref v0, .int v1] (pW cI cO S) (fun ov w2 => ov = some (.int r) ∧ w2 = (pW cI cO w1)) (fun _ _ => False) := by
  refine CX_of (cc := cX6_strike) (maxL := 5) (ret := (some .int)) hl (by decide) rfl (Nat.le_of_ble_eq_true rfl) ?_
  intro X hD hL hT0 hGX hX hQ rI rZ rV rA
  exact sX6_strike (post := fun ov w2 => ov = some (.int r) ∧ w2 = (pW cI cO w1)) (px := fun _ _ => False) hX (hT0.trans hT) hGX (rI rfl) hQ (o := .inr (r, w1)) (fun v9 w9 e9 => by cases e9; exact ⟨rfl, rfl⟩) (fun x9 w9 e9 => nomatch e9) h
set_option maxRecDepth 100000 in
set_option maxHeartbeats 4000000 in
theorem kxX6_strike {l : Launch} {D : va_G} {tys : List (ClassId × FieldType)} {cI cZ cO cJ : ClassId} {gs : JP} {n : Nat} {S : PS} {v0 : Nat} {v1 : Int32} {x9 : Nat} {w1 : PS} (hl : l.stackTraces = false) (hT : tys = jTy cI cZ cO cJ) (h : fX6_strike n S v0 v1 = some (.inl (x9, w1))) : CX l (GP gs) D tys yX6_strike wsX6_strike rmX6_strike [.ref v0, .int v1] (pW cI cO S) (fun _ _ => False) (fun E w2 => E = exN x9 ∧ w2 = (pW cI cO w1)) := by
  refine CX_of (cc := cX6_strike) (maxL := 5) (ret := (some .int)) hl (by decide) rfl (Nat.le_of_ble_eq_true rfl) ?_
  intro X hD hL hT0 hGX hX hQ rI rZ rV rA
  exact sX6_strike (post := fun _ _ => False) (px := fun E w2 => E = exN x9 ∧ w2 = (pW cI cO w1)) hX (hT0.trans hT) hGX (rI rfl) hQ (o := .inl (x9, w1)) (fun v9 w9 e9 => nomatch e9) (fun x9 w9 e9 => by cases e9; exact ⟨rfl, rfl⟩) h
/-! X6_ruleAt -/
abbrev rmX6_ruleAt : Room := { frames := 6, cells := 1, slots := 6, locals := 90 }
theorem hdX6_ruleAt : yX6_ruleAt.cls = RX6 ∧ yX6_ruleAt.cls ≠ "java/lang/invoke/MethodHandle" ∧ yX6_ruleAt.cls ≠ "java/lang/invoke/VarHandle" ∧ (parseMethodDescriptor yX6_ruleAt.desc).map (fun d => d.parameters.length) = some 1 := by decide +kernel
theorem tkX6_ruleAt_IO : Cond.classLink "Postlint" 172 "java/lang/IndexOutOfBoundsException" ∈ wsX6_ruleAt ∧ Cond.initialized "java/lang/IndexOutOfBoundsException" ∈ wsX6_ruleAt := by decide +kernel
theorem taX6_ruleAt_IO : ∀ w ∈ (vx_atS "Postlint" 176 "java/lang/IndexOutOfBoundsException" ["java/lang/RuntimeException", "java/lang/Exception"]).filter goodWord, w ∈ wsX6_ruleAt := fun _ h => List.mem_cons_of_mem _ (List.mem_append_right _ h)
theorem lkX6_ruleAt_35 : Cond.fieldLink RX6 35 RX6 (TX6 4).2.1 (TX6 4).2.2.1 ∈ wsX6_ruleAt := by decide +kernel
theorem inX6_ruleAt_6 : ∀ w ∈ wsX60, w ∈ wsX6_ruleAt := fun _ h => List.mem_cons_of_mem _ (List.mem_append_left _ (List.mem_append_left _ (List.mem_append_right _ h)))
theorem ckX6_ruleAt_126 : Cond.classLink RX6 126 RX3 ∈ wsX6_ruleAt := by decide +kernel
def fX6_ruleAt (S : PS) (v0 : Nat) (v1 : Int32) : Option (Nat ⊕ Nat) := (if v1 < 0 then some (Sum.inl 2) else chk (okP S v0 6) (bP (sR S 64 v0) (fun q6 => chk (okP S q6 0) (bP (fJx4a65c_size_8abf5 S q6) (fun r9 => (if v1 < r9 then chk (okP S v0 6) (bP (sR S 64 v0) (fun q26 => chk (okP S q26 0) (bP (fJx4a65c_get_915e3 S q26 v1) (fun r30 => chk (okP S r30 4) (some (Sum.inr r30)))))) else some (Sum.inl 2)))))))
set_option maxRecDepth 100000 in
set_option maxHeartbeats 4000000 in
theorem sX6_ruleAt {X : JX} {cI cZ cO cJ : ClassId} {gs : JP} {S : PS} {post : Option Value → va_W → Prop} (hX : jOK X cX6_ruleAt 2 wsX6_ruleAt RX6 rmX6_ruleAt) (hT : jT X = jTy cI cZ cO cJ) (hGX : jG X (GP gs)) (hret : jRA X cX6_ruleAt rmX6_ruleAt post) {w0 : va_W} {px : String → va_W → Prop} (hQ : jXQ X w0 rmX6_ruleAt post px) {o : (Nat ⊕ Nat)} (hro : ∀ (v9 : Nat), o = .inr v9 → post (some (.ref v9)) (pW cI cO S)) (hrx : ∀ x9 : Nat, o = .inl x9 → px (exN x9) (pW cI cO S)) {v0 : Nat} {v1 : Int32} (h : fX6_ruleAt S v0 v1 = some o) : JW X 0 0 (pW cI cO S) 0 [(0, .ref v0), (1, .int v1)] [] := by
  unfold fX6_ruleAt at h
  refine jw_iload_n hX dX6_ruleAt_0 rfl 1 rfl ?_
  refine jw_if_lt (tgt := 15) hX dX6_ruleAt_1 (by decide) (fun hc => ?_) (fun hc => ?_)
  · rw [if_pos hc] at h
    exact jw_throwS (is := 200) (text := "there is no such rule") hX hGX hQ (by decide +kernel) (by decide +kernel) tkX6_ruleAt_IO.1 tkX6_ruleAt_IO.2 (by decide +kernel) taX6_ruleAt_IO tbIO gNc_on tgIO dX6_ruleAt_15 dX6_ruleAt_18 dX6_ruleAt_19 dX6_ruleAt_21 dX6_ruleAt_24 (Nat.le_of_ble_eq_true rfl) (Nat.le_of_ble_eq_true rfl) (Nat.le_of_ble_eq_true rfl) (Nat.le_of_ble_eq_true rfl) (hrx _ (Option.some.inj h).symm)
  · rw [if_neg hc] at h
    refine jw_iload_n hX dX6_ruleAt_4 rfl 1 rfl ?_
    refine jw_aload_n hX dX6_ruleAt_5 rfl 0 rfl ?_
    obtain ⟨ho6_2, h⟩ := chk_some h
    obtain ⟨q6, hr6, h⟩ := bP_some h
    refine jw_pgetR hX hT 6 4 rfl (by decide) (by decide) rfl inX6_ruleAt_6 rfl lkX6_ruleAt_35 ho6_2 hr6 dX6_ruleAt_6 ?_
    obtain ⟨ho9_5, h⟩ := chk_some h
    obtain ⟨r9, hc9, h⟩ := bP_some h
    refine jw_pVi (As := []) hX (GP_ok gs) hGX 0 (kJx4a65c_size_8abf5 hT hc9) gX6_ruleAt_Jx4a65c_size_8abf5 rfl hdJx4a65c_size_8abf5 ⟨by decide, by decide⟩ 0 rfl (by decide) ho9_5 rfl (Nat.le_of_ble_eq_true rfl) dX6_ruleAt_9 rfl rfl ⟨by decide, by decide⟩ ?_
    refine jw_icmp_lt (tgt := 25) hX dX6_ruleAt_12 (by decide) (fun hc => ?_) (fun hc => ?_)
    · rw [if_pos hc] at h
      refine jw_aload_n hX dX6_ruleAt_25 rfl 0 rfl ?_
      obtain ⟨ho26_1, h⟩ := chk_some h
      obtain ⟨q26, hr26, h⟩ := bP_some h
      refine jw_pgetR hX hT 6 4 rfl (by decide) (by decide) rfl inX6_ruleAt_6 rfl lkX6_ruleAt_35 ho26_1 hr26 dX6_ruleAt_26 ?_
      refine jw_iload_n hX dX6_ruleAt_29 rfl 1 rfl ?_
      obtain ⟨ho30_5, h⟩ := chk_some h
      obtain ⟨r30, hc30, h⟩ := bP_some h
      refine jw_pVr (As := [.int v1]) hX (GP_ok gs) hGX 1 (kJx4a65c_get_915e3 hT hc30) gX6_ruleAt_Jx4a65c_get_915e3 rfl hdJx4a65c_get_915e3 ⟨by decide, by decide⟩ 0 rfl (by decide) ho30_5 rfl (Nat.le_of_ble_eq_true rfl) dX6_ruleAt_30 rfl rfl ⟨by decide, by decide⟩ ?_
      obtain ⟨ho33_8, h⟩ := chk_some h
      refine jw_pcast hX hT (k := 4) rfl (by decide) ho33_8 ckX6_ruleAt_126 (gp_nc hGX (w := .castable RX3 RX3) (by decide +kernel)) dX6_ruleAt_33 ?_
      exact hret _ _ _ _ _ _ (by decide) (by decide) dX6_ruleAt_36 (hro _ (Option.some.inj h).symm)
    · rw [if_neg hc] at h
      exact jw_throwS (is := 200) (text := "there is no such rule") hX hGX hQ (by decide +kernel) (by decide +kernel) tkX6_ruleAt_IO.1 tkX6_ruleAt_IO.2 (by decide +kernel) taX6_ruleAt_IO tbIO gNc_on tgIO dX6_ruleAt_15 dX6_ruleAt_18 dX6_ruleAt_19 dX6_ruleAt_21 dX6_ruleAt_24 (Nat.le_of_ble_eq_true rfl) (Nat.le_of_ble_eq_true rfl) (Nat.le_of_ble_eq_true rfl) (Nat.le_of_ble_eq_true rfl) (hrx _ (Option.some.inj h).symm)
set_option maxRecDepth 100000 in
set_option maxHeartbeats 4000000 in
theorem kX6_ruleAt {l : Launch} {D : va_G} {tys : List (ClassId × FieldType)} {cI cZ cO cJ : ClassId} {gs : JP} {S : PS} {v0 : Nat} {v1 : Int32} {r : Nat} (hl : l.stackTraces = false) (hT : tys = jTy cI cZ cO cJ) (h : fX6_ruleAt S v0 v1 = some (.inr r)) : CX l (GP gs) D tys yX6_ruleAt wsX6_ruleAt rmX6_ruleAt [.ref v0, .int v1] (pW cI cO S) (fun ov w2 => ov = some (.ref r) ∧ w2 = (pW cI cO S)) (fun _ _ => False) := by
  refine CX_of (cc := cX6_ruleAt) (maxL := 2) (ret := (some (.object "Postlint$Rule"))) hl (by decide) rfl (Nat.le_of_ble_eq_true rfl) ?_
  intro X hD hL hT0 hGX hX hQ rI rZ rV rA
  exact sX6_ruleAt (post := fun ov w2 => ov = some (.ref r) ∧ w2 = (pW cI cO S)) (px := fun _ _ => False) hX (hT0.trans hT) hGX (rA (Or.inl ⟨_, rfl⟩)) hQ (o := .inr r) (fun v9 e9 => by cases e9; exact ⟨rfl, rfl⟩) (fun x9 e9 => nomatch e9) h
set_option maxRecDepth 100000 in
set_option maxHeartbeats 4000000 in
theorem kxX6_ruleAt {l : Launch} {D : va_G} {tys : List (ClassId × FieldType)} {cI cZ cO cJ : ClassId} {gs : JP} {S : PS} {v0 : Nat} {v1 : Int32} {x9 : Nat} (hl : l.stackTraces = false) (hT : tys = jTy cI cZ cO cJ) (h : fX6_ruleAt S v0 v1 = some (.inl x9)) : CX l (GP gs) D tys yX6_ruleAt wsX6_ruleAt rmX6_ruleAt [.ref v0, .int v1] (pW cI cO S) (fun _ _ => False) (fun E w2 => E = exN x9 ∧ w2 = (pW cI cO S)) := by
  refine CX_of (cc := cX6_ruleAt) (maxL := 2) (ret := (some (.object "Postlint$Rule"))) hl (by decide) rfl (Nat.le_of_ble_eq_true rfl) ?_
  intro X hD hL hT0 hGX hX hQ rI rZ rV rA
  exact sX6_ruleAt (post := fun _ _ => False) (px := fun E w2 => E = exN x9 ∧ w2 = (pW cI cO S)) hX (hT0.trans hT) hGX (rA (Or.inl ⟨_, rfl⟩)) hQ (o := .inl x9) (fun v9 e9 => nomatch e9) (fun x9 e9 => by cases e9; exact ⟨rfl, rfl⟩) h
/-! X6_sumUpTo -/
abbrev rmX6_sumUpTo : Room := { frames := 3, cells := 0, slots := 0, locals := 64 }
theorem hdX6_sumUpTo : yX6_sumUpTo.cls = RX6 ∧ yX6_sumUpTo.cls ≠ "java/lang/invoke/MethodHandle" ∧ yX6_sumUpTo.cls ≠ "java/lang/invoke/VarHandle" ∧ (parseMethodDescriptor yX6_sumUpTo.desc).map (fun d => d.parameters.length) = some 2 := by decide +kernel
theorem lkX6_sumUpTo_31 : Cond.fieldLink RX6 31 RX6 (TX6 3).2.1 (TX6 3).2.2.1 ∈ wsX6_sumUpTo := by decide +kernel
theorem inX6_sumUpTo_6 : ∀ w ∈ wsX60, w ∈ wsX6_sumUpTo := fun _ h => List.mem_cons_of_mem _ (List.mem_append_left _ (List.mem_append_left _ (List.mem_append_right _ h)))
theorem ckX6_sumUpTo_82 : Cond.classLink RX6 82 RX1 ∈ wsX6_sumUpTo := by decide +kernel
def fX6_sumUpTo_L5 (n : Nat) : Nat → PS → Nat → Int32 → Int32 → Int32 → Int32 → Option (Int32)
  | 0, _, _, _, _, _, _ => none
  | k + 1, S, v0, v1, v2, v3, v4 => (if v1 < v4 then some v3 else chk (okP S v0 6) (bP (sR S 63 v0) (fun q14 => chk (okP S q14 0) (bP (fJx4a65c_size_8abf5 S q14) (fun r17 => (if r17 ≤ v4 then some v3 else chk (okP S v0 6) (bP (sR S 63 v0) (fun q25 => chk (okP S q25 0) (bP (fJx4a65c_get_915e3 S q25 v4) (fun r30 => chk (okP S r30 2) (chk (okP S r30 2) (bP (fX1_amountOf S r30 v2) (fun r37 => bnd ((v3 + r37)) (fun y41 => fX6_sumUpTo_L5 n k S v0 v1 v2 y41 (v4 + (1 : Int32))))))))))))))))
def fX6_sumUpTo (n : Nat) (S : PS) (v0 : Nat) (v1 : Int32) (v2 : Int32) : Option Int32 := bL1 (fX6_sumUpTo_L5 n n S v0 v1 v2 (0 : Int32) (0 : Int32)) (fun x3_5 => some x3_5)
set_option maxRecDepth 100000 in
set_option maxHeartbeats 4000000 in
theorem sX6_sumUpTo_L5 {X : JX} {cI cZ cO cJ : ClassId} {gs : JP} {n : Nat} {S : PS} {post : Option Value → va_W → Prop} (hX : jOK X cX6_sumUpTo 5 wsX6_sumUpTo RX6 rmX6_sumUpTo) (hT : jT X = jTy cI cZ cO cJ) (hGX : jG X (GP gs)) (hret : jRI X cX6_sumUpTo rmX6_sumUpTo post) {o : (Int32)} (hex : ∀ (x3 : Int32), o = x3 → JW X 0 0 (pW cI cO S) 48 [(3, .int x3)] [])  : ∀ (k : Nat) (v0 : Nat) (v1 : Int32) (v2 : Int32) (v3 : Int32) (v4 : Int32), fX6_sumUpTo_L5 n k S v0 v1 v2 v3 v4 = some o → JW X 0 0 (pW cI cO S) 5 [(0, .ref v0), (1, .int v1), (2, .int v2), (3, .int v3), (4, .int v4)] [] := by
  intro k
  induction k with
  | zero => intro v0 v1 v2 v3 v4 h; cases h
  | succ k hrec0 =>
    intro v0 v1 v2 v3 v4 h
    unfold fX6_sumUpTo_L5 at h
    refine jw_iload hX dX6_sumUpTo_5 4 rfl ?_
    refine jw_iload_n hX dX6_sumUpTo_7 rfl 1 rfl ?_
    refine jw_icmp_gt (tgt := 48) hX dX6_sumUpTo_8 (by decide) (fun hc => ?_) (fun hc => ?_)
    · rw [if_pos hc] at h
      refine jw_sub [3] [(3, .int v3)] rfl ?_
      exact hex _ (Option.some.inj h).symm
    · rw [if_neg hc] at h
      refine jw_iload hX dX6_sumUpTo_11 4 rfl ?_
      refine jw_aload_n hX dX6_sumUpTo_13 rfl 0 rfl ?_
      obtain ⟨ho14_2, h⟩ := chk_some h
      obtain ⟨q14, hr14, h⟩ := bP_some h
      refine jw_pgetR hX hT 6 3 rfl (by decide) (by decide) rfl inX6_sumUpTo_6 rfl lkX6_sumUpTo_31 ho14_2 hr14 dX6_sumUpTo_14 ?_
      obtain ⟨ho17_5, h⟩ := chk_some h
      obtain ⟨r17, hc17, h⟩ := bP_some h
      refine jw_pVi (As := []) hX (GP_ok gs) hGX 0 (kJx4a65c_size_8abf5 hT hc17) gX6_sumUpTo_Jx4a65c_size_8abf5 rfl hdJx4a65c_size_8abf5 ⟨by decide, by decide⟩ 0 rfl (by decide) ho17_5 rfl (Nat.le_of_ble_eq_true rfl) dX6_sumUpTo_17 rfl rfl ⟨by decide, by decide⟩ ?_
      refine jw_icmp_ge (tgt := 48) hX dX6_sumUpTo_20 (by decide) (fun hc => ?_) (fun hc => ?_)
      · rw [if_pos hc] at h
        refine jw_sub [3] [(3, .int v3)] rfl ?_
        exact hex _ (Option.some.inj h).symm
      · rw [if_neg hc] at h
        refine jw_iload_n hX dX6_sumUpTo_23 rfl 3 rfl ?_
        refine jw_aload_n hX dX6_sumUpTo_24 rfl 0 rfl ?_
        obtain ⟨ho25_2, h⟩ := chk_some h
        obtain ⟨q25, hr25, h⟩ := bP_some h
        refine jw_pgetR hX hT 6 3 rfl (by decide) (by decide) rfl inX6_sumUpTo_6 rfl lkX6_sumUpTo_31 ho25_2 hr25 dX6_sumUpTo_25 ?_
        refine jw_iload hX dX6_sumUpTo_28 4 rfl ?_
        obtain ⟨ho30_6, h⟩ := chk_some h
        obtain ⟨r30, hc30, h⟩ := bP_some h
        refine jw_pVr (As := [.int v4]) hX (GP_ok gs) hGX 1 (kJx4a65c_get_915e3 hT hc30) gX6_sumUpTo_Jx4a65c_get_915e3 rfl hdJx4a65c_get_915e3 ⟨by decide, by decide⟩ 0 rfl (by decide) ho30_6 rfl (Nat.le_of_ble_eq_true rfl) dX6_sumUpTo_30 rfl rfl ⟨by decide, by decide⟩ ?_
        obtain ⟨ho33_9, h⟩ := chk_some h
        refine jw_pcast hX hT (k := 2) rfl (by decide) ho33_9 ckX6_sumUpTo_82 (gp_nc hGX (w := .castable RX1 RX1) (by decide +kernel)) dX6_sumUpTo_33 ?_
        refine jw_iload_n hX dX6_sumUpTo_36 rfl 2 rfl ?_
        obtain ⟨ho37_12, h⟩ := chk_some h
        obtain ⟨r37, hc37, h⟩ := bP_some h
        refine jw_pVi (As := [.int v2]) hX (GP_ok gs) hGX 1 (kX1_amountOf hT hc37) gX6_sumUpTo_X1_amountOf rfl hdX1_amountOf ⟨by decide, by decide⟩ 2 rfl (by decide) ho37_12 rfl (Nat.le_of_ble_eq_true rfl) dX6_sumUpTo_37 rfl rfl ⟨by decide, by decide⟩ ?_
        refine jw_iadd hX dX6_sumUpTo_40 ?_
        refine jw_topi (fun y41 e41 => ?_)
        replace h := bnd_some h y41 e41
        clear e41
        refine jw_istore_n hX [(3, .int y41), (0, .ref v0), (1, .int v1), (2, .int v2), (4, .int v4)] dX6_sumUpTo_41 rfl (by decide) rfl ?_
        refine jw_iinc (v := (v4 + (1 : Int32))) hX [(4, .int (v4 + (1 : Int32))), (3, .int y41), (0, .ref v0), (1, .int v1), (2, .int v2)] dX6_sumUpTo_42 4 rfl (by first | rfl | (congr 1; decide)) (by decide) rfl ?_
        refine jw_goto (tgt := 5) hX dX6_sumUpTo_45 (by decide) ?_
        refine jw_sub [2, 3, 4, 1, 0] [(0, .ref v0), (1, .int v1), (2, .int v2), (3, .int y41), (4, .int (v4 + (1 : Int32)))] rfl ?_
        exact hrec0 _ _ _ _ _ h
set_option maxRecDepth 100000 in
set_option maxHeartbeats 4000000 in
theorem sX6_sumUpTo {X : JX} {cI cZ cO cJ : ClassId} {gs : JP} {n : Nat} {S : PS} {post : Option Value → va_W → Prop} (hX : jOK X cX6_sumUpTo 5 wsX6_sumUpTo RX6 rmX6_sumUpTo) (hT : jT X = jTy cI cZ cO cJ) (hGX : jG X (GP gs)) (hret : jRI X cX6_sumUpTo rmX6_sumUpTo post) {o : Int32} (hro : ∀ (v9 : Int32), o = v9 → post (some (.int v9)) (pW cI cO S))  {v0 : Nat} {v1 : Int32} {v2 : Int32} (h : fX6_sumUpTo n S v0 v1 v2 = some o) : JW X 0 0 (pW cI cO S) 0 [(0, .ref v0), (1, .int v1), (2, .int v2)] [] := by
  unfold fX6_sumUpTo at h
  refine jw_iconst (v := (0 : Int32)) hX dX6_sumUpTo_0 (by decide) ?_
  refine jw_istore_n hX [(3, .int (0 : Int32)), (0, .ref v0), (1, .int v1), (2, .int v2)] dX6_sumUpTo_1 rfl (by decide) rfl ?_
  refine jw_iconst (v := (0 : Int32)) hX dX6_sumUpTo_2 (by decide) ?_
  refine jw_istore hX [(4, .int (0 : Int32)), (3, .int (0 : Int32)), (0, .ref v0), (1, .int v1), (2, .int v2)] dX6_sumUpTo_3 (by decide) rfl ?_
  refine jw_sub [2, 3, 4, 1, 0] [(0, .ref v0), (1, .int v1), (2, .int v2), (3, .int (0 : Int32)), (4, .int (0 : Int32))] rfl ?_
  obtain ⟨x3_5, hl5, h⟩ := bL1_some h
  refine sX6_sumUpTo_L5 hX hT hGX hret (o := x3_5) (fun q0 e9 => ?_) n _ _ _ _ _ hl5
  cases e9
  refine jw_iload_n hX dX6_sumUpTo_48 rfl 0 rfl ?_
  exact hret _ _ _ _ _ _ (by decide) (by decide) dX6_sumUpTo_49 (hro _ (Option.some.inj h).symm)
set_option maxRecDepth 100000 in
set_option maxHeartbeats 4000000 in
theorem kX6_sumUpTo {l : Launch} {D : va_G} {tys : List (ClassId × FieldType)} {cI cZ cO cJ : ClassId} {gs : JP} {n : Nat} {S : PS} {v0 : Nat} {v1 : Int32} {v2 : Int32} {r : Int32} (hT : tys = jTy cI cZ cO cJ) (h : fX6_sumUpTo n S v0 v1 v2 = some r) : CC l (GP gs) D tys yX6_sumUpTo wsX6_sumUpTo rmX6_sumUpTo [.ref v0, .int v1, .int v2] (pW cI cO S) (fun ov w2 => ov = some (.int r) ∧ w2 = (pW cI cO S)) := by
  refine CC_of (cc := cX6_sumUpTo) (maxL := 5) (ret := (some .int)) (by decide) rfl (Nat.le_of_ble_eq_true rfl) ?_
  intro X hD hL hT0 hGX hX rI rZ rV rA
  exact sX6_sumUpTo (post := fun ov w2 => ov = some (.int r) ∧ w2 = (pW cI cO S)) hX (hT0.trans hT) hGX (fun cells slots w9 pc lv v => rI cells slots w9 pc lv v rfl) (o := r) (fun v9 e9 => by cases e9; exact ⟨rfl, rfl⟩) h
/-! X6_isDoubtedBy -/
abbrev rmX6_isDoubtedBy : Room := { frames := 4, cells := 0, slots := 0, locals := 88 }
theorem hdX6_isDoubtedBy : yX6_isDoubtedBy.cls = RX6 ∧ yX6_isDoubtedBy.cls ≠ "java/lang/invoke/MethodHandle" ∧ yX6_isDoubtedBy.cls ≠ "java/lang/invoke/VarHandle" ∧ (parseMethodDescriptor yX6_isDoubtedBy.desc).map (fun d => d.parameters.length) = some 2 := by decide +kernel
theorem inX6_isDoubtedBy_4 : ∀ w ∈ wsX30, w ∈ wsX6_isDoubtedBy := fun _ h => List.mem_cons_of_mem _ (List.mem_append_left _ (List.mem_append_left _ (List.mem_append_left _ (List.mem_append_right _ h))))
theorem lkX6_isDoubtedBy_31 : Cond.fieldLink RX6 31 RX6 (TX6 3).2.1 (TX6 3).2.2.1 ∈ wsX6_isDoubtedBy := by decide +kernel
theorem inX6_isDoubtedBy_6 : ∀ w ∈ wsX60, w ∈ wsX6_isDoubtedBy := fun _ h => List.mem_cons_of_mem _ (List.mem_append_left _ (List.mem_append_left _ (List.mem_append_right _ h)))
theorem ckX6_isDoubtedBy_82 : Cond.classLink RX6 82 RX1 ∈ wsX6_isDoubtedBy := by decide +kernel
def fX6_isDoubtedBy (n : Nat) (S : PS) (v0 : Nat) (v1 : Int32) (v2 : Nat) : Option Int32 := chk (okP S v2 4) ((if (sI S 44 v2) = 0 then (if v1 < 0 then chk (b01 (0 : Int32)) (some (0 : Int32)) else chk (okP S v0 6) (bP (sR S 63 v0) (fun q13 => chk (okP S q13 0) (bP (fJx4a65c_size_8abf5 S q13) (fun r16 => (if v1 < r16 then chk (okP S v2 4) ((if (sI S 40 v2) = (3 : Int32) then chk (okP S v2 4) (chk (okP S v0 6) (bP (fX6_sumUpTo n S v0 v1 (sI S 41 v2)) (fun r38 => chk (okP S v2 4) ((if (sI S 43 v2) ≤ r38 then chk (b01 (0 : Int32)) (some (0 : Int32)) else chk (b01 (1 : Int32)) (some (1 : Int32))))))) else chk (okP S v0 6) (bP (sR S 63 v0) (fun q56 => chk (okP S q56 0) (bP (fJx4a65c_get_915e3 S q56 v1) (fun r60 => chk (okP S r60 2) (chk (okP S v2 4) (bP (fX3_doubtsAlone n S v2 r60) (fun r66 => chk (b01 r66) (some r66)))))))))) else chk (b01 (0 : Int32)) (some (0 : Int32)))))))) else chk (b01 (0 : Int32)) (some (0 : Int32))))
set_option maxRecDepth 100000 in
set_option maxHeartbeats 4000000 in
theorem sX6_isDoubtedBy {X : JX} {cI cZ cO cJ : ClassId} {gs : JP} {n : Nat} {S : PS} {post : Option Value → va_W → Prop} (hX : jOK X cX6_isDoubtedBy 3 wsX6_isDoubtedBy RX6 rmX6_isDoubtedBy) (hT : jT X = jTy cI cZ cO cJ) (hGX : jG X (GP gs)) (hret : jRZ X cX6_isDoubtedBy rmX6_isDoubtedBy post) {o : Int32} (hro : ∀ (v9 : Int32), o = v9 → post (some (.int v9)) (pW cI cO S))  {v0 : Nat} {v1 : Int32} {v2 : Nat} (h : fX6_isDoubtedBy n S v0 v1 v2 = some o) : JW X 0 0 (pW cI cO S) 0 [(0, .ref v0), (1, .int v1), (2, .ref v2)] [] := by
  unfold fX6_isDoubtedBy at h
  refine jw_aload_n hX dX6_isDoubtedBy_0 rfl 2 rfl ?_
  obtain ⟨ho1_1, h⟩ := chk_some h
  refine jw_pgetIN hX hT 4 4 rfl (by decide) (by decide) rfl inX6_isDoubtedBy_4 rfl (gp_nf hGX (w := .fieldLinkNest RX6 135 RX3 (TX3 4).2.1 (TX3 4).2.2.1 "Postlint") (by decide +kernel)) ho1_1 dX6_isDoubtedBy_1 ?_
  refine jw_if_ne (tgt := 22) hX dX6_isDoubtedBy_4 (by decide) (fun hc => ?_) (fun hc => ?_)
  · rw [if_neg hc] at h
    refine jw_iconst (v := (0 : Int32)) hX dX6_isDoubtedBy_22 (by decide) ?_
    obtain ⟨hz23, h⟩ := chk_some h
    exact hret _ _ _ _ _ _ (b01_or hz23) (by decide) (by decide) dX6_isDoubtedBy_23 (hro _ (Option.some.inj h).symm)
  · rw [if_pos hc] at h
    refine jw_iload_n hX dX6_isDoubtedBy_7 rfl 1 rfl ?_
    refine jw_if_lt (tgt := 22) hX dX6_isDoubtedBy_8 (by decide) (fun hc => ?_) (fun hc => ?_)
    · rw [if_pos hc] at h
      refine jw_iconst (v := (0 : Int32)) hX dX6_isDoubtedBy_22 (by decide) ?_
      obtain ⟨hz23, h⟩ := chk_some h
      exact hret _ _ _ _ _ _ (b01_or hz23) (by decide) (by decide) dX6_isDoubtedBy_23 (hro _ (Option.some.inj h).symm)
    · rw [if_neg hc] at h
      refine jw_iload_n hX dX6_isDoubtedBy_11 rfl 1 rfl ?_
      refine jw_aload_n hX dX6_isDoubtedBy_12 rfl 0 rfl ?_
      obtain ⟨ho13_2, h⟩ := chk_some h
      obtain ⟨q13, hr13, h⟩ := bP_some h
      refine jw_pgetR hX hT 6 3 rfl (by decide) (by decide) rfl inX6_isDoubtedBy_6 rfl lkX6_isDoubtedBy_31 ho13_2 hr13 dX6_isDoubtedBy_13 ?_
      obtain ⟨ho16_5, h⟩ := chk_some h
      obtain ⟨r16, hc16, h⟩ := bP_some h
      refine jw_pVi (As := []) hX (GP_ok gs) hGX 0 (kJx4a65c_size_8abf5 hT hc16) gX6_isDoubtedBy_Jx4a65c_size_8abf5 rfl hdJx4a65c_size_8abf5 ⟨by decide, by decide⟩ 0 rfl (by decide) ho16_5 rfl (Nat.le_of_ble_eq_true rfl) dX6_isDoubtedBy_16 rfl rfl ⟨by decide, by decide⟩ ?_
      refine jw_icmp_lt (tgt := 24) hX dX6_isDoubtedBy_19 (by decide) (fun hc => ?_) (fun hc => ?_)
      · rw [if_pos hc] at h
        refine jw_aload_n hX dX6_isDoubtedBy_24 rfl 2 rfl ?_
        obtain ⟨ho25_1, h⟩ := chk_some h
        refine jw_pgetIN hX hT 4 0 rfl (by decide) (by decide) rfl inX6_isDoubtedBy_4 rfl (gp_nf hGX (w := .fieldLinkNest RX6 245 RX3 (TX3 0).2.1 (TX3 0).2.2.1 "Postlint") (by decide +kernel)) ho25_1 dX6_isDoubtedBy_25 ?_
        refine jw_iconst (v := (3 : Int32)) hX dX6_isDoubtedBy_28 (by decide) ?_
        refine jw_icmp_ne (tgt := 54) hX dX6_isDoubtedBy_29 (by decide) (fun hc => ?_) (fun hc => ?_)
        · rw [if_neg hc] at h
          refine jw_aload_n hX dX6_isDoubtedBy_54 rfl 2 rfl ?_
          refine jw_aload_n hX dX6_isDoubtedBy_55 rfl 0 rfl ?_
          obtain ⟨ho56_2, h⟩ := chk_some h
          obtain ⟨q56, hr56, h⟩ := bP_some h
          refine jw_pgetR hX hT 6 3 rfl (by decide) (by decide) rfl inX6_isDoubtedBy_6 rfl lkX6_isDoubtedBy_31 ho56_2 hr56 dX6_isDoubtedBy_56 ?_
          refine jw_iload_n hX dX6_isDoubtedBy_59 rfl 1 rfl ?_
          obtain ⟨ho60_6, h⟩ := chk_some h
          obtain ⟨r60, hc60, h⟩ := bP_some h
          refine jw_pVr (As := [.int v1]) hX (GP_ok gs) hGX 1 (kJx4a65c_get_915e3 hT hc60) gX6_isDoubtedBy_Jx4a65c_get_915e3 rfl hdJx4a65c_get_915e3 ⟨by decide, by decide⟩ 0 rfl (by decide) ho60_6 rfl (Nat.le_of_ble_eq_true rfl) dX6_isDoubtedBy_60 rfl rfl ⟨by decide, by decide⟩ ?_
          obtain ⟨ho63_9, h⟩ := chk_some h
          refine jw_pcast hX hT (k := 2) rfl (by decide) ho63_9 ckX6_isDoubtedBy_82 (gp_nc hGX (w := .castable RX1 RX1) (by decide +kernel)) dX6_isDoubtedBy_63 ?_
          obtain ⟨ho66_11, h⟩ := chk_some h
          obtain ⟨r66, hc66, h⟩ := bP_some h
          refine jw_pVi (As := [.ref r60]) hX (GP_ok gs) hGX 1 (kX3_doubtsAlone hT hc66) gX6_isDoubtedBy_X3_doubtsAlone rfl hdX3_doubtsAlone ⟨by decide, by decide⟩ 4 rfl (by decide) ho66_11 rfl (Nat.le_of_ble_eq_true rfl) dX6_isDoubtedBy_66 rfl rfl ⟨by decide, by decide⟩ ?_
          obtain ⟨hz69, h⟩ := chk_some h
          exact hret _ _ _ _ _ _ (b01_or hz69) (by decide) (by decide) dX6_isDoubtedBy_69 (hro _ (Option.some.inj h).symm)
        · rw [if_pos hc] at h
          refine jw_aload_n hX dX6_isDoubtedBy_32 rfl 0 rfl ?_
          refine jw_iload_n hX dX6_isDoubtedBy_33 rfl 1 rfl ?_
          refine jw_aload_n hX dX6_isDoubtedBy_34 rfl 2 rfl ?_
          obtain ⟨ho35_3, h⟩ := chk_some h
          refine jw_pgetIN hX hT 4 1 rfl (by decide) (by decide) rfl inX6_isDoubtedBy_4 rfl (gp_nf hGX (w := .fieldLinkNest RX6 248 RX3 (TX3 1).2.1 (TX3 1).2.2.1 "Postlint") (by decide +kernel)) ho35_3 dX6_isDoubtedBy_35 ?_
          obtain ⟨ho38_5, h⟩ := chk_some h
          obtain ⟨r38, hc38, h⟩ := bP_some h
          refine jw_pVi (As := [.int v1, .int (sI S 41 v2)]) hX (GP_ok gs) hGX 2 (kX6_sumUpTo hT hc38) gX6_isDoubtedBy_X6_sumUpTo rfl hdX6_sumUpTo ⟨by decide, by decide⟩ 6 rfl (by decide) ho38_5 rfl (Nat.le_of_ble_eq_true rfl) dX6_isDoubtedBy_38 rfl rfl ⟨by decide, by decide⟩ ?_
          refine jw_aload_n hX dX6_isDoubtedBy_41 rfl 2 rfl ?_
          obtain ⟨ho42_9, h⟩ := chk_some h
          refine jw_pgetIN hX hT 4 3 rfl (by decide) (by decide) rfl inX6_isDoubtedBy_4 rfl (gp_nf hGX (w := .fieldLinkNest RX6 251 RX3 (TX3 3).2.1 (TX3 3).2.2.1 "Postlint") (by decide +kernel)) ho42_9 dX6_isDoubtedBy_42 ?_
          refine jw_icmp_ge (tgt := 52) hX dX6_isDoubtedBy_45 (by decide) (fun hc => ?_) (fun hc => ?_)
          · rw [if_pos hc] at h
            refine jw_iconst (v := (0 : Int32)) hX dX6_isDoubtedBy_52 (by decide) ?_
            obtain ⟨hz53, h⟩ := chk_some h
            exact hret _ _ _ _ _ _ (b01_or hz53) (by decide) (by decide) dX6_isDoubtedBy_53 (hro _ (Option.some.inj h).symm)
          · rw [if_neg hc] at h
            refine jw_iconst (v := (1 : Int32)) hX dX6_isDoubtedBy_48 (by decide) ?_
            refine jw_goto (tgt := 53) hX dX6_isDoubtedBy_49 (by decide) ?_
            obtain ⟨hz53, h⟩ := chk_some h
            exact hret _ _ _ _ _ _ (b01_or hz53) (by decide) (by decide) dX6_isDoubtedBy_53 (hro _ (Option.some.inj h).symm)
      · rw [if_neg hc] at h
        refine jw_iconst (v := (0 : Int32)) hX dX6_isDoubtedBy_22 (by decide) ?_
        obtain ⟨hz23, h⟩ := chk_some h
        exact hret _ _ _ _ _ _ (b01_or hz23) (by decide) (by decide) dX6_isDoubtedBy_23 (hro _ (Option.some.inj h).symm)
set_option maxRecDepth 100000 in
set_option maxHeartbeats 4000000 in
theorem kX6_isDoubtedBy {l : Launch} {D : va_G} {tys : List (ClassId × FieldType)} {cI cZ cO cJ : ClassId} {gs : JP} {n : Nat} {S : PS} {v0 : Nat} {v1 : Int32} {v2 : Nat} {r : Int32} (hT : tys = jTy cI cZ cO cJ) (h : fX6_isDoubtedBy n S v0 v1 v2 = some r) : CC l (GP gs) D tys yX6_isDoubtedBy wsX6_isDoubtedBy rmX6_isDoubtedBy [.ref v0, .int v1, .ref v2] (pW cI cO S) (fun ov w2 => ov = some (.int r) ∧ w2 = (pW cI cO S)) := by
  refine CC_of (cc := cX6_isDoubtedBy) (maxL := 3) (ret := (some .boolean)) (by decide) rfl (Nat.le_of_ble_eq_true rfl) ?_
  intro X hD hL hT0 hGX hX rI rZ rV rA
  exact sX6_isDoubtedBy (post := fun ov w2 => ov = some (.int r) ∧ w2 = (pW cI cO S)) hX (hT0.trans hT) hGX (fun cells slots w9 pc lv v => rZ cells slots w9 pc lv v rfl) (o := r) (fun v9 e9 => by cases e9; exact ⟨rfl, rfl⟩) h
/-! X6_countDoubtedBy -/
abbrev rmX6_countDoubtedBy : Room := { frames := 5, cells := 0, slots := 0, locals := 110 }
theorem hdX6_countDoubtedBy : yX6_countDoubtedBy.cls = RX6 ∧ yX6_countDoubtedBy.cls ≠ "java/lang/invoke/MethodHandle" ∧ yX6_countDoubtedBy.cls ≠ "java/lang/invoke/VarHandle" ∧ (parseMethodDescriptor yX6_countDoubtedBy.desc).map (fun d => d.parameters.length) = some 1 := by decide +kernel
theorem lkX6_countDoubtedBy_31 : Cond.fieldLink RX6 31 RX6 (TX6 3).2.1 (TX6 3).2.2.1 ∈ wsX6_countDoubtedBy := by decide +kernel
theorem inX6_countDoubtedBy_6 : ∀ w ∈ wsX60, w ∈ wsX6_countDoubtedBy := fun _ h => List.mem_cons_of_mem _ (List.mem_append_left _ (List.mem_append_left _ (List.mem_append_left _ (List.mem_append_right _ h))))
def fX6_countDoubtedBy_L4 (n : Nat) : Nat → PS → Nat → Nat → Int32 → Int32 → Option (Int32)
  | 0, _, _, _, _, _ => none
  | k + 1, S, v0, v1, v2, v3 => chk (okP S v0 6) (bP (sR S 63 v0) (fun q6 => chk (okP S q6 0) (bP (fJx4a65c_size_8abf5 S q6) (fun r9 => (if r9 ≤ v3 then some v2 else chk (okP S v0 6) (bP (fX6_isDoubtedBy n S v0 v3 v1) (fun r18 => (if r18 = 0 then fX6_countDoubtedBy_L4 n k S v0 v1 v2 (v3 + (1 : Int32)) else fX6_countDoubtedBy_L4 n k S v0 v1 (v2 + (1 : Int32)) (v3 + (1 : Int32))))))))))
def fX6_countDoubtedBy (n : Nat) (S : PS) (v0 : Nat) (v1 : Nat) : Option Int32 := bL1 (fX6_countDoubtedBy_L4 n n S v0 v1 (0 : Int32) (0 : Int32)) (fun x2_4 => some x2_4)
set_option maxRecDepth 100000 in
set_option maxHeartbeats 4000000 in
theorem sX6_countDoubtedBy_L4 {X : JX} {cI cZ cO cJ : ClassId} {gs : JP} {n : Nat} {S : PS} {post : Option Value → va_W → Prop} (hX : jOK X cX6_countDoubtedBy 4 wsX6_countDoubtedBy RX6 rmX6_countDoubtedBy) (hT : jT X = jTy cI cZ cO cJ) (hGX : jG X (GP gs)) (hret : jRI X cX6_countDoubtedBy rmX6_countDoubtedBy post) {o : (Int32)} (hex : ∀ (x2 : Int32), o = x2 → JW X 0 0 (pW cI cO S) 33 [(2, .int x2)] [])  : ∀ (k : Nat) (v0 : Nat) (v1 : Nat) (v2 : Int32) (v3 : Int32), fX6_countDoubtedBy_L4 n k S v0 v1 v2 v3 = some o → JW X 0 0 (pW cI cO S) 4 [(0, .ref v0), (1, .ref v1), (2, .int v2), (3, .int v3)] [] := by
  intro k
  induction k with
  | zero => intro v0 v1 v2 v3 h; cases h
  | succ k hrec0 =>
    intro v0 v1 v2 v3 h
    unfold fX6_countDoubtedBy_L4 at h
    refine jw_iload_n hX dX6_countDoubtedBy_4 rfl 3 rfl ?_
    refine jw_aload_n hX dX6_countDoubtedBy_5 rfl 0 rfl ?_
    obtain ⟨ho6_2, h⟩ := chk_some h
    obtain ⟨q6, hr6, h⟩ := bP_some h
    refine jw_pgetR hX hT 6 3 rfl (by decide) (by decide) rfl inX6_countDoubtedBy_6 rfl lkX6_countDoubtedBy_31 ho6_2 hr6 dX6_countDoubtedBy_6 ?_
    obtain ⟨ho9_5, h⟩ := chk_some h
    obtain ⟨r9, hc9, h⟩ := bP_some h
    refine jw_pVi (As := []) hX (GP_ok gs) hGX 0 (kJx4a65c_size_8abf5 hT hc9) gX6_countDoubtedBy_Jx4a65c_size_8abf5 rfl hdJx4a65c_size_8abf5 ⟨by decide, by decide⟩ 0 rfl (by decide) ho9_5 rfl (Nat.le_of_ble_eq_true rfl) dX6_countDoubtedBy_9 rfl rfl ⟨by decide, by decide⟩ ?_
    refine jw_icmp_ge (tgt := 33) hX dX6_countDoubtedBy_12 (by decide) (fun hc => ?_) (fun hc => ?_)
    · rw [if_pos hc] at h
      refine jw_sub [2] [(2, .int v2)] rfl ?_
      exact hex _ (Option.some.inj h).symm
    · rw [if_neg hc] at h
      refine jw_aload_n hX dX6_countDoubtedBy_15 rfl 0 rfl ?_
      refine jw_iload_n hX dX6_countDoubtedBy_16 rfl 3 rfl ?_
      refine jw_aload_n hX dX6_countDoubtedBy_17 rfl 1 rfl ?_
      obtain ⟨ho18_3, h⟩ := chk_some h
      obtain ⟨r18, hc18, h⟩ := bP_some h
      refine jw_pVi (As := [.int v3, .ref v1]) hX (GP_ok gs) hGX 2 (kX6_isDoubtedBy hT hc18) gX6_countDoubtedBy_X6_isDoubtedBy rfl hdX6_isDoubtedBy ⟨by decide, by decide⟩ 6 rfl (by decide) ho18_3 rfl (Nat.le_of_ble_eq_true rfl) dX6_countDoubtedBy_18 rfl rfl ⟨by decide, by decide⟩ ?_
      refine jw_if_eq (tgt := 27) hX dX6_countDoubtedBy_21 (by decide) (fun hc => ?_) (fun hc => ?_)
      · rw [if_pos hc] at h
        refine jw_iinc (v := (v3 + (1 : Int32))) hX [(3, .int (v3 + (1 : Int32))), (0, .ref v0), (1, .ref v1), (2, .int v2)] dX6_countDoubtedBy_27 3 rfl (by first | rfl | (congr 1; decide)) (by decide) rfl ?_
        refine jw_goto (tgt := 4) hX dX6_countDoubtedBy_30 (by decide) ?_
        refine jw_sub [1, 2, 3, 0] [(0, .ref v0), (1, .ref v1), (2, .int v2), (3, .int (v3 + (1 : Int32)))] rfl ?_
        exact hrec0 _ _ _ _ h
      · rw [if_neg hc] at h
        refine jw_iinc (v := (v2 + (1 : Int32))) hX [(2, .int (v2 + (1 : Int32))), (0, .ref v0), (1, .ref v1), (3, .int v3)] dX6_countDoubtedBy_24 2 rfl (by first | rfl | (congr 1; decide)) (by decide) rfl ?_
        refine jw_iinc (v := (v3 + (1 : Int32))) hX [(3, .int (v3 + (1 : Int32))), (2, .int (v2 + (1 : Int32))), (0, .ref v0), (1, .ref v1)] dX6_countDoubtedBy_27 3 rfl (by first | rfl | (congr 1; decide)) (by decide) rfl ?_
        refine jw_goto (tgt := 4) hX dX6_countDoubtedBy_30 (by decide) ?_
        refine jw_sub [2, 3, 1, 0] [(0, .ref v0), (1, .ref v1), (2, .int (v2 + (1 : Int32))), (3, .int (v3 + (1 : Int32)))] rfl ?_
        exact hrec0 _ _ _ _ h
set_option maxRecDepth 100000 in
set_option maxHeartbeats 4000000 in
theorem sX6_countDoubtedBy {X : JX} {cI cZ cO cJ : ClassId} {gs : JP} {n : Nat} {S : PS} {post : Option Value → va_W → Prop} (hX : jOK X cX6_countDoubtedBy 4 wsX6_countDoubtedBy RX6 rmX6_countDoubtedBy) (hT : jT X = jTy cI cZ cO cJ) (hGX : jG X (GP gs)) (hret : jRI X cX6_countDoubtedBy rmX6_countDoubtedBy post) {o : Int32} (hro : ∀ (v9 : Int32), o = v9 → post (some (.int v9)) (pW cI cO S))  {v0 : Nat} {v1 : Nat} (h : fX6_countDoubtedBy n S v0 v1 = some o) : JW X 0 0 (pW cI cO S) 0 [(0, .ref v0), (1, .ref v1)] [] := by
  unfold fX6_countDoubtedBy at h
  refine jw_iconst (v := (0 : Int32)) hX dX6_countDoubtedBy_0 (by decide) ?_
  refine jw_istore_n hX [(2, .int (0 : Int32)), (0, .ref v0), (1, .ref v1)] dX6_countDoubtedBy_1 rfl (by decide) rfl ?_
  refine jw_iconst (v := (0 : Int32)) hX dX6_countDoubtedBy_2 (by decide) ?_
  refine jw_istore_n hX [(3, .int (0 : Int32)), (2, .int (0 : Int32)), (0, .ref v0), (1, .ref v1)] dX6_countDoubtedBy_3 rfl (by decide) rfl ?_
  refine jw_sub [2, 3, 1, 0] [(0, .ref v0), (1, .ref v1), (2, .int (0 : Int32)), (3, .int (0 : Int32))] rfl ?_
  obtain ⟨x2_4, hl4, h⟩ := bL1_some h
  refine sX6_countDoubtedBy_L4 hX hT hGX hret (o := x2_4) (fun q0 e9 => ?_) n _ _ _ _ hl4
  cases e9
  refine jw_iload_n hX dX6_countDoubtedBy_33 rfl 0 rfl ?_
  exact hret _ _ _ _ _ _ (by decide) (by decide) dX6_countDoubtedBy_34 (hro _ (Option.some.inj h).symm)
set_option maxRecDepth 100000 in
set_option maxHeartbeats 4000000 in
theorem kX6_countDoubtedBy {l : Launch} {D : va_G} {tys : List (ClassId × FieldType)} {cI cZ cO cJ : ClassId} {gs : JP} {n : Nat} {S : PS} {v0 : Nat} {v1 : Nat} {r : Int32} (hT : tys = jTy cI cZ cO cJ) (h : fX6_countDoubtedBy n S v0 v1 = some r) : CC l (GP gs) D tys yX6_countDoubtedBy wsX6_countDoubtedBy rmX6_countDoubtedBy [.ref v0, .ref v1] (pW cI cO S) (fun ov w2 => ov = some (.int r) ∧ w2 = (pW cI cO S)) := by
  refine CC_of (cc := cX6_countDoubtedBy) (maxL := 4) (ret := (some .int)) (by decide) rfl (Nat.le_of_ble_eq_true rfl) ?_
  intro X hD hL hT0 hGX hX rI rZ rV rA
  exact sX6_countDoubtedBy (post := fun ov w2 => ov = some (.int r) ∧ w2 = (pW cI cO S)) hX (hT0.trans hT) hGX (fun cells slots w9 pc lv v => rI cells slots w9 pc lv v rfl) (o := r) (fun v9 e9 => by cases e9; exact ⟨rfl, rfl⟩) h
/-! X6_takeBack -/
abbrev rmX6_takeBack : Room := { frames := 7, cells := 2, slots := 12, locals := 133 }
theorem hdX6_takeBack : yX6_takeBack.cls = RX6 ∧ yX6_takeBack.cls ≠ "java/lang/invoke/MethodHandle" ∧ yX6_takeBack.cls ≠ "java/lang/invoke/VarHandle" ∧ (parseMethodDescriptor yX6_takeBack.desc).map (fun d => d.parameters.length) = some 1 := by decide +kernel
theorem inX6_takeBack_4 : ∀ w ∈ wsX30, w ∈ wsX6_takeBack := fun _ h => List.mem_cons_of_mem _ (List.mem_append_left _ (List.mem_append_left _ (List.mem_append_left _ (List.mem_append_left _ (List.mem_append_left _ (List.mem_append_right _ h))))))
theorem tkX6_takeBack_IS : Cond.classLink "Postlint" 52 "java/lang/IllegalStateException" ∈ wsX6_takeBack ∧ Cond.initialized "java/lang/IllegalStateException" ∈ wsX6_takeBack := by decide +kernel
theorem taX6_takeBack_IS : ∀ w ∈ (vx_atS "Postlint" 56 "java/lang/IllegalStateException" ["java/lang/RuntimeException", "java/lang/Exception"]).filter goodWord, w ∈ wsX6_takeBack := fun _ h => List.mem_cons_of_mem _ (List.mem_append_left _ (List.mem_append_right _ h))
def fX6_takeBack (n : Nat) (S : PS) (v0 : Nat) (v1 : Int32) : Option ((Nat × PS) ⊕ (Int32 × PS)) := chk (okP S v0 6) (bS1 (fX6_ruleAt S v0 v1) (fun ex => some (Sum.inl (ex, S))) (fun r2 => chk (okP S r2 4) ((if (sI S 44 r2) = 0 then chk (okP S v0 6) (bP (fX6_countDoubtedBy n S v0 r2) (fun r25 => chk (okP S r2 4) (chk (b01 (1 : Int32)) (bnd (pI S 44 r2 (1 : Int32)) (fun w31 => some (Sum.inr (r25, w31))))))) else some (Sum.inl (1, S))))))
set_option maxRecDepth 100000 in
set_option maxHeartbeats 4000000 in
theorem sX6_takeBack {X : JX} {cI cZ cO cJ : ClassId} {gs : JP} {n : Nat} {post : Option Value → va_W → Prop} (hX : jOK X cX6_takeBack 4 wsX6_takeBack RX6 rmX6_takeBack) (hT : jT X = jTy cI cZ cO cJ) (hGX : jG X (GP gs)) (hret : jRI X cX6_takeBack rmX6_takeBack post) {w0 : va_W} {px : String → va_W → Prop} (hQ : jXQ X w0 rmX6_takeBack post px) {o : ((Nat × PS) ⊕ (Int32 × PS))} (hro : ∀ (v9 : Int32) (w9 : PS), o = .inr (v9, w9) → post (some (.int v9)) (pW cI cO w9)) (hrx : ∀ (x9 : Nat) (w9 : PS), o = .inl (x9, w9) → px (exN x9) (pW cI cO w9)) {S : PS} {v0 : Nat} {v1 : Int32} (h : fX6_takeBack n S v0 v1 = some o) : JW X 0 0 (pW cI cO S) 0 [(0, .ref v0), (1, .int v1)] [] := by
  unfold fX6_takeBack at h
  refine jw_aload_n hX dX6_takeBack_0 rfl 0 rfl ?_
  refine jw_iload_n hX dX6_takeBack_1 rfl 1 rfl ?_
  obtain ⟨ho2_2, h⟩ := chk_some h
  rcases bS1_some h with ⟨ex, hl2, h⟩ | ⟨r2, hl2, h⟩
  · skip
    exact jw_pVx (As := [.int v1]) hX (GP_ok gs) hGX hQ 1 (kxX6_ruleAt (jXQ_tr hQ) hT hl2) gX6_takeBack_X6_ruleAt rfl hdX6_ruleAt ⟨by decide, by decide⟩ 6 rfl (by decide) ho2_2 rfl (Nat.le_of_ble_eq_true rfl) dX6_takeBack_2 ⟨by decide, by decide⟩ (hrx _ _ (Option.some.inj h).symm)
  · skip
    refine jw_pVXr (As := [.int v1]) hX (GP_ok gs) hGX 1 (kX6_ruleAt (jXQ_tr hQ) hT hl2) gX6_takeBack_X6_ruleAt rfl hdX6_ruleAt ⟨by decide, by decide⟩ 6 rfl (by decide) ho2_2 rfl (Nat.le_of_ble_eq_true rfl) dX6_takeBack_2 rfl rfl ⟨by decide, by decide⟩ ?_
    refine jw_astore_n hX [(2, .ref r2), (0, .ref v0), (1, .int v1)] dX6_takeBack_5 rfl (by decide) rfl ?_
    refine jw_aload_n hX dX6_takeBack_6 rfl 0 rfl ?_
    obtain ⟨ho7_2, h⟩ := chk_some h
    refine jw_pgetIN hX hT 4 4 rfl (by decide) (by decide) rfl inX6_takeBack_4 rfl (gp_nf hGX (w := .fieldLinkNest RX6 135 RX3 (TX3 4).2.1 (TX3 4).2.2.1 "Postlint") (by decide +kernel)) ho7_2 dX6_takeBack_7 ?_
    refine jw_if_eq (tgt := 23) hX dX6_takeBack_10 (by decide) (fun hc => ?_) (fun hc => ?_)
    · rw [if_pos hc] at h
      refine jw_aload_n hX dX6_takeBack_23 rfl 1 rfl ?_
      refine jw_aload_n hX dX6_takeBack_24 rfl 0 rfl ?_
      obtain ⟨ho25_2, h⟩ := chk_some h
      obtain ⟨r25, hc25, h⟩ := bP_some h
      refine jw_pVi (As := [.ref r2]) hX (GP_ok gs) hGX 1 (kX6_countDoubtedBy hT hc25) gX6_takeBack_X6_countDoubtedBy rfl hdX6_countDoubtedBy ⟨by decide, by decide⟩ 6 rfl (by decide) ho25_2 rfl (Nat.le_of_ble_eq_true rfl) dX6_takeBack_25 rfl rfl ⟨by decide, by decide⟩ ?_
      refine jw_istore_n hX [(3, .int r25), (2, .ref r2), (0, .ref v0), (1, .int v1)] dX6_takeBack_28 rfl (by decide) rfl ?_
      refine jw_aload_n hX dX6_takeBack_29 rfl 1 rfl ?_
      refine jw_iconst (v := (1 : Int32)) hX dX6_takeBack_30 (by decide) ?_
      obtain ⟨ho31_8, h⟩ := chk_some h
      obtain ⟨hz31, h⟩ := chk_some h
      refine jw_pputZN hX hT 4 4 rfl (by decide) (by decide) rfl inX6_takeBack_4 rfl (gp_nf hGX (w := .fieldLinkNest RX6 135 RX3 (TX3 4).2.1 (TX3 4).2.2.1 "Postlint") (by decide +kernel)) tyX3 tyX3_ok nmX3 rfl (by decide +kernel) hz31 ho31_8 dX6_takeBack_31 (fun w31 e31 => ?_)
      replace h := bnd_some h w31 e31
      clear e31
      refine jw_iload_n hX dX6_takeBack_34 rfl 0 rfl ?_
      exact hret _ _ _ _ _ _ (by decide) (by decide) dX6_takeBack_35 (hro _ _ (Option.some.inj h).symm)
    · rw [if_neg hc] at h
      exact jw_throwS (is := 138) (text := "the rule was taken back") hX hGX hQ (by decide +kernel) (by decide +kernel) tkX6_takeBack_IS.1 tkX6_takeBack_IS.2 (by decide +kernel) taX6_takeBack_IS tbIS gNc_on tgIS dX6_takeBack_13 dX6_takeBack_16 dX6_takeBack_17 dX6_takeBack_19 dX6_takeBack_22 (Nat.le_of_ble_eq_true rfl) (Nat.le_of_ble_eq_true rfl) (Nat.le_of_ble_eq_true rfl) (Nat.le_of_ble_eq_true rfl) (hrx _ _ (Option.some.inj h).symm)
set_option maxRecDepth 100000 in
set_option maxHeartbeats 4000000 in
theorem kX6_takeBack {l : Launch} {D : va_G} {tys : List (ClassId × FieldType)} {cI cZ cO cJ : ClassId} {gs : JP} {n : Nat} {S : PS} {v0 : Nat} {v1 : Int32} {r : Int32} {w1 : PS} (hl : l.stackTraces = false) (hT : tys = jTy cI cZ cO cJ) (h : fX6_takeBack n S v0 v1 = some (.inr (r, w1))) : CX l (GP gs) D tys yX6_takeBack wsX6_takeBack rmX6_takeBack [.ref v0, .int v1] (pW cI cO S) (fun ov w2 => ov = some (.int r) ∧ w2 = (pW cI cO w1)) (fun _ _ => False) := by
  refine CX_of (cc := cX6_takeBack) (maxL := 4) (ret := (some .int)) hl (by decide) rfl (Nat.le_of_ble_eq_true rfl) ?_
  intro X hD hL hT0 hGX hX hQ rI rZ rV rA
  exact sX6_takeBack (post := fun ov w2 => ov = some (.int r) ∧ w2 = (pW cI cO w1)) (px := fun _ _ => False) hX (hT0.trans hT) hGX (rI rfl) hQ (o := .inr (r, w1)) (fun v9 w9 e9 => by cases e9; exact ⟨rfl, rfl⟩) (fun x9 w9 e9 => nomatch e9) h
set_option maxRecDepth 100000 in
set_option maxHeartbeats 4000000 in
theorem kxX6_takeBack {l : Launch} {D : va_G} {tys : List (ClassId × FieldType)} {cI cZ cO cJ : ClassId} {gs : JP} {n : Nat} {S : PS} {v0 : Nat} {v1 : Int32} {x9 : Nat} {w1 : PS} (hl : l.stackTraces = false) (hT : tys = jTy cI cZ cO cJ) (h : fX6_takeBack n S v0 v1 = some (.inl (x9, w1))) : CX l (GP gs) D tys yX6_takeBack wsX6_takeBack rmX6_takeBack [.ref v0, .int v1] (pW cI cO S) (fun _ _ => False) (fun E w2 => E = exN x9 ∧ w2 = (pW cI cO w1)) := by
  refine CX_of (cc := cX6_takeBack) (maxL := 4) (ret := (some .int)) hl (by decide) rfl (Nat.le_of_ble_eq_true rfl) ?_
  intro X hD hL hT0 hGX hX hQ rI rZ rV rA
  exact sX6_takeBack (post := fun _ _ => False) (px := fun E w2 => E = exN x9 ∧ w2 = (pW cI cO w1)) hX (hT0.trans hT) hGX (rI rfl) hQ (o := .inl (x9, w1)) (fun v9 w9 e9 => nomatch e9) (fun x9 w9 e9 => by cases e9; exact ⟨rfl, rfl⟩) h
