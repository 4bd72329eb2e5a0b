/-! what making an object gives -/
theorem nzero0 : ∀ j, j < kN 0 → defaultValue (tyJx4a65c j) = vp_V (kZ 0) j := fun j hj => by rcases (show j = 0 ∨ j = 1 ∨ j = 2 by simp [kN] at hj; omega) with rfl | rfl | rfl <;> rfl
theorem nzero1 : ∀ j, j < kN 1 → defaultValue (tyX0 j) = vp_V (kZ 1) j := fun j hj => by rcases (show j = 0 ∨ j = 1 ∨ j = 2 ∨ j = 3 by simp [kN] at hj; omega) with rfl | rfl | rfl | rfl <;> rfl
theorem nzero2 : ∀ j, j < kN 2 → defaultValue (tyX1 j) = vp_V (kZ 2) j := fun j hj => by rcases (show j = 0 ∨ j = 1 ∨ j = 2 ∨ j = 3 ∨ j = 4 ∨ j = 5 by simp [kN] at hj; omega) with rfl | rfl | rfl | rfl | rfl | rfl <;> rfl
theorem nzero3 : ∀ j, j < kN 3 → defaultValue (tyX2 j) = vp_V (kZ 3) j := fun j hj => by rcases (show j = 0 ∨ j = 1 by simp [kN] at hj; omega) with rfl | rfl <;> rfl
theorem nzero4 : ∀ j, j < kN 4 → defaultValue (tyX3 j) = vp_V (kZ 4) j := fun j hj => by rcases (show j = 0 ∨ j = 1 ∨ j = 2 ∨ j = 3 ∨ j = 4 by simp [kN] at hj; omega) with rfl | rfl | rfl | rfl | rfl <;> rfl
theorem nzero5 : ∀ j, j < kN 5 → defaultValue (tyX4 j) = vp_V (kZ 5) j := fun j hj => by rcases (show j = 0 ∨ j = 1 by simp [kN] at hj; omega) with rfl | rfl <;> rfl
theorem nzero6 : ∀ j, j < kN 6 → defaultValue (tyX6 j) = vp_V (kZ 6) j := fun j hj => by rcases (show j = 0 ∨ j = 1 ∨ j = 2 ∨ j = 3 ∨ j = 4 ∨ j = 5 by simp [kN] at hj; omega) with rfl | rfl | rfl | rfl | rfl | rfl <;> rfl
theorem bndW_use {α : Type} {x : α} {k : α → Prop} (h : bndW x k) (y : α) (e : y = x) : k y := h y e
theorem newW_use {S : PS} {k : Nat → Prop} (h : newW S k) (q : Nat) (hq : q ∉ sL S) : k q := h q hq
theorem newO_use {e : Nat} {S : PS} {k : Nat → Prop} (h : newO e S k) (q : Nat) (hq : q ∉ sL S) (hqe : q ≠ e) : k q := h q hq hqe
def andW (b : Prop) (k : Prop) : Prop := b ∧ k
/-! Jx4a65c_set_bcc79 -/
abbrev rmJx4a65c_set_bcc79 : Room := { frames := 2, cells := 0, slots := 0, locals := 43 }
theorem hdJx4a65c_set_bcc79 : yJx4a65c_set_bcc79.cls = RJx4a65c ∧ yJx4a65c_set_bcc79.cls ≠ "java/lang/invoke/MethodHandle" ∧ yJx4a65c_set_bcc79.cls ≠ "java/lang/invoke/VarHandle" ∧ (parseMethodDescriptor yJx4a65c_set_bcc79.desc).map (fun d => d.parameters.length) = some 2 := by decide +kernel
theorem lkJx4a65c_set_bcc79_48 : Cond.fieldLink RJx4a65c 48 RJx4a65c (TJx4a65c 2).2.1 (TJx4a65c 2).2.2.1 ∈ wsJx4a65c_set_bcc79 := by decide +kernel
theorem inJx4a65c_set_bcc79_0 : ∀ w ∈ wsJx4a65c0, w ∈ wsJx4a65c_set_bcc79 := fun _ h => List.mem_cons_of_mem _ (List.mem_append_right _ h)
theorem lkJx4a65c_set_bcc79_9 : Cond.fieldLink RJx4a65c 9 RJx4a65c (TJx4a65c 1).2.1 (TJx4a65c 1).2.2.1 ∈ wsJx4a65c_set_bcc79 := by decide +kernel
def fJx4a65c_set_bcc79 (S : PS) (v0 : Nat) (v1 : Int32) (v2 : Nat) : Option (Nat × PS) := chk (okP S v0 0) (bP (fJ15_checkIndex_7cf53 v1 (sI S 2 v0)) (fun r5 => chk (okP S v0 0) (bP (fJx4a65c_elementData_915e3 S v0 v1) (fun r11 => chk (okP S v0 0) (bP (sR S 1 v0) (fun q16 => chk (okP S q16 10) (chk (inB v1 (sN S q16)) (chk (okL S v2) (bnd (pO S q16 (v1).toNatClampNeg (some v2)) (fun w21 => some (r11, w21)))))))))))
set_option maxRecDepth 100000 in
set_option maxHeartbeats 4000000 in
theorem sJx4a65c_set_bcc79 {X : JX} {cI cZ cO cJ : ClassId} {gs : JP} {post : Option Value → va_W → Prop} (hX : jOK X cJx4a65c_set_bcc79 4 wsJx4a65c_set_bcc79 RJx4a65c rmJx4a65c_set_bcc79) (hT : jT X = jTy cI cZ cO cJ) (hGX : jG X (GP gs)) (hret : jRA X cJx4a65c_set_bcc79 rmJx4a65c_set_bcc79 post) {o : (Nat × PS)} (hro : ∀ (v9 : Nat) (w9 : PS), o = (v9, w9) → post (some (.ref v9)) (pW cI cO w9))  {S : PS} {v0 : Nat} {v1 : Int32} {v2 : Nat} (h : fJx4a65c_set_bcc79 S v0 v1 v2 = some o) : JW X 0 0 (pW cI cO S) 0 [(0, .ref v0), (1, .int v1), (2, .ref v2)] [] := by
  unfold fJx4a65c_set_bcc79 at h
  refine jw_iload_n hX dJx4a65c_set_bcc79_0 rfl 1 rfl ?_
  refine jw_aload_n hX dJx4a65c_set_bcc79_1 rfl 0 rfl ?_
  obtain ⟨ho2_2, h⟩ := chk_some h
  refine jw_pgetI hX hT 0 2 rfl (by decide) (by decide) rfl inJx4a65c_set_bcc79_0 rfl lkJx4a65c_set_bcc79_48 ho2_2 dJx4a65c_set_bcc79_2 ?_
  obtain ⟨r5, hc5, h⟩ := bP_some h
  refine jw_cSi (As := [.int v1, .int (sI S 2 v0)]) hX (GP_ok gs) hGX 2 (kJ15_checkIndex_7cf53 hT hc5) gJx4a65c_set_bcc79_J15_checkIndex_7cf53 rfl hdJ15_checkIndex_7cf53 ⟨by decide, by decide⟩ rfl (Nat.le_of_ble_eq_true rfl) dJx4a65c_set_bcc79_5 rfl rfl ⟨by decide, by decide⟩ ?_
  refine jw_pop hX dJx4a65c_set_bcc79_8 rfl ?_
  refine jw_aload_n hX dJx4a65c_set_bcc79_9 rfl 0 rfl ?_
  refine jw_iload_n hX dJx4a65c_set_bcc79_10 rfl 1 rfl ?_
  obtain ⟨ho11_9, h⟩ := chk_some h
  obtain ⟨r11, hc11, h⟩ := bP_some h
  refine jw_pVr (As := [.int v1]) hX (GP_ok gs) hGX 1 (kJx4a65c_elementData_915e3 hT hc11) gJx4a65c_set_bcc79_Jx4a65c_elementData_915e3 rfl hdJx4a65c_elementData_915e3 ⟨by decide, by decide⟩ 0 rfl (by decide) ho11_9 rfl (Nat.le_of_ble_eq_true rfl) dJx4a65c_set_bcc79_11 rfl rfl ⟨by decide, by decide⟩ ?_
  refine jw_astore_n hX [(3, .ref r11), (0, .ref v0), (1, .int v1), (2, .ref v2)] dJx4a65c_set_bcc79_14 rfl (by decide) rfl ?_
  refine jw_aload_n hX dJx4a65c_set_bcc79_15 rfl 1 rfl ?_
  obtain ⟨ho16_14, h⟩ := chk_some h
  obtain ⟨q16, hr16, h⟩ := bP_some h
  refine jw_pgetR hX hT 0 1 rfl (by decide) (by decide) rfl inJx4a65c_set_bcc79_0 rfl lkJx4a65c_set_bcc79_9 ho16_14 hr16 dJx4a65c_set_bcc79_16 ?_
  refine jw_iload_n hX dJx4a65c_set_bcc79_19 rfl 2 rfl ?_
  refine jw_aload_n hX dJx4a65c_set_bcc79_20 rfl 3 rfl ?_
  obtain ⟨ho21_19, h⟩ := chk_some h
  obtain ⟨hb21, h⟩ := chk_some h
  obtain ⟨hz21, h⟩ := chk_some h
  refine jw_paast hX hT hGX ho21_19 hb21 hz21 dJx4a65c_set_bcc79_21 (fun w21 e21 => ?_)
  replace h := bnd_some h w21 e21
  clear e21
  refine jw_aload_n hX dJx4a65c_set_bcc79_22 rfl 0 rfl ?_
  exact hret _ _ _ _ _ _ (by decide) (by decide) dJx4a65c_set_bcc79_23 (hro _ _ (Option.some.inj h).symm)
set_option maxRecDepth 100000 in
set_option maxHeartbeats 4000000 in
theorem kJx4a65c_set_bcc79 {l : Launch} {D : va_G} {tys : List (ClassId × FieldType)} {cI cZ cO cJ : ClassId} {gs : JP} {S : PS} {v0 : Nat} {v1 : Int32} {v2 : Nat} {r : Nat} {w1 : PS} (hT : tys = jTy cI cZ cO cJ) (h : fJx4a65c_set_bcc79 S v0 v1 v2 = some (r, w1)) : CC l (GP gs) D tys yJx4a65c_set_bcc79 wsJx4a65c_set_bcc79 rmJx4a65c_set_bcc79 [.ref v0, .int v1, .ref v2] (pW cI cO S) (fun ov w2 => ov = some (.ref r) ∧ w2 = (pW cI cO w1)) := by
  refine CC_of (cc := cJx4a65c_set_bcc79) (maxL := 4) (ret := (some (.object "java/lang/Object"))) (by decide) rfl (Nat.le_of_ble_eq_true rfl) ?_
  intro X hD hL hT0 hGX hX rI rZ rV rA
  exact sJx4a65c_set_bcc79 (post := fun ov w2 => ov = some (.ref r) ∧ w2 = (pW cI cO w1)) hX (hT0.trans hT) hGX (fun cells slots w9 pc lv v => rA cells slots w9 pc lv v (Or.inl ⟨_, rfl⟩)) (o := (r, w1)) (fun v9 w9 e9 => by cases e9; exact ⟨rfl, rfl⟩) h
/-! J8_newLength_cabcc -/
abbrev rmJ8_newLength_cabcc : Room := { frames := 1, cells := 0, slots := 0, locals := 21 }
theorem hdJ8_newLength_cabcc : yJ8_newLength_cabcc.cls ≠ "java/lang/invoke/MethodHandle" ∧ yJ8_newLength_cabcc.cls ≠ "java/lang/invoke/VarHandle" ∧ (parseMethodDescriptor yJ8_newLength_cabcc.desc).map (fun d => d.parameters.length) = some 3 := by decide +kernel
theorem mtJ8_newLength_cabcc_max : Cond.methodLink RJ8 194 Lib.Math.max.name ∈ wsJ8_newLength_cabcc ∧ Cond.static Lib.Math.max.name ∈ wsJ8_newLength_cabcc ∧ Cond.initialized "java/lang/Math" ∈ wsJ8_newLength_cabcc ∧ Cond.code Lib.Math.max.name Lib.Math.max.code 2 (some .int) ∈ wsJ8_newLength_cabcc := by decide +kernel
theorem lcJ8_newLength_cabcc : Cond.constant RJ8 200 (2147483639 : Int32) ∈ wsJ8_newLength_cabcc := by decide +kernel
def fJ8_newLength_cabcc (v0 : Int32) (v1 : Int32) (v2 : Int32) : Option Int32 := bnd ((v0 + (if v1 < v2 then v2 else v1))) (fun y7 => (if y7 ≤ (0 : Int32) then none else (if (2147483639 : Int32) < y7 then none else some y7)))
set_option maxRecDepth 100000 in
set_option maxHeartbeats 4000000 in
theorem sJ8_newLength_cabcc {X : JX} {cI cZ cO cJ : ClassId} {gs : JP} {wv : va_W} {post : Option Value → va_W → Prop} (hX : jOK X cJ8_newLength_cabcc 4 wsJ8_newLength_cabcc RJ8 rmJ8_newLength_cabcc) (hT : jT X = jTy cI cZ cO cJ) (hGX : jG X (GP gs)) (hret : jRI X cJ8_newLength_cabcc rmJ8_newLength_cabcc post) {o : Int32} (hro : ∀ (v9 : Int32), o = v9 → post (some (.int v9)) wv)  {v0 : Int32} {v1 : Int32} {v2 : Int32} (h : fJ8_newLength_cabcc v0 v1 v2 = some o) : JW X 0 0 wv 0 [(0, .int v0), (1, .int v1), (2, .int v2)] [] := by
  unfold fJ8_newLength_cabcc at h
  refine jw_iload_n hX dJ8_newLength_cabcc_0 rfl 0 rfl ?_
  refine jw_iload_n hX dJ8_newLength_cabcc_1 rfl 1 rfl ?_
  refine jw_iload_n hX dJ8_newLength_cabcc_2 rfl 2 rfl ?_
  refine jw_umax hX mtJ8_newLength_cabcc_max.1 mtJ8_newLength_cabcc_max.2.1 mtJ8_newLength_cabcc_max.2.2.1 mtJ8_newLength_cabcc_max.2.2.2 (by decide) (Nat.le_of_ble_eq_true rfl) ⟨by decide, by decide⟩ dJ8_newLength_cabcc_3 ?_
  refine jw_iadd hX dJ8_newLength_cabcc_6 ?_
  refine jw_topi (fun y7 e7 => ?_)
  replace h := bnd_some h y7 e7
  clear e7
  refine jw_istore_n hX [(3, .int y7), (0, .int v0), (1, .int v1), (2, .int v2)] dJ8_newLength_cabcc_7 rfl (by decide) rfl ?_
  refine jw_iconst (v := (0 : Int32)) hX dJ8_newLength_cabcc_8 (by decide) ?_
  refine jw_iload_n hX dJ8_newLength_cabcc_9 rfl 0 rfl ?_
  refine jw_icmp_ge (tgt := 21) hX dJ8_newLength_cabcc_10 (by decide) (fun hc => ?_) (fun hc => ?_)
  · rw [if_pos hc] at h
    refine jw_iload_n hX dJ8_newLength_cabcc_21 rfl 1 rfl ?_
    refine jw_iload_n hX dJ8_newLength_cabcc_22 rfl 2 rfl ?_
    cases h
  · rw [if_neg hc] at h
    refine jw_iload_n hX dJ8_newLength_cabcc_13 rfl 0 rfl ?_
    refine jw_ildc hX lcJ8_newLength_cabcc dJ8_newLength_cabcc_14 ?_
    refine jw_icmp_gt (tgt := 21) hX dJ8_newLength_cabcc_16 (by decide) (fun hc => ?_) (fun hc => ?_)
    · rw [if_pos hc] at h
      refine jw_iload_n hX dJ8_newLength_cabcc_21 rfl 1 rfl ?_
      refine jw_iload_n hX dJ8_newLength_cabcc_22 rfl 2 rfl ?_
      cases h
    · rw [if_neg hc] at h
      refine jw_iload_n hX dJ8_newLength_cabcc_19 rfl 0 rfl ?_
      exact hret _ _ _ _ _ _ (by decide) (by decide) dJ8_newLength_cabcc_20 (hro _ (Option.some.inj h).symm)
set_option maxRecDepth 100000 in
set_option maxHeartbeats 4000000 in
theorem kJ8_newLength_cabcc {l : Launch} {D : va_G} {tys : List (ClassId × FieldType)} {cI cZ cO cJ : ClassId} {gs : JP} {wv : va_W} {v0 : Int32} {v1 : Int32} {v2 : Int32} {r : Int32} (hT : tys = jTy cI cZ cO cJ) (h : fJ8_newLength_cabcc v0 v1 v2 = some r) : CC l (GP gs) D tys yJ8_newLength_cabcc wsJ8_newLength_cabcc rmJ8_newLength_cabcc [.int v0, .int v1, .int v2] wv (fun ov w2 => ov = some (.int r) ∧ w2 = wv) := by
  refine CC_of (cc := cJ8_newLength_cabcc) (maxL := 4) (ret := (some .int)) (by decide) rfl (Nat.le_of_ble_eq_true rfl) ?_
  intro X hD hL hT0 hGX hX rI rZ rV rA
  exact sJ8_newLength_cabcc (post := fun ov w2 => ov = some (.int r) ∧ w2 = wv) hX (hT0.trans hT) hGX (fun cells slots w9 pc lv v => rI cells slots w9 pc lv v rfl) (o := r) (fun v9 e9 => by cases e9; exact ⟨rfl, rfl⟩) h
/-! X4_init -/
abbrev rmX4_init : Room := { frames := 1, cells := 1, slots := 360, locals := 40 }
theorem hdX4_init : yX4_init.cls ≠ "java/lang/invoke/MethodHandle" ∧ yX4_init.cls ≠ "java/lang/invoke/VarHandle" ∧ (parseMethodDescriptor yX4_init.desc).map (fun d => d.parameters.length) = some 1 := by decide +kernel
theorem obX4_init : Cond.methodLink RX4 3 Lib.objectInit ∈ wsX4_init := by decide +kernel
theorem ocX4_init : Cond.instanceMethod Lib.objectInit ∈ wsX4_init := by decide +kernel
theorem odX4_init : Cond.code Lib.objectInit ⟨#[0xb1]⟩ 1 none ∈ wsX4_init := by decide +kernel
theorem mtX4_init_max : Cond.methodLink RX4 9 Lib.Math.max.name ∈ wsX4_init ∧ Cond.static Lib.Math.max.name ∈ wsX4_init ∧ Cond.initialized "java/lang/Math" ∈ wsX4_init ∧ Cond.code Lib.Math.max.name Lib.Math.max.code 2 (some .int) ∈ wsX4_init := by decide +kernel
theorem naX4_init : Cond.arrayClass .int ∈ wsX4_init := by decide +kernel
theorem lkX4_init_15 : Cond.fieldLink RX4 15 RX4 (TX4 0).2.1 (TX4 0).2.2.1 ∈ wsX4_init := by decide +kernel
theorem inX4_init_5 : ∀ w ∈ wsX40, w ∈ wsX4_init := fun _ h => List.mem_cons_of_mem _ (List.mem_append_right _ h)
def fX4_init (gs : JP) (S : PS) (v0 : Nat) (v1 : Int32) (Q : PS → Prop) : Prop := chkW (decide (¬ (if v1 < (0 : Int32) then (0 : Int32) else v1) < 0)) (chkW (decide (((if v1 < (0 : Int32) then (0 : Int32) else v1)).toNatClampNeg ≤ 360)) (newW S (fun q10 => bndW (pNA S q10 ((if v1 < (0 : Int32) then (0 : Int32) else v1)).toNatClampNeg) (fun z10 => chkW (okP z10 v0 5) (bndW (pR z10 50 v0 (some q10)) (fun w12 => Q w12))))))
set_option maxRecDepth 100000 in
set_option maxHeartbeats 4000000 in
theorem sX4_init {X : JX} {cI cZ cO cJ : ClassId} {gs : JP} {post : Option Value → va_W → Prop} (hX : jOK X cX4_init 2 wsX4_init RX4 rmX4_init) (hT : jT X = jTy cI cZ cO cJ) (hGX : jG X (GP gs)) (hret : jRV X cX4_init rmX4_init post) (hin0 : jInit X) {Q : PS → Prop} (hro : ∀ (w9 : PS), Q w9 → post none (pW cI cO w9)) {S : PS} {v0 : Nat} {v1 : Int32} (h : fX4_init gs S v0 v1 Q) : JW X 0 0 (pW cI cO S) 0 [(0, .ref v0), (1, .int v1)] [] := by
  unfold fX4_init at h
  refine jw_aload_n hX dX4_init_0 rfl 0 rfl ?_
  refine jw_objInit hX obX4_init ocX4_init odX4_init (by decide) (Nat.le_of_ble_eq_true rfl) dX4_init_1 ?_
  refine jw_aload_n hX dX4_init_4 rfl 0 rfl ?_
  refine jw_iload_n hX dX4_init_5 rfl 1 rfl ?_
  refine jw_iconst (v := (0 : Int32)) hX dX4_init_6 (by decide) ?_
  refine jw_umax hX mtX4_init_max.1 mtX4_init_max.2.1 mtX4_init_max.2.2.1 mtX4_init_max.2.2.2 (by decide) (Nat.le_of_ble_eq_true rfl) ⟨by decide, by decide⟩ dX4_init_7 ?_
  obtain ⟨hn10, h⟩ := h
  obtain ⟨hm10, h⟩ := h
  have hm10 := of_decide_eq_true hm10
  have hn10 := of_decide_eq_true hn10
  refine jw_pnewA hX hT naX4_init hn10 rfl (by omega) ⟨by decide, by show 0 + _ ≤ 360; omega⟩ dX4_init_10 (fun q10 hq10 => ?_)
  replace h := newW_use h q10 hq10
  refine jw_widen 1 360 (by decide) (Nat.le_trans (Nat.add_le_add_left hm10 _) (Nat.le_of_ble_eq_true rfl)) ?_
  obtain ⟨z10, e10⟩ : ∃ z, z = (pNA S q10 ((if v1 < (0 : Int32) then (0 : Int32) else v1)).toNatClampNeg) := ⟨_, rfl⟩
  replace h := bndW_use h z10 e10
  rw [← e10]
  clear e10
  obtain ⟨ho12_17, h⟩ := h
  refine jw_pputRF hX hT 5 0 rfl (by decide) (by decide) rfl inX4_init_5 rfl lkX4_init_15 tyX4 tyX4_ok nmX4 rfl hin0 rfl (ty := tyX4 0) (by decide +kernel) (Or.inr ⟨_, rfl⟩) ho12_17 dX4_init_12 (fun w12 e12 => ?_)
  replace h := bndW_use h w12 e12
  clear e12
  exact hret _ _ _ _ _ (by decide) (by decide) dX4_init_15 (hro _ h)
set_option maxRecDepth 100000 in
set_option maxHeartbeats 4000000 in
theorem kX4_init {l : Launch} {D : va_G} {tys : List (ClassId × FieldType)} {cI cZ cO cJ : ClassId} {gs : JP} {S : PS} {v0 : Nat} {v1 : Int32} {Q : PS → Prop} (hT : tys = jTy cI cZ cO cJ) (h : fX4_init gs S v0 v1 Q) : CC l (GP gs) D tys yX4_init wsX4_init rmX4_init [.ref v0, .int v1] (pW cI cO S) (fun ov w2 => ∃ w9 : PS, Q w9 ∧ ov = none ∧ w2 = pW cI cO w9) := by
  refine CC_ofI (cc := cX4_init) (maxL := 2) rfl (by decide) rfl (Nat.le_of_ble_eq_true rfl) ?_
  intro X hD hL hT0 hGX hX hin0 rV
  exact sX4_init (post := (fun ov w2 => ∃ w9 : PS, Q w9 ∧ ov = none ∧ w2 = pW cI cO w9)) hX (hT0.trans hT) hGX rV hin0 (fun w9 hq => ⟨w9, hq, rfl, rfl⟩) h
/-! X1_init -/
abbrev rmX1_init : Room := { frames := 2, cells := 5, slots := 732, locals := 61 }
theorem hdX1_init : yX1_init.cls ≠ "java/lang/invoke/MethodHandle" ∧ yX1_init.cls ≠ "java/lang/invoke/VarHandle" ∧ (parseMethodDescriptor yX1_init.desc).map (fun d => d.parameters.length) = some 0 := by decide +kernel
theorem obX1_init : Cond.methodLink RX1 3 Lib.objectInit ∈ wsX1_init := by decide +kernel
theorem ocX1_init : Cond.instanceMethod Lib.objectInit ∈ wsX1_init := by decide +kernel
theorem odX1_init : Cond.code Lib.objectInit ⟨#[0xb1]⟩ 1 none ∈ wsX1_init := by decide +kernel
theorem nlX1_init_9 : Cond.classLink RX1 9 RX4 ∈ wsX1_init := by decide +kernel
theorem niX1_init_5 : Cond.instantiable RX4 2 ∈ wsX1_init := by decide +kernel
theorem njX1_init_5 : Cond.initialized RX4 ∈ wsX1_init := by decide +kernel
theorem inX1_init_5 : ∀ w ∈ wsX40, w ∈ wsX1_init := fun _ h => List.mem_cons_of_mem _ (List.mem_append_left _ (List.mem_append_right _ h))
theorem lkX1_init_14 : Cond.fieldLink RX1 14 RX1 (TX1 0).2.1 (TX1 0).2.2.1 ∈ wsX1_init := by decide +kernel
theorem inX1_init_2 : ∀ w ∈ wsX10, w ∈ wsX1_init := fun _ h => List.mem_cons_of_mem _ (List.mem_append_right _ h)
theorem lkX1_init_20 : Cond.fieldLink RX1 20 RX1 (TX1 1).2.1 (TX1 1).2.2.1 ∈ wsX1_init := by decide +kernel
theorem naX1_init : Cond.arrayClass .int ∈ wsX1_init := by decide +kernel
theorem lkX1_init_23 : Cond.fieldLink RX1 23 RX1 (TX1 2).2.1 (TX1 2).2.2.1 ∈ wsX1_init := by decide +kernel
theorem ilX1_init_11 : Cond.methodLink RX1 11 yX4_init ∈ wsX1_init := by decide +kernel
theorem iiX1_init_X4_init : Cond.initialized yX4_init.cls ∈ wsX1_init := by decide +kernel
theorem ijX1_init_X4_init : Cond.instanceMethod yX4_init ∈ wsX1_init := by decide +kernel
def fX1_init (gs : JP) (S : PS) (v0 : Nat) (Q : PS → Prop) : Prop := newW S (fun q5 => bndW (pNw S q5 5) (fun z5 => fX4_init gs z5 q5 (60 : Int32) (fun w11 => chkW (okP w11 v0 2) (bndW (pR w11 20 v0 (some q5)) (fun w14 => newW w14 (fun q18 => bndW (pNw w14 q18 5) (fun z18 => fX4_init gs z18 q18 (60 : Int32) (fun w24 => chkW (okP w24 v0 2) (bndW (pR w24 21 v0 (some q18)) (fun w27 => chkW (decide (¬ (8 : Int32) < 0)) (chkW (decide (((8 : Int32)).toNatClampNeg ≤ 8)) (newW w27 (fun q33 => bndW (pNA w27 q33 ((8 : Int32)).toNatClampNeg) (fun z33 => chkW (okP z33 v0 2) (bndW (pR z33 22 v0 (some q33)) (fun w35 => Q w35))))))))))))))))
set_option maxRecDepth 100000 in
set_option maxHeartbeats 4000000 in
theorem sX1_init {X : JX} {cI cZ cO cJ : ClassId} {gs : JP} {post : Option Value → va_W → Prop} (hX : jOK X cX1_init 1 wsX1_init RX1 rmX1_init) (hT : jT X = jTy cI cZ cO cJ) (hGX : jG X (GP gs)) (hret : jRV X cX1_init rmX1_init post) (hin0 : jInit X) {Q : PS → Prop} (hro : ∀ (w9 : PS), Q w9 → post none (pW cI cO w9)) {S : PS} {v0 : Nat} (h : fX1_init gs S v0 Q) : JW X 0 0 (pW cI cO S) 0 [(0, .ref v0)] [] := by
  unfold fX1_init at h
  refine jw_aload_n hX dX1_init_0 rfl 0 rfl ?_
  refine jw_objInit hX obX1_init ocX1_init odX1_init (by decide) (Nat.le_of_ble_eq_true rfl) dX1_init_1 ?_
  refine jw_aload_n hX dX1_init_4 rfl 0 rfl ?_
  refine jw_pnew hX hT 5 rfl (by decide) inX1_init_5 tyX4 tyX4_ok nzero5 nlX1_init_9 niX1_init_5 njX1_init_5 ⟨by decide, by decide⟩ dX1_init_5 (fun q5 hq5 => ?_)
  replace h := newW_use h q5 hq5
  obtain ⟨z5, e5⟩ : ∃ z, z = (pNw S q5 5) := ⟨_, rfl⟩
  replace h := bndW_use h z5 e5
  rw [← e5]
  clear e5
  refine jw_dup hX dX1_init_8 rfl ?_
  refine jw_bipush (v := (60 : Int32)) hX dX1_init_9 (by decide) ?_
  refine jw_pI (As := [.int (60 : Int32)]) hX (GP_ok gs) hGX 1 (kX4_init hT h) gX1_init_X4_init rfl ilX1_init_11 iiX1_init_X4_init ijX1_init_X4_init rfl hdX4_init ⟨by decide, by decide⟩ rfl (Nat.le_of_ble_eq_true rfl) dX1_init_11 rfl rfl ⟨by decide, by decide⟩ (fun w11 h => ?_)
  obtain ⟨ho14_0, h⟩ := h
  refine jw_pputRF hX hT 2 0 rfl (by decide) (by decide) rfl inX1_init_2 rfl lkX1_init_14 tyX1 tyX1_ok nmX1 rfl hin0 rfl (ty := tyX1 0) (by decide +kernel) (Or.inl ⟨_, rfl⟩) ho14_0 dX1_init_14 (fun w14 e14 => ?_)
  replace h := bndW_use h w14 e14
  clear e14
  refine jw_aload_n hX dX1_init_17 rfl 0 rfl ?_
  refine jw_pnew hX hT 5 rfl (by decide) inX1_init_5 tyX4 tyX4_ok nzero5 nlX1_init_9 niX1_init_5 njX1_init_5 ⟨by decide, by decide⟩ dX1_init_18 (fun q18 hq18 => ?_)
  replace h := newW_use h q18 hq18
  obtain ⟨z18, e18⟩ : ∃ z, z = (pNw w14 q18 5) := ⟨_, rfl⟩
  replace h := bndW_use h z18 e18
  rw [← e18]
  clear e18
  refine jw_dup hX dX1_init_21 rfl ?_
  refine jw_bipush (v := (60 : Int32)) hX dX1_init_22 (by decide) ?_
  refine jw_pI (As := [.int (60 : Int32)]) hX (GP_ok gs) hGX 1 (kX4_init hT h) gX1_init_X4_init rfl ilX1_init_11 iiX1_init_X4_init ijX1_init_X4_init rfl hdX4_init ⟨by decide, by decide⟩ rfl (Nat.le_of_ble_eq_true rfl) dX1_init_24 rfl rfl ⟨by decide, by decide⟩ (fun w24 h => ?_)
  obtain ⟨ho27_0, h⟩ := h
  refine jw_pputRF hX hT 2 1 rfl (by decide) (by decide) rfl inX1_init_2 rfl lkX1_init_20 tyX1 tyX1_ok nmX1 rfl hin0 rfl (ty := tyX1 1) (by decide +kernel) (Or.inl ⟨_, rfl⟩) ho27_0 dX1_init_27 (fun w27 e27 => ?_)
  replace h := bndW_use h w27 e27
  clear e27
  refine jw_aload_n hX dX1_init_30 rfl 0 rfl ?_
  refine jw_bipush (v := (8 : Int32)) hX dX1_init_31 (by decide) ?_
  obtain ⟨hn33, h⟩ := h
  obtain ⟨hm33, h⟩ := h
  have hm33 := of_decide_eq_true hm33
  have hn33 := of_decide_eq_true hn33
  refine jw_pnewA hX hT naX1_init hn33 rfl (by omega) ⟨by decide, by show 724 + _ ≤ 732; omega⟩ dX1_init_33 (fun q33 hq33 => ?_)
  replace h := newW_use h q33 hq33
  refine jw_widen 5 732 (by decide) (Nat.le_trans (Nat.add_le_add_left hm33 _) (Nat.le_of_ble_eq_true rfl)) ?_
  obtain ⟨z33, e33⟩ : ∃ z, z = (pNA w27 q33 ((8 : Int32)).toNatClampNeg) := ⟨_, rfl⟩
  replace h := bndW_use h z33 e33
  rw [← e33]
  clear e33
  obtain ⟨ho35_17, h⟩ := h
  refine jw_pputRF hX hT 2 2 rfl (by decide) (by decide) rfl inX1_init_2 rfl lkX1_init_23 tyX1 tyX1_ok nmX1 rfl hin0 rfl (ty := tyX1 2) (by decide +kernel) (Or.inr ⟨_, rfl⟩) ho35_17 dX1_init_35 (fun w35 e35 => ?_)
  replace h := bndW_use h w35 e35
  clear e35
  exact hret _ _ _ _ _ (by decide) (by decide) dX1_init_38 (hro _ h)
set_option maxRecDepth 100000 in
set_option maxHeartbeats 4000000 in
theorem kX1_init {l : Launch} {D : va_G} {tys : List (ClassId × FieldType)} {cI cZ cO cJ : ClassId} {gs : JP} {S : PS} {v0 : Nat} {Q : PS → Prop} (hT : tys = jTy cI cZ cO cJ) (h : fX1_init gs S v0 Q) : CC l (GP gs) D tys yX1_init wsX1_init rmX1_init [.ref v0] (pW cI cO S) (fun ov w2 => ∃ w9 : PS, Q w9 ∧ ov = none ∧ w2 = pW cI cO w9) := by
  refine CC_ofI (cc := cX1_init) (maxL := 1) rfl (by decide) rfl (Nat.le_of_ble_eq_true rfl) ?_
  intro X hD hL hT0 hGX hX hin0 rV
  exact sX1_init (post := (fun ov w2 => ∃ w9 : PS, Q w9 ∧ ov = none ∧ w2 = pW cI cO w9)) hX (hT0.trans hT) hGX rV hin0 (fun w9 hq => ⟨w9, hq, rfl, rfl⟩) h
/-! X2_init -/
abbrev rmX2_init : Room := { frames := 1, cells := 0, slots := 0, locals := 40 }
theorem hdX2_init : yX2_init.cls ≠ "java/lang/invoke/MethodHandle" ∧ yX2_init.cls ≠ "java/lang/invoke/VarHandle" ∧ (parseMethodDescriptor yX2_init.desc).map (fun d => d.parameters.length) = some 0 := by decide +kernel
theorem obX2_init : Cond.methodLink RX2 3 Lib.objectInit ∈ wsX2_init := by decide +kernel
theorem ocX2_init : Cond.instanceMethod Lib.objectInit ∈ wsX2_init := by decide +kernel
theorem odX2_init : Cond.code Lib.objectInit ⟨#[0xb1]⟩ 1 none ∈ wsX2_init := by decide +kernel
def fX2_init (gs : JP) (S : PS) (v0 : Nat) (Q : PS → Prop) : Prop := Q S
set_option maxRecDepth 100000 in
set_option maxHeartbeats 4000000 in
theorem sX2_init {X : JX} {cI cZ cO cJ : ClassId} {gs : JP} {post : Option Value → va_W → Prop} (hX : jOK X cX2_init 1 wsX2_init RX2 rmX2_init) (hT : jT X = jTy cI cZ cO cJ) (hGX : jG X (GP gs)) (hret : jRV X cX2_init rmX2_init post) (hin0 : jInit X) {Q : PS → Prop} (hro : ∀ (w9 : PS), Q w9 → post none (pW cI cO w9)) {S : PS} {v0 : Nat} (h : fX2_init gs S v0 Q) : JW X 0 0 (pW cI cO S) 0 [(0, .ref v0)] [] := by
  unfold fX2_init at h
  refine jw_aload_n hX dX2_init_0 rfl 0 rfl ?_
  refine jw_objInit hX obX2_init ocX2_init odX2_init (by decide) (Nat.le_of_ble_eq_true rfl) dX2_init_1 ?_
  exact hret _ _ _ _ _ (by decide) (by decide) dX2_init_4 (hro _ h)
set_option maxRecDepth 100000 in
set_option maxHeartbeats 4000000 in
theorem kX2_init {l : Launch} {D : va_G} {tys : List (ClassId × FieldType)} {cI cZ cO cJ : ClassId} {gs : JP} {S : PS} {v0 : Nat} {Q : PS → Prop} (hT : tys = jTy cI cZ cO cJ) (h : fX2_init gs S v0 Q) : CC l (GP gs) D tys yX2_init wsX2_init rmX2_init [.ref v0] (pW cI cO S) (fun ov w2 => ∃ w9 : PS, Q w9 ∧ ov = none ∧ w2 = pW cI cO w9) := by
  refine CC_ofI (cc := cX2_init) (maxL := 1) rfl (by decide) rfl (Nat.le_of_ble_eq_true rfl) ?_
  intro X hD hL hT0 hGX hX hin0 rV
  exact sX2_init (post := (fun ov w2 => ∃ w9 : PS, Q w9 ∧ ov = none ∧ w2 = pW cI cO w9)) hX (hT0.trans hT) hGX rV hin0 (fun w9 hq => ⟨w9, hq, rfl, rfl⟩) h
/-! X3_init -/
abbrev rmX3_init : Room := { frames := 1, cells := 0, slots := 0, locals := 40 }
theorem hdX3_init : yX3_init.cls ≠ "java/lang/invoke/MethodHandle" ∧ yX3_init.cls ≠ "java/lang/invoke/VarHandle" ∧ (parseMethodDescriptor yX3_init.desc).map (fun d => d.parameters.length) = some 4 := by decide +kernel
theorem obX3_init : Cond.methodLink RX3 3 Lib.objectInit ∈ wsX3_init := by decide +kernel
theorem ocX3_init : Cond.instanceMethod Lib.objectInit ∈ wsX3_init := by decide +kernel
theorem odX3_init : Cond.code Lib.objectInit ⟨#[0xb1]⟩ 1 none ∈ wsX3_init := by decide +kernel
theorem lkX3_init_9 : Cond.fieldLink RX3 9 RX3 (TX3 0).2.1 (TX3 0).2.2.1 ∈ wsX3_init := by decide +kernel
theorem inX3_init_4 : ∀ w ∈ wsX30, w ∈ wsX3_init := fun _ h => List.mem_cons_of_mem _ (List.mem_append_right _ h)
theorem lkX3_init_15 : Cond.fieldLink RX3 15 RX3 (TX3 1).2.1 (TX3 1).2.2.1 ∈ wsX3_init := by decide +kernel
theorem lkX3_init_18 : Cond.fieldLink RX3 18 RX3 (TX3 2).2.1 (TX3 2).2.2.1 ∈ wsX3_init := by decide +kernel
theorem lkX3_init_21 : Cond.fieldLink RX3 21 RX3 (TX3 3).2.1 (TX3 3).2.2.1 ∈ wsX3_init := by decide +kernel
def fX3_init (gs : JP) (S : PS) (v0 : Nat) (v1 : Int32) (v2 : Int32) (v3 : Int32) (v4 : Int32) (Q : PS → Prop) : Prop := chkW (okP S v0 4) (bndW (pI S 40 v0 v1) (fun w6 => chkW (okP w6 v0 4) (bndW (pI w6 41 v0 v2) (fun w11 => chkW (okP w11 v0 4) (bndW (pI w11 42 v0 v3) (fun w16 => chkW (okP w16 v0 4) (bndW (pI w16 43 v0 v4) (fun w22 => Q w22))))))))
set_option maxRecDepth 100000 in
set_option maxHeartbeats 4000000 in
theorem sX3_init {X : JX} {cI cZ cO cJ : ClassId} {gs : JP} {post : Option Value → va_W → Prop} (hX : jOK X cX3_init 5 wsX3_init RX3 rmX3_init) (hT : jT X = jTy cI cZ cO cJ) (hGX : jG X (GP gs)) (hret : jRV X cX3_init rmX3_init post) (hin0 : jInit X) {Q : PS → Prop} (hro : ∀ (w9 : PS), Q w9 → post none (pW cI cO w9)) {S : PS} {v0 : Nat} {v1 : Int32} {v2 : Int32} {v3 : Int32} {v4 : Int32} (h : fX3_init gs S v0 v1 v2 v3 v4 Q) : JW X 0 0 (pW cI cO S) 0 [(0, .ref v0), (1, .int v1), (2, .int v2), (3, .int v3), (4, .int v4)] [] := by
  unfold fX3_init at h
  refine jw_aload_n hX dX3_init_0 rfl 0 rfl ?_
  refine jw_objInit hX obX3_init ocX3_init odX3_init (by decide) (Nat.le_of_ble_eq_true rfl) dX3_init_1 ?_
  refine jw_aload_n hX dX3_init_4 rfl 0 rfl ?_
  refine jw_iload_n hX dX3_init_5 rfl 1 rfl ?_
  obtain ⟨ho6_4, h⟩ := h
  refine jw_pputIF hX hT 4 0 rfl (by decide) (by decide) rfl inX3_init_4 rfl lkX3_init_9 tyX3 tyX3_ok nmX3 rfl hin0 rfl (by decide +kernel) ho6_4 dX3_init_6 (fun w6 e6 => ?_)
  replace h := bndW_use h w6 e6
  clear e6
  refine jw_aload_n hX dX3_init_9 rfl 0 rfl ?_
  refine jw_iload_n hX dX3_init_10 rfl 2 rfl ?_
  obtain ⟨ho11_10, h⟩ := h
  refine jw_pputIF hX hT 4 1 rfl (by decide) (by decide) rfl inX3_init_4 rfl lkX3_init_15 tyX3 tyX3_ok nmX3 rfl hin0 rfl (by decide +kernel) ho11_10 dX3_init_11 (fun w11 e11 => ?_)
  replace h := bndW_use h w11 e11
  clear e11
  refine jw_aload_n hX dX3_init_14 rfl 0 rfl ?_
  refine jw_iload_n hX dX3_init_15 rfl 3 rfl ?_
  obtain ⟨ho16_16, h⟩ := h
  refine jw_pputIF hX hT 4 2 rfl (by decide) (by decide) rfl inX3_init_4 rfl lkX3_init_18 tyX3 tyX3_ok nmX3 rfl hin0 rfl (by decide +kernel) ho16_16 dX3_init_16 (fun w16 e16 => ?_)
  replace h := bndW_use h w16 e16
  clear e16
  refine jw_aload_n hX dX3_init_19 rfl 0 rfl ?_
  refine jw_iload hX dX3_init_20 4 rfl ?_
  obtain ⟨ho22_22, h⟩ := h
  refine jw_pputIF hX hT 4 3 rfl (by decide) (by decide) rfl inX3_init_4 rfl lkX3_init_21 tyX3 tyX3_ok nmX3 rfl hin0 rfl (by decide +kernel) ho22_22 dX3_init_22 (fun w22 e22 => ?_)
  replace h := bndW_use h w22 e22
  clear e22
  exact hret _ _ _ _ _ (by decide) (by decide) dX3_init_25 (hro _ h)
set_option maxRecDepth 100000 in
set_option maxHeartbeats 4000000 in
theorem kX3_init {l : Launch} {D : va_G} {tys : List (ClassId × FieldType)} {cI cZ cO cJ : ClassId} {gs : JP} {S : PS} {v0 : Nat} {v1 : Int32} {v2 : Int32} {v3 : Int32} {v4 : Int32} {Q : PS → Prop} (hT : tys = jTy cI cZ cO cJ) (h : fX3_init gs S v0 v1 v2 v3 v4 Q) : CC l (GP gs) D tys yX3_init wsX3_init rmX3_init [.ref v0, .int v1, .int v2, .int v3, .int v4] (pW cI cO S) (fun ov w2 => ∃ w9 : PS, Q w9 ∧ ov = none ∧ w2 = pW cI cO w9) := by
  refine CC_ofI (cc := cX3_init) (maxL := 5) rfl (by decide) rfl (Nat.le_of_ble_eq_true rfl) ?_
  intro X hD hL hT0 hGX hX hin0 rV
  exact sX3_init (post := (fun ov w2 => ∃ w9 : PS, Q w9 ∧ ov = none ∧ w2 = pW cI cO w9)) hX (hT0.trans hT) hGX rV hin0 (fun w9 hq => ⟨w9, hq, rfl, rfl⟩) h
/-! X0_init -/
abbrev rmX0_init : Room := { frames := 1, cells := 0, slots := 0, locals := 40 }
theorem hdX0_init : yX0_init.cls ≠ "java/lang/invoke/MethodHandle" ∧ yX0_init.cls ≠ "java/lang/invoke/VarHandle" ∧ (parseMethodDescriptor yX0_init.desc).map (fun d => d.parameters.length) = some 3 := by decide +kernel
theorem obX0_init : Cond.methodLink RX0 1 Lib.objectInit ∈ wsX0_init := by decide +kernel
theorem ocX0_init : Cond.instanceMethod Lib.objectInit ∈ wsX0_init := by decide +kernel
theorem odX0_init : Cond.code Lib.objectInit ⟨#[0xb1]⟩ 1 none ∈ wsX0_init := by decide +kernel
theorem lkX0_init_7 : Cond.fieldLink RX0 7 RX0 (TX0 0).2.1 (TX0 0).2.2.1 ∈ wsX0_init := by decide +kernel
theorem inX0_init_1 : ∀ w ∈ wsX00, w ∈ wsX0_init := fun _ h => List.mem_cons_of_mem _ (List.mem_append_right _ h)
theorem lkX0_init_13 : Cond.fieldLink RX0 13 RX0 (TX0 1).2.1 (TX0 1).2.2.1 ∈ wsX0_init := by decide +kernel
theorem lkX0_init_16 : Cond.fieldLink RX0 16 RX0 (TX0 2).2.1 (TX0 2).2.2.1 ∈ wsX0_init := by decide +kernel
def fX0_init (gs : JP) (S : PS) (v0 : Nat) (v1 : Int32) (v2 : Int32) (v3 : Int32) (Q : PS → Prop) : Prop := chkW (okP S v0 1) (bndW (pI S 10 v0 v1) (fun w6 => chkW (okP w6 v0 1) (bndW (pI w6 11 v0 v2) (fun w11 => chkW (okP w11 v0 1) (bndW (pI w11 12 v0 v3) (fun w16 => Q w16))))))
set_option maxRecDepth 100000 in
set_option maxHeartbeats 4000000 in
theorem sX0_init {X : JX} {cI cZ cO cJ : ClassId} {gs : JP} {post : Option Value → va_W → Prop} (hX : jOK X cX0_init 4 wsX0_init RX0 rmX0_init) (hT : jT X = jTy cI cZ cO cJ) (hGX : jG X (GP gs)) (hret : jRV X cX0_init rmX0_init post) (hin0 : jInit X) {Q : PS → Prop} (hro : ∀ (w9 : PS), Q w9 → post none (pW cI cO w9)) {S : PS} {v0 : Nat} {v1 : Int32} {v2 : Int32} {v3 : Int32} (h : fX0_init gs S v0 v1 v2 v3 Q) : JW X 0 0 (pW cI cO S) 0 [(0, .ref v0), (1, .int v1), (2, .int v2), (3, .int v3)] [] := by
  unfold fX0_init at h
  refine jw_aload_n hX dX0_init_0 rfl 0 rfl ?_
  refine jw_objInit hX obX0_init ocX0_init odX0_init (by decide) (Nat.le_of_ble_eq_true rfl) dX0_init_1 ?_
  refine jw_aload_n hX dX0_init_4 rfl 0 rfl ?_
  refine jw_iload_n hX dX0_init_5 rfl 1 rfl ?_
  obtain ⟨ho6_4, h⟩ := h
  refine jw_pputIF hX hT 1 0 rfl (by decide) (by decide) rfl inX0_init_1 rfl lkX0_init_7 tyX0 tyX0_ok nmX0 rfl hin0 rfl (by decide +kernel) ho6_4 dX0_init_6 (fun w6 e6 => ?_)
  replace h := bndW_use h w6 e6
  clear e6
  refine jw_aload_n hX dX0_init_9 rfl 0 rfl ?_
  refine jw_iload_n hX dX0_init_10 rfl 2 rfl ?_
  obtain ⟨ho11_10, h⟩ := h
  refine jw_pputIF hX hT 1 1 rfl (by decide) (by decide) rfl inX0_init_1 rfl lkX0_init_13 tyX0 tyX0_ok nmX0 rfl hin0 rfl (by decide +kernel) ho11_10 dX0_init_11 (fun w11 e11 => ?_)
  replace h := bndW_use h w11 e11
  clear e11
  refine jw_aload_n hX dX0_init_14 rfl 0 rfl ?_
  refine jw_iload_n hX dX0_init_15 rfl 3 rfl ?_
  obtain ⟨ho16_16, h⟩ := h
  refine jw_pputIF hX hT 1 2 rfl (by decide) (by decide) rfl inX0_init_1 rfl lkX0_init_16 tyX0 tyX0_ok nmX0 rfl hin0 rfl (by decide +kernel) ho16_16 dX0_init_16 (fun w16 e16 => ?_)
  replace h := bndW_use h w16 e16
  clear e16
  exact hret _ _ _ _ _ (by decide) (by decide) dX0_init_19 (hro _ h)
set_option maxRecDepth 100000 in
set_option maxHeartbeats 4000000 in
theorem kX0_init {l : Launch} {D : va_G} {tys : List (ClassId × FieldType)} {cI cZ cO cJ : ClassId} {gs : JP} {S : PS} {v0 : Nat} {v1 : Int32} {v2 : Int32} {v3 : Int32} {Q : PS → Prop} (hT : tys = jTy cI cZ cO cJ) (h : fX0_init gs S v0 v1 v2 v3 Q) : CC l (GP gs) D tys yX0_init wsX0_init rmX0_init [.ref v0, .int v1, .int v2, .int v3] (pW cI cO S) (fun ov w2 => ∃ w9 : PS, Q w9 ∧ ov = none ∧ w2 = pW cI cO w9) := by
  refine CC_ofI (cc := cX0_init) (maxL := 4) rfl (by decide) rfl (Nat.le_of_ble_eq_true rfl) ?_
  intro X hD hL hT0 hGX hX hin0 rV
  exact sX0_init (post := (fun ov w2 => ∃ w9 : PS, Q w9 ∧ ov = none ∧ w2 = pW cI cO w9)) hX (hT0.trans hT) hGX rV hin0 (fun w9 hq => ⟨w9, hq, rfl, rfl⟩) h
/-! Jxa1e45_init_da8c8 -/
abbrev rmJxa1e45_init_da8c8 : Room := { frames := 1, cells := 0, slots := 0, locals := 40 }
theorem hdJxa1e45_init_da8c8 : yJxa1e45_init_da8c8.cls ≠ "java/lang/invoke/MethodHandle" ∧ yJxa1e45_init_da8c8.cls ≠ "java/lang/invoke/VarHandle" ∧ (parseMethodDescriptor yJxa1e45_init_da8c8.desc).map (fun d => d.parameters.length) = some 0 := by decide +kernel
theorem obJxa1e45_init_da8c8 : Cond.methodLink RJxa1e45 1 Lib.objectInit ∈ wsJxa1e45_init_da8c8 := by decide +kernel
theorem ocJxa1e45_init_da8c8 : Cond.instanceMethod Lib.objectInit ∈ wsJxa1e45_init_da8c8 := by decide +kernel
theorem odJxa1e45_init_da8c8 : Cond.code Lib.objectInit ⟨#[0xb1]⟩ 1 none ∈ wsJxa1e45_init_da8c8 := by decide +kernel
def fJxa1e45_init_da8c8 (gs : JP) (S : PS) (v0 : Nat) (Q : PS → Prop) : Prop := Q S
set_option maxRecDepth 100000 in
set_option maxHeartbeats 4000000 in
theorem sJxa1e45_init_da8c8 {X : JX} {cI cZ cO cJ : ClassId} {gs : JP} {post : Option Value → va_W → Prop} (hX : jOK X cJxa1e45_init_da8c8 1 wsJxa1e45_init_da8c8 RJxa1e45 rmJxa1e45_init_da8c8) (hT : jT X = jTy cI cZ cO cJ) (hGX : jG X (GP gs)) (hret : jRV X cJxa1e45_init_da8c8 rmJxa1e45_init_da8c8 post) (hin0 : jInit X) {Q : PS → Prop} (hro : ∀ (w9 : PS), Q w9 → post none (pW cI cO w9)) {S : PS} {v0 : Nat} (h : fJxa1e45_init_da8c8 gs S v0 Q) : JW X 0 0 (pW cI cO S) 0 [(0, .ref v0)] [] := by
  unfold fJxa1e45_init_da8c8 at h
  refine jw_aload_n hX dJxa1e45_init_da8c8_0 rfl 0 rfl ?_
  refine jw_objInit hX obJxa1e45_init_da8c8 ocJxa1e45_init_da8c8 odJxa1e45_init_da8c8 (by decide) (Nat.le_of_ble_eq_true rfl) dJxa1e45_init_da8c8_1 ?_
  exact hret _ _ _ _ _ (by decide) (by decide) dJxa1e45_init_da8c8_4 (hro _ h)
set_option maxRecDepth 100000 in
set_option maxHeartbeats 4000000 in
theorem kJxa1e45_init_da8c8 {l : Launch} {D : va_G} {tys : List (ClassId × FieldType)} {cI cZ cO cJ : ClassId} {gs : JP} {S : PS} {v0 : Nat} {Q : PS → Prop} (hT : tys = jTy cI cZ cO cJ) (h : fJxa1e45_init_da8c8 gs S v0 Q) : CC l (GP gs) D tys yJxa1e45_init_da8c8 wsJxa1e45_init_da8c8 rmJxa1e45_init_da8c8 [.ref v0] (pW cI cO S) (fun ov w2 => ∃ w9 : PS, Q w9 ∧ ov = none ∧ w2 = pW cI cO w9) := by
  refine CC_ofI (cc := cJxa1e45_init_da8c8) (maxL := 1) rfl (by decide) rfl (Nat.le_of_ble_eq_true rfl) ?_
  intro X hD hL hT0 hGX hX hin0 rV
  exact sJxa1e45_init_da8c8 (post := (fun ov w2 => ∃ w9 : PS, Q w9 ∧ ov = none ∧ w2 = pW cI cO w9)) hX (hT0.trans hT) hGX rV hin0 (fun w9 hq => ⟨w9, hq, rfl, rfl⟩) h
/-! Jxc12de_init_da8c8 -/
abbrev rmJxc12de_init_da8c8 : Room := { frames := 2, cells := 0, slots := 0, locals := 60 }
theorem hdJxc12de_init_da8c8 : yJxc12de_init_da8c8.cls ≠ "java/lang/invoke/MethodHandle" ∧ yJxc12de_init_da8c8.cls ≠ "java/lang/invoke/VarHandle" ∧ (parseMethodDescriptor yJxc12de_init_da8c8.desc).map (fun d => d.parameters.length) = some 0 := by decide +kernel
theorem lkJxc12de_init_da8c8_7 : Cond.fieldLink RJxc12de 7 "java/util/AbstractList" (TJx4a65c 0).2.1 (TJx4a65c 0).2.2.1 ∈ wsJxc12de_init_da8c8 := by decide +kernel
theorem inJxc12de_init_da8c8_0 : ∀ w ∈ wsJx4a65c0, w ∈ wsJxc12de_init_da8c8 := fun _ h => List.mem_cons_of_mem _ (List.mem_append_right _ h)
theorem ilJxc12de_init_da8c8_1 : Cond.methodLink RJxc12de 1 yJxa1e45_init_da8c8 ∈ wsJxc12de_init_da8c8 := by decide +kernel
theorem iiJxc12de_init_da8c8_Jxa1e45_init_da8c8 : Cond.initialized yJxa1e45_init_da8c8.cls ∈ wsJxc12de_init_da8c8 := by decide +kernel
theorem ijJxc12de_init_da8c8_Jxa1e45_init_da8c8 : Cond.instanceMethod yJxa1e45_init_da8c8 ∈ wsJxc12de_init_da8c8 := by decide +kernel
def fJxc12de_init_da8c8 (gs : JP) (S : PS) (v0 : Nat) (Q : PS → Prop) : Prop := fJxa1e45_init_da8c8 gs S v0 (fun w1 => chkW (okP w1 v0 0) (bndW (pI w1 0 v0 (0 : Int32)) (fun w6 => Q w6)))
set_option maxRecDepth 100000 in
set_option maxHeartbeats 4000000 in
theorem sJxc12de_init_da8c8 {X : JX} {cI cZ cO cJ : ClassId} {gs : JP} {post : Option Value → va_W → Prop} (hX : jOK X cJxc12de_init_da8c8 1 wsJxc12de_init_da8c8 RJxc12de rmJxc12de_init_da8c8) (hT : jT X = jTy cI cZ cO cJ) (hGX : jG X (GP gs)) (hret : jRV X cJxc12de_init_da8c8 rmJxc12de_init_da8c8 post) (hin0 : jInit X) {Q : PS → Prop} (hro : ∀ (w9 : PS), Q w9 → post none (pW cI cO w9)) {S : PS} {v0 : Nat} (h : fJxc12de_init_da8c8 gs S v0 Q) : JW X 0 0 (pW cI cO S) 0 [(0, .ref v0)] [] := by
  unfold fJxc12de_init_da8c8 at h
  refine jw_aload_n hX dJxc12de_init_da8c8_0 rfl 0 rfl ?_
  refine jw_pI (As := []) hX (GP_ok gs) hGX 0 (kJxa1e45_init_da8c8 hT h) gJxc12de_init_da8c8_Jxa1e45_init_da8c8 rfl ilJxc12de_init_da8c8_1 iiJxc12de_init_da8c8_Jxa1e45_init_da8c8 ijJxc12de_init_da8c8_Jxa1e45_init_da8c8 rfl hdJxa1e45_init_da8c8 ⟨by decide, by decide⟩ rfl (Nat.le_of_ble_eq_true rfl) dJxc12de_init_da8c8_1 rfl rfl ⟨by decide, by decide⟩ (fun w1 h => ?_)
  refine jw_aload_n hX dJxc12de_init_da8c8_4 rfl 0 rfl ?_
  refine jw_iconst (v := (0 : Int32)) hX dJxc12de_init_da8c8_5 (by decide) ?_
  obtain ⟨ho6_2, h⟩ := h
  refine jw_pputID hX hT 0 0 rfl (by decide) (by decide) rfl inJxc12de_init_da8c8_0 rfl lkJxc12de_init_da8c8_7 tyJx4a65c tyJx4a65c_ok nmJx4a65c rfl (by decide +kernel) ho6_2 dJxc12de_init_da8c8_6 (fun w6 e6 => ?_)
  replace h := bndW_use h w6 e6
  clear e6
  exact hret _ _ _ _ _ (by decide) (by decide) dJxc12de_init_da8c8_9 (hro _ h)
set_option maxRecDepth 100000 in
set_option maxHeartbeats 4000000 in
theorem kJxc12de_init_da8c8 {l : Launch} {D : va_G} {tys : List (ClassId × FieldType)} {cI cZ cO cJ : ClassId} {gs : JP} {S : PS} {v0 : Nat} {Q : PS → Prop} (hT : tys = jTy cI cZ cO cJ) (h : fJxc12de_init_da8c8 gs S v0 Q) : CC l (GP gs) D tys yJxc12de_init_da8c8 wsJxc12de_init_da8c8 rmJxc12de_init_da8c8 [.ref v0] (pW cI cO S) (fun ov w2 => ∃ w9 : PS, Q w9 ∧ ov = none ∧ w2 = pW cI cO w9) := by
  refine CC_ofI (cc := cJxc12de_init_da8c8) (maxL := 1) rfl (by decide) rfl (Nat.le_of_ble_eq_true rfl) ?_
  intro X hD hL hT0 hGX hX hin0 rV
  exact sJxc12de_init_da8c8 (post := (fun ov w2 => ∃ w9 : PS, Q w9 ∧ ov = none ∧ w2 = pW cI cO w9)) hX (hT0.trans hT) hGX rV hin0 (fun w9 hq => ⟨w9, hq, rfl, rfl⟩) h
/-! Jx4a65c_init_da8c8 -/
abbrev rmJx4a65c_init_da8c8 : Room := { frames := 3, cells := 0, slots := 0, locals := 80 }
theorem hdJx4a65c_init_da8c8 : yJx4a65c_init_da8c8.cls ≠ "java/lang/invoke/MethodHandle" ∧ yJx4a65c_init_da8c8.cls ≠ "java/lang/invoke/VarHandle" ∧ (parseMethodDescriptor yJx4a65c_init_da8c8.desc).map (fun d => d.parameters.length) = some 0 := by decide +kernel
theorem stJx4a65c_init_da8c8 : Cond.fieldLink RJx4a65c 39 "java/util/ArrayList" "DEFAULTCAPACITY_EMPTY_ELEMENTDATA" "[Ljava/lang/Object;" ∈ wsJx4a65c_init_da8c8 := by decide +kernel
theorem lkJx4a65c_init_da8c8_9 : Cond.fieldLink RJx4a65c 9 RJx4a65c (TJx4a65c 1).2.1 (TJx4a65c 1).2.2.1 ∈ wsJx4a65c_init_da8c8 := by decide +kernel
theorem inJx4a65c_init_da8c8_0 : ∀ w ∈ wsJx4a65c0, w ∈ wsJx4a65c_init_da8c8 := fun _ h => List.mem_cons_of_mem _ (List.mem_append_right _ h)
theorem ilJx4a65c_init_da8c8_1 : Cond.methodLink RJx4a65c 1 yJxc12de_init_da8c8 ∈ wsJx4a65c_init_da8c8 := by decide +kernel
theorem iiJx4a65c_init_da8c8_Jxc12de_init_da8c8 : Cond.initialized yJxc12de_init_da8c8.cls ∈ wsJx4a65c_init_da8c8 := by decide +kernel
theorem ijJx4a65c_init_da8c8_Jxc12de_init_da8c8 : Cond.instanceMethod yJxc12de_init_da8c8 ∈ wsJx4a65c_init_da8c8 := by decide +kernel
def fJx4a65c_init_da8c8 (gs : JP) (S : PS) (v0 : Nat) (Q : PS → Prop) : Prop := fJxc12de_init_da8c8 gs S v0 (fun w1 => chkW (okP w1 v0 0) (bndW (pR w1 1 v0 (some (gs.2.1))) (fun w8 => Q w8)))
set_option maxRecDepth 100000 in
set_option maxHeartbeats 4000000 in
theorem sJx4a65c_init_da8c8 {X : JX} {cI cZ cO cJ : ClassId} {gs : JP} {post : Option Value → va_W → Prop} (hX : jOK X cJx4a65c_init_da8c8 1 wsJx4a65c_init_da8c8 RJx4a65c rmJx4a65c_init_da8c8) (hT : jT X = jTy cI cZ cO cJ) (hGX : jG X (GP gs)) (hret : jRV X cJx4a65c_init_da8c8 rmJx4a65c_init_da8c8 post) (hin0 : jInit X) {Q : PS → Prop} (hro : ∀ (w9 : PS), Q w9 → post none (pW cI cO w9)) {S : PS} {v0 : Nat} (h : fJx4a65c_init_da8c8 gs S v0 Q) : JW X 0 0 (pW cI cO S) 0 [(0, .ref v0)] [] := by
  unfold fJx4a65c_init_da8c8 at h
  refine jw_aload_n hX dJx4a65c_init_da8c8_0 rfl 0 rfl ?_
  refine jw_pI (As := []) hX (GP_ok gs) hGX 0 (kJxc12de_init_da8c8 hT h) gJx4a65c_init_da8c8_Jxc12de_init_da8c8 rfl ilJx4a65c_init_da8c8_1 iiJx4a65c_init_da8c8_Jxc12de_init_da8c8 ijJx4a65c_init_da8c8_Jxc12de_init_da8c8 rfl hdJxc12de_init_da8c8 ⟨by decide, by decide⟩ rfl (Nat.le_of_ble_eq_true rfl) dJx4a65c_init_da8c8_1 rfl rfl ⟨by decide, by decide⟩ (fun w1 h => ?_)
  refine jw_aload_n hX dJx4a65c_init_da8c8_4 rfl 0 rfl ?_
  refine jw_pgetst hX hGX stJx4a65c_init_da8c8 dJx4a65c_init_da8c8_5 ?_
  obtain ⟨ho8_2, h⟩ := h
  refine jw_pputR hX hT 0 1 rfl (by decide) (by decide) rfl inJx4a65c_init_da8c8_0 rfl lkJx4a65c_init_da8c8_9 tyJx4a65c tyJx4a65c_ok nmJx4a65c rfl (ty := tyJx4a65c 1) (by decide +kernel) (Or.inr ⟨_, rfl⟩) ho8_2 dJx4a65c_init_da8c8_8 (fun w8 e8 => ?_)
  replace h := bndW_use h w8 e8
  clear e8
  exact hret _ _ _ _ _ (by decide) (by decide) dJx4a65c_init_da8c8_11 (hro _ h)
set_option maxRecDepth 100000 in
set_option maxHeartbeats 4000000 in
theorem kJx4a65c_init_da8c8 {l : Launch} {D : va_G} {tys : List (ClassId × FieldType)} {cI cZ cO cJ : ClassId} {gs : JP} {S : PS} {v0 : Nat} {Q : PS → Prop} (hT : tys = jTy cI cZ cO cJ) (h : fJx4a65c_init_da8c8 gs S v0 Q) : CC l (GP gs) D tys yJx4a65c_init_da8c8 wsJx4a65c_init_da8c8 rmJx4a65c_init_da8c8 [.ref v0] (pW cI cO S) (fun ov w2 => ∃ w9 : PS, Q w9 ∧ ov = none ∧ w2 = pW cI cO w9) := by
  refine CC_ofI (cc := cJx4a65c_init_da8c8) (maxL := 1) rfl (by decide) rfl (Nat.le_of_ble_eq_true rfl) ?_
  intro X hD hL hT0 hGX hX hin0 rV
  exact sJx4a65c_init_da8c8 (post := (fun ov w2 => ∃ w9 : PS, Q w9 ∧ ov = none ∧ w2 = pW cI cO w9)) hX (hT0.trans hT) hGX rV hin0 (fun w9 hq => ⟨w9, hq, rfl, rfl⟩) h
/-! J7_copyOf_6403c -/
abbrev rmJ7_copyOf_6403c : Room := { frames := 1, cells := 1, slots := 64, locals := 40 }
theorem hdJ7_copyOf_6403c : yJ7_copyOf_6403c.cls ≠ "java/lang/invoke/MethodHandle" ∧ yJ7_copyOf_6403c.cls ≠ "java/lang/invoke/VarHandle" ∧ (parseMethodDescriptor yJ7_copyOf_6403c.desc).map (fun d => d.parameters.length) = some 3 := by decide +kernel
theorem lcJ7_copyOf_6403c : Cond.classLink RJ7 110 "[Ljava/lang/Object;" ∈ wsJ7_copyOf_6403c := by decide +kernel
theorem noJ7_copyOf_6403c : Cond.classLink RJ7 2 "java/lang/Object" ∈ wsJ7_copyOf_6403c := by decide +kernel
theorem mtJ7_copyOf_6403c_min : Cond.methodLink RJ7 304 Lib.Math.min.name ∈ wsJ7_copyOf_6403c ∧ Cond.static Lib.Math.min.name ∈ wsJ7_copyOf_6403c ∧ Cond.initialized "java/lang/Math" ∈ wsJ7_copyOf_6403c ∧ Cond.code Lib.Math.min.name Lib.Math.min.code 2 (some .int) ∈ wsJ7_copyOf_6403c := by decide +kernel
theorem cpJ7_copyOf_6403c : Cond.methodLink RJ7 150 arraycopyName ∈ wsJ7_copyOf_6403c ∧ Cond.native arraycopyName ∈ wsJ7_copyOf_6403c ∧ Cond.static arraycopyName ∈ wsJ7_copyOf_6403c ∧ Cond.initialized "java/lang/System" ∈ wsJ7_copyOf_6403c := by decide +kernel
def fJ7_copyOf_6403c (gs : JP) (S : PS) (v0 : Nat) (v1 : Int32) (v2 : Nat) (Q : Nat → PS → Prop) : Prop := (if v2 = gs.2.2 then chkW (decide (¬ v1 < 0)) (chkW (decide ((v1).toNatClampNeg ≤ 64)) (newO gs.2.1 S (fun q7 => bndW (pNO S q7 (v1).toNatClampNeg (fun _ => none)) (fun z7 => chkW (okE gs.2.1 z7 v0) (chkW (okP z7 v0 10) (chkW (okP z7 q7 10) (chkW (decide (¬ (if v1 < (alenO gs.2.1 z7 v0) then v1 else (alenO gs.2.1 z7 v0)) < 0)) (chkW (decide (((if v1 < (alenO gs.2.1 z7 v0) then v1 else (alenO gs.2.1 z7 v0))).toNatClampNeg ≤ sN z7 v0) && decide (((if v1 < (alenO gs.2.1 z7 v0) then v1 else (alenO gs.2.1 z7 v0))).toNatClampNeg ≤ sN z7 q7)) (andW (allL z7 v0 ((if v1 < (alenO gs.2.1 z7 v0) then v1 else (alenO gs.2.1 z7 v0))).toNatClampNeg) (bndW (cpO z7 v0 q7 ((if v1 < (alenO gs.2.1 z7 v0) then v1 else (alenO gs.2.1 z7 v0))).toNatClampNeg) (fun z35 => Q q7 z35))))))))))) else False)
set_option maxRecDepth 100000 in
set_option maxHeartbeats 4000000 in
theorem sJ7_copyOf_6403c {X : JX} {cI cZ cO cJ : ClassId} {gs : JP} {post : Option Value → va_W → Prop} (hX : jOK X cJ7_copyOf_6403c 4 wsJ7_copyOf_6403c RJ7 rmJ7_copyOf_6403c) (hT : jT X = jTy cI cZ cO cJ) (hGX : jG X (GP gs)) (hret : jRA X cJ7_copyOf_6403c rmJ7_copyOf_6403c post) {Q : Nat → PS → Prop} (hro : ∀ (v9 : Nat) (w9 : PS), Q v9 w9 → post (some (.ref v9)) (pW cI cO w9)) {S : PS} {v0 : Nat} {v1 : Int32} {v2 : Nat} (h : fJ7_copyOf_6403c gs S v0 v1 v2 Q) : JW X 0 0 (pW cI cO S) 0 [(0, .ref v0), (1, .int v1), (2, .ref v2)] [] := by
  unfold fJ7_copyOf_6403c at h
  refine jw_aload_n hX dJ7_copyOf_6403c_0 rfl 2 rfl ?_
  refine jw_ldcM hX hGX lcJ7_copyOf_6403c dJ7_copyOf_6403c_1 ?_
  refine jw_acmp_ne (tgt := 13) hX dJ7_copyOf_6403c_3 (by decide) (fun hc => ?_) (fun hc => ?_)
  · rw [if_neg hc] at h
    refine jw_aload_n hX dJ7_copyOf_6403c_13 rfl 2 rfl ?_
    exact h.elim
  · rw [if_pos hc] at h
    refine jw_iload_n hX dJ7_copyOf_6403c_6 rfl 1 rfl ?_
    obtain ⟨hn7, h⟩ := h
    obtain ⟨hm7, h⟩ := h
    have hm7 := of_decide_eq_true hm7
    have hn7 := of_decide_eq_true hn7
    refine jw_pnewO hX hT hGX noJ7_copyOf_6403c hn7 rfl (by omega) ⟨by decide, by show 0 + _ ≤ 64; omega⟩ dJ7_copyOf_6403c_7 (fun q7 hq7 hqe7 => ?_)
    replace h := newO_use h q7 hq7 hqe7
    refine jw_widen 1 64 (by decide) (Nat.le_trans (Nat.add_le_add_left hm7 _) (Nat.le_of_ble_eq_true rfl)) ?_
    obtain ⟨z7, e7⟩ : ∃ z, z = (pNO S q7 (v1).toNatClampNeg (fun _ => none)) := ⟨_, rfl⟩
    replace h := bndW_use h z7 e7
    rw [← e7]
    clear e7
    refine jw_goto (tgt := 24) hX dJ7_copyOf_6403c_10 (by decide) ?_
    refine jw_astore_n hX [(3, .ref q7), (0, .ref v0), (1, .int v1), (2, .ref v2)] dJ7_copyOf_6403c_24 rfl (by decide) rfl ?_
    refine jw_aload_n hX dJ7_copyOf_6403c_25 rfl 1 rfl ?_
    refine jw_iconst (v := (0 : Int32)) hX dJ7_copyOf_6403c_26 (by decide) ?_
    refine jw_aload_n hX dJ7_copyOf_6403c_27 rfl 0 rfl ?_
    refine jw_iconst (v := (0 : Int32)) hX dJ7_copyOf_6403c_28 (by decide) ?_
    refine jw_aload_n hX dJ7_copyOf_6403c_29 rfl 1 rfl ?_
    obtain ⟨ho30, h⟩ := h
    refine jw_poalenE hX hT hGX ho30 dJ7_copyOf_6403c_30 ?_
    refine jw_iload_n hX dJ7_copyOf_6403c_31 rfl 2 rfl ?_
    refine jw_pmin hX mtJ7_copyOf_6403c_min.1 mtJ7_copyOf_6403c_min.2.1 mtJ7_copyOf_6403c_min.2.2.1 mtJ7_copyOf_6403c_min.2.2.2 (by decide) (Nat.le_of_ble_eq_true rfl) ⟨by decide, by decide⟩ dJ7_copyOf_6403c_32 ?_
    obtain ⟨ho35_10, h⟩ := h
    obtain ⟨ho35_11, h⟩ := h
    obtain ⟨hn35, h⟩ := h
    obtain ⟨hm35, h⟩ := h
    obtain ⟨ha35, h⟩ := h
    have hn35 := of_decide_eq_true hn35
    simp only [Bool.and_eq_true, decide_eq_true_eq] at hm35
    refine jw_pcopy hX hT hGX ho35_10 ho35_11 hn35 hm35.1 hm35.2 ha35 cpJ7_copyOf_6403c.1 cpJ7_copyOf_6403c.2.1 cpJ7_copyOf_6403c.2.2.1 cpJ7_copyOf_6403c.2.2.2 (by decide) (by decide +kernel) dJ7_copyOf_6403c_35 ?_
    obtain ⟨z35, e35⟩ : ∃ z, z = (cpO z7 v0 q7 ((if v1 < (alenO gs.2.1 z7 v0) then v1 else (alenO gs.2.1 z7 v0))).toNatClampNeg) := ⟨_, rfl⟩
    replace h := bndW_use h z35 e35
    rw [← e35]
    clear e35
    refine jw_aload_n hX dJ7_copyOf_6403c_38 rfl 0 rfl ?_
    exact hret _ _ _ _ _ _ (by decide) (by decide) dJ7_copyOf_6403c_39 (hro _ _ h)
set_option maxRecDepth 100000 in
set_option maxHeartbeats 4000000 in
theorem kJ7_copyOf_6403c {l : Launch} {D : va_G} {tys : List (ClassId × FieldType)} {cI cZ cO cJ : ClassId} {gs : JP} {S : PS} {v0 : Nat} {v1 : Int32} {v2 : Nat} {Q : Nat → PS → Prop} (hT : tys = jTy cI cZ cO cJ) (h : fJ7_copyOf_6403c gs S v0 v1 v2 Q) : CC l (GP gs) D tys yJ7_copyOf_6403c wsJ7_copyOf_6403c rmJ7_copyOf_6403c [.ref v0, .int v1, .ref v2] (pW cI cO S) (fun ov w2 => ∃ (r : Nat) (w9 : PS), Q r w9 ∧ ov = some (.ref r) ∧ w2 = pW cI cO w9) := by
  refine CC_of (cc := cJ7_copyOf_6403c) (maxL := 4) (ret := (some (.array (.object "java/lang/Object")))) (by decide) rfl (Nat.le_of_ble_eq_true rfl) ?_
  intro X hD hL hT0 hGX hX rI rZ rV rA
  exact sJ7_copyOf_6403c (post := (fun ov w2 => ∃ (r : Nat) (w9 : PS), Q r w9 ∧ ov = some (.ref r) ∧ w2 = pW cI cO w9)) hX (hT0.trans hT) hGX (fun cells slots w9 pc lv v => rA cells slots w9 pc lv v (Or.inr ⟨_, rfl⟩)) (fun r w9 hq => ⟨r, w9, hq, rfl, rfl⟩) h
/-! J7_copyOf_1904c -/
abbrev rmJ7_copyOf_1904c : Room := { frames := 2, cells := 1, slots := 64, locals := 63 }
theorem hdJ7_copyOf_1904c : yJ7_copyOf_1904c.cls ≠ "java/lang/invoke/MethodHandle" ∧ yJ7_copyOf_1904c.cls ≠ "java/lang/invoke/VarHandle" ∧ (parseMethodDescriptor yJ7_copyOf_1904c.desc).map (fun d => d.parameters.length) = some 2 := by decide +kernel
theorem gcJ7_copyOf_1904c : Cond.methodLink RJ7 86 ⟨"java/lang/Object", "getClass", "()Ljava/lang/Class;"⟩ ∈ wsJ7_copyOf_1904c ∧ Cond.selects "[Ljava/lang/Object;" ⟨"java/lang/Object", "getClass", "()Ljava/lang/Class;"⟩ ⟨"java/lang/Object", "getClass", "()Ljava/lang/Class;"⟩ ∈ wsJ7_copyOf_1904c ∧ Cond.instanceMethod ⟨"java/lang/Object", "getClass", "()Ljava/lang/Class;"⟩ ∈ wsJ7_copyOf_1904c ∧ Cond.native ⟨"java/lang/Object", "getClass", "()Ljava/lang/Class;"⟩ ∈ wsJ7_copyOf_1904c := by decide +kernel
def fJ7_copyOf_1904c (gs : JP) (S : PS) (v0 : Nat) (v1 : Int32) (Q : Nat → PS → Prop) : Prop := chkW (okP S v0 10) (fJ7_copyOf_6403c gs S v0 v1 (gs.2.2) (fun r6 w6 => Q r6 w6))
set_option maxRecDepth 100000 in
set_option maxHeartbeats 4000000 in
theorem sJ7_copyOf_1904c {X : JX} {cI cZ cO cJ : ClassId} {gs : JP} {post : Option Value → va_W → Prop} (hX : jOK X cJ7_copyOf_1904c 2 wsJ7_copyOf_1904c RJ7 rmJ7_copyOf_1904c) (hT : jT X = jTy cI cZ cO cJ) (hGX : jG X (GP gs)) (hret : jRA X cJ7_copyOf_1904c rmJ7_copyOf_1904c post) {Q : Nat → PS → Prop} (hro : ∀ (v9 : Nat) (w9 : PS), Q v9 w9 → post (some (.ref v9)) (pW cI cO w9)) {S : PS} {v0 : Nat} {v1 : Int32} (h : fJ7_copyOf_1904c gs S v0 v1 Q) : JW X 0 0 (pW cI cO S) 0 [(0, .ref v0), (1, .int v1)] [] := by
  unfold fJ7_copyOf_1904c at h
  refine jw_aload_n hX dJ7_copyOf_1904c_0 rfl 0 rfl ?_
  refine jw_iload_n hX dJ7_copyOf_1904c_1 rfl 1 rfl ?_
  refine jw_aload_n hX dJ7_copyOf_1904c_2 rfl 0 rfl ?_
  obtain ⟨ho3_3, h⟩ := h
  refine jw_getC hX hT hGX ho3_3 gcJ7_copyOf_1904c.1 gcJ7_copyOf_1904c.2.1 gcJ7_copyOf_1904c.2.2.1 gcJ7_copyOf_1904c.2.2.2 (by decide) (Nat.le_of_ble_eq_true rfl) dJ7_copyOf_1904c_3 ?_
  refine jw_pSEr (As := [.ref v0, .int v1, .ref gs.2.2]) hX (GP_ok gs) hGX 3 (kJ7_copyOf_6403c hT h) gJ7_copyOf_1904c_J7_copyOf_6403c rfl hdJ7_copyOf_6403c ⟨by decide, by decide⟩ rfl (Nat.le_of_ble_eq_true rfl) dJ7_copyOf_1904c_6 rfl rfl ⟨by decide, by decide⟩ (fun r6 w6 h => ?_)
  exact hret _ _ _ _ _ _ (by decide) (by decide) dJ7_copyOf_1904c_9 (hro _ _ h)
set_option maxRecDepth 100000 in
set_option maxHeartbeats 4000000 in
theorem kJ7_copyOf_1904c {l : Launch} {D : va_G} {tys : List (ClassId × FieldType)} {cI cZ cO cJ : ClassId} {gs : JP} {S : PS} {v0 : Nat} {v1 : Int32} {Q : Nat → PS → Prop} (hT : tys = jTy cI cZ cO cJ) (h : fJ7_copyOf_1904c gs S v0 v1 Q) : CC l (GP gs) D tys yJ7_copyOf_1904c wsJ7_copyOf_1904c rmJ7_copyOf_1904c [.ref v0, .int v1] (pW cI cO S) (fun ov w2 => ∃ (r : Nat) (w9 : PS), Q r w9 ∧ ov = some (.ref r) ∧ w2 = pW cI cO w9) := by
  refine CC_of (cc := cJ7_copyOf_1904c) (maxL := 2) (ret := (some (.array (.object "java/lang/Object")))) (by decide) rfl (Nat.le_of_ble_eq_true rfl) ?_
  intro X hD hL hT0 hGX hX rI rZ rV rA
  exact sJ7_copyOf_1904c (post := (fun ov w2 => ∃ (r : Nat) (w9 : PS), Q r w9 ∧ ov = some (.ref r) ∧ w2 = pW cI cO w9)) hX (hT0.trans hT) hGX (fun cells slots w9 pc lv v => rA cells slots w9 pc lv v (Or.inr ⟨_, rfl⟩)) (fun r w9 hq => ⟨r, w9, hq, rfl, rfl⟩) h
/-! Jx4a65c_grow_92f84 -/
abbrev rmJx4a65c_grow_92f84 : Room := { frames := 3, cells := 1, slots := 64, locals := 84 }
theorem hdJx4a65c_grow_92f84 : yJx4a65c_grow_92f84.cls = RJx4a65c ∧ yJx4a65c_grow_92f84.cls ≠ "java/lang/invoke/MethodHandle" ∧ yJx4a65c_grow_92f84.cls ≠ "java/lang/invoke/VarHandle" ∧ (parseMethodDescriptor yJx4a65c_grow_92f84.desc).map (fun d => d.parameters.length) = some 1 := by decide +kernel
theorem lkJx4a65c_grow_92f84_9 : Cond.fieldLink RJx4a65c 9 RJx4a65c (TJx4a65c 1).2.1 (TJx4a65c 1).2.2.1 ∈ wsJx4a65c_grow_92f84 := by decide +kernel
theorem inJx4a65c_grow_92f84_0 : ∀ w ∈ wsJx4a65c0, w ∈ wsJx4a65c_grow_92f84 := fun _ h => List.mem_cons_of_mem _ (List.mem_append_right _ h)
theorem stJx4a65c_grow_92f84 : Cond.fieldLink RJx4a65c 39 "java/util/ArrayList" "DEFAULTCAPACITY_EMPTY_ELEMENTDATA" "[Ljava/lang/Object;" ∈ wsJx4a65c_grow_92f84 := by decide +kernel
theorem mtJx4a65c_grow_92f84_max : Cond.methodLink RJx4a65c 79 Lib.Math.max.name ∈ wsJx4a65c_grow_92f84 ∧ Cond.static Lib.Math.max.name ∈ wsJx4a65c_grow_92f84 ∧ Cond.initialized "java/lang/Math" ∈ wsJx4a65c_grow_92f84 ∧ Cond.code Lib.Math.max.name Lib.Math.max.code 2 (some .int) ∈ wsJx4a65c_grow_92f84 := by decide +kernel
theorem noJx4a65c_grow_92f84 : Cond.classLink RJx4a65c 7 "java/lang/Object" ∈ wsJx4a65c_grow_92f84 := by decide +kernel
def fJx4a65c_grow_92f84 (gs : JP) (S : PS) (v0 : Nat) (v1 : Int32) (Q : Nat → PS → Prop) : Prop := chkW (okP S v0 0) (bPW (sR S 1 v0) (fun q1 => chkW (okE gs.2.1 S q1) (bndW ((alenO gs.2.1 S q1)) (fun y5 => (if 0 < y5 then bPW (fJ8_newLength_cabcc y5 (v1 - y5) (y5 >>> ((1 : Int32) &&& 31))) (fun r27 => chkW (okP S v0 0) (bPW (sR S 1 v0) (fun q33 => fJ7_copyOf_1904c gs S q33 r27 (fun r37 w37 => chkW (okP w37 v0 0) (bndW (pR w37 1 v0 (some r37)) (fun w41 => Q r37 w41)))))) else chkW (okP S v0 0) (bPW (sR S 1 v0) (fun q11 => (if q11 = gs.2.1 then chkW (decide (¬ (if (10 : Int32) < v1 then v1 else (10 : Int32)) < 0)) (chkW (decide (((if (10 : Int32) < v1 then v1 else (10 : Int32))).toNatClampNeg ≤ 64)) (newO gs.2.1 S (fun q52 => bndW (pNO S q52 ((if (10 : Int32) < v1 then v1 else (10 : Int32))).toNatClampNeg (fun _ => none)) (fun z52 => chkW (okP z52 v0 0) (bndW (pR z52 1 v0 (some q52)) (fun w56 => Q q52 w56)))))) else bPW (fJ8_newLength_cabcc y5 (v1 - y5) (y5 >>> ((1 : Int32) &&& 31))) (fun r27 => chkW (okP S v0 0) (bPW (sR S 1 v0) (fun q33 => fJ7_copyOf_1904c gs S q33 r27 (fun r37 w37 => chkW (okP w37 v0 0) (bndW (pR w37 1 v0 (some r37)) (fun w41 => Q r37 w41))))))))))))))
set_option maxRecDepth 100000 in
set_option maxHeartbeats 4000000 in
theorem sJx4a65c_grow_92f84 {X : JX} {cI cZ cO cJ : ClassId} {gs : JP} {post : Option Value → va_W → Prop} (hX : jOK X cJx4a65c_grow_92f84 4 wsJx4a65c_grow_92f84 RJx4a65c rmJx4a65c_grow_92f84) (hT : jT X = jTy cI cZ cO cJ) (hGX : jG X (GP gs)) (hret : jRA X cJx4a65c_grow_92f84 rmJx4a65c_grow_92f84 post) {Q : Nat → PS → Prop} (hro : ∀ (v9 : Nat) (w9 : PS), Q v9 w9 → post (some (.ref v9)) (pW cI cO w9)) {S : PS} {v0 : Nat} {v1 : Int32} (h : fJx4a65c_grow_92f84 gs S v0 v1 Q) : JW X 0 0 (pW cI cO S) 0 [(0, .ref v0), (1, .int v1)] [] := by
  unfold fJx4a65c_grow_92f84 at h
  refine jw_aload_n hX dJx4a65c_grow_92f84_0 rfl 0 rfl ?_
  obtain ⟨ho1_1, h⟩ := h
  obtain ⟨q1, hr1, h⟩ := h
  refine jw_pgetR hX hT 0 1 rfl (by decide) (by decide) rfl inJx4a65c_grow_92f84_0 rfl lkJx4a65c_grow_92f84_9 ho1_1 hr1 dJx4a65c_grow_92f84_1 ?_
  obtain ⟨ho4, h⟩ := h
  refine jw_poalenE hX hT hGX ho4 dJx4a65c_grow_92f84_4 ?_
  refine jw_topi (fun y5 e5 => ?_)
  replace h := bndW_use h y5 e5
  clear e5
  refine jw_istore_n hX [(2, .int y5), (0, .ref v0), (1, .int v1)] dJx4a65c_grow_92f84_5 rfl (by decide) rfl ?_
  refine jw_iload_n hX dJx4a65c_grow_92f84_6 rfl 0 rfl ?_
  refine jw_if_gt (tgt := 20) hX dJx4a65c_grow_92f84_7 (by decide) (fun hc => ?_) (fun hc => ?_)
  · rw [if_pos hc] at h
    refine jw_iload_n hX dJx4a65c_grow_92f84_20 rfl 0 rfl ?_
    refine jw_iload_n hX dJx4a65c_grow_92f84_21 rfl 2 rfl ?_
    refine jw_iload_n hX dJx4a65c_grow_92f84_22 rfl 0 rfl ?_
    refine jw_isub hX dJx4a65c_grow_92f84_23 ?_
    refine jw_iload_n hX dJx4a65c_grow_92f84_24 rfl 0 rfl ?_
    refine jw_iconst (v := (1 : Int32)) hX dJx4a65c_grow_92f84_25 (by decide) ?_
    refine jw_ishr hX dJx4a65c_grow_92f84_26 ?_
    obtain ⟨r27, hc27, h⟩ := h
    refine jw_cSi (As := [.int y5, .int (v1 - y5), .int (y5 >>> ((1 : Int32) &&& 31))]) hX (GP_ok gs) hGX 3 (kJ8_newLength_cabcc hT hc27) gJx4a65c_grow_92f84_J8_newLength_cabcc rfl hdJ8_newLength_cabcc ⟨by decide, by decide⟩ rfl (Nat.le_of_ble_eq_true rfl) dJx4a65c_grow_92f84_27 rfl rfl ⟨by decide, by decide⟩ ?_
    refine jw_istore_n hX [(3, .int r27), (2, .int y5), (0, .ref v0), (1, .int v1)] dJx4a65c_grow_92f84_30 rfl (by decide) rfl ?_
    refine jw_aload_n hX dJx4a65c_grow_92f84_31 rfl 2 rfl ?_
    refine jw_aload_n hX dJx4a65c_grow_92f84_32 rfl 2 rfl ?_
    obtain ⟨ho33_12, h⟩ := h
    obtain ⟨q33, hr33, h⟩ := h
    refine jw_pgetR hX hT 0 1 rfl (by decide) (by decide) rfl inJx4a65c_grow_92f84_0 rfl lkJx4a65c_grow_92f84_9 ho33_12 hr33 dJx4a65c_grow_92f84_33 ?_
    refine jw_iload_n hX dJx4a65c_grow_92f84_36 rfl 0 rfl ?_
    refine jw_pSEr (As := [.ref q33, .int r27]) hX (GP_ok gs) hGX 2 (kJ7_copyOf_1904c hT h) gJx4a65c_grow_92f84_J7_copyOf_1904c rfl hdJ7_copyOf_1904c ⟨by decide, by decide⟩ rfl (Nat.le_of_ble_eq_true rfl) dJx4a65c_grow_92f84_37 rfl rfl ⟨by decide, by decide⟩ (fun r37 w37 h => ?_)
    refine jw_dup_x1 hX dJx4a65c_grow_92f84_40 rfl rfl ?_
    obtain ⟨ho41_1, h⟩ := h
    refine jw_pputR hX hT 0 1 rfl (by decide) (by decide) rfl inJx4a65c_grow_92f84_0 rfl lkJx4a65c_grow_92f84_9 tyJx4a65c tyJx4a65c_ok nmJx4a65c rfl (ty := tyJx4a65c 1) (by decide +kernel) (Or.inr ⟨_, rfl⟩) ho41_1 dJx4a65c_grow_92f84_41 (fun w41 e41 => ?_)
    replace h := bndW_use h w41 e41
    clear e41
    exact hret _ _ _ _ _ _ (by decide) (by decide) dJx4a65c_grow_92f84_44 (hro _ _ h)
  · rw [if_neg hc] at h
    refine jw_aload_n hX dJx4a65c_grow_92f84_10 rfl 1 rfl ?_
    obtain ⟨ho11_1, h⟩ := h
    obtain ⟨q11, hr11, h⟩ := h
    refine jw_pgetR hX hT 0 1 rfl (by decide) (by decide) rfl inJx4a65c_grow_92f84_0 rfl lkJx4a65c_grow_92f84_9 ho11_1 hr11 dJx4a65c_grow_92f84_11 ?_
    refine jw_pgetst hX hGX stJx4a65c_grow_92f84 dJx4a65c_grow_92f84_14 ?_
    refine jw_acmp_eq (tgt := 45) hX dJx4a65c_grow_92f84_17 (by decide) (fun hc => ?_) (fun hc => ?_)
    · rw [if_pos hc] at h
      refine jw_aload_n hX dJx4a65c_grow_92f84_45 rfl 1 rfl ?_
      refine jw_bipush (v := (10 : Int32)) hX dJx4a65c_grow_92f84_46 (by decide) ?_
      refine jw_iload_n hX dJx4a65c_grow_92f84_48 rfl 2 rfl ?_
      refine jw_umax hX mtJx4a65c_grow_92f84_max.1 mtJx4a65c_grow_92f84_max.2.1 mtJx4a65c_grow_92f84_max.2.2.1 mtJx4a65c_grow_92f84_max.2.2.2 (by decide) (Nat.le_of_ble_eq_true rfl) ⟨by decide, by decide⟩ dJx4a65c_grow_92f84_49 ?_
      obtain ⟨hn52, h⟩ := h
      obtain ⟨hm52, h⟩ := h
      have hm52 := of_decide_eq_true hm52
      have hn52 := of_decide_eq_true hn52
      refine jw_pnewO hX hT hGX noJx4a65c_grow_92f84 hn52 rfl (by omega) ⟨by decide, by show 0 + _ ≤ 64; omega⟩ dJx4a65c_grow_92f84_52 (fun q52 hq52 hqe52 => ?_)
      replace h := newO_use h q52 hq52 hqe52
      refine jw_widen 1 64 (by decide) (Nat.le_trans (Nat.add_le_add_left hm52 _) (Nat.le_of_ble_eq_true rfl)) ?_
      obtain ⟨z52, e52⟩ : ∃ z, z = (pNO S q52 ((if (10 : Int32) < v1 then v1 else (10 : Int32))).toNatClampNeg (fun _ => none)) := ⟨_, rfl⟩
      replace h := bndW_use h z52 e52
      rw [← e52]
      clear e52
      refine jw_dup_x1 hX dJx4a65c_grow_92f84_55 rfl rfl ?_
      obtain ⟨ho56_16, h⟩ := h
      refine jw_pputR hX hT 0 1 rfl (by decide) (by decide) rfl inJx4a65c_grow_92f84_0 rfl lkJx4a65c_grow_92f84_9 tyJx4a65c tyJx4a65c_ok nmJx4a65c rfl (ty := tyJx4a65c 1) (by decide +kernel) (Or.inr ⟨_, rfl⟩) ho56_16 dJx4a65c_grow_92f84_56 (fun w56 e56 => ?_)
      replace h := bndW_use h w56 e56
      clear e56
      exact hret _ _ _ _ _ _ (by decide) (by decide) dJx4a65c_grow_92f84_59 (hro _ _ h)
    · rw [if_neg hc] at h
      refine jw_iload_n hX dJx4a65c_grow_92f84_20 rfl 0 rfl ?_
      refine jw_iload_n hX dJx4a65c_grow_92f84_21 rfl 2 rfl ?_
      refine jw_iload_n hX dJx4a65c_grow_92f84_22 rfl 0 rfl ?_
      refine jw_isub hX dJx4a65c_grow_92f84_23 ?_
      refine jw_iload_n hX dJx4a65c_grow_92f84_24 rfl 0 rfl ?_
      refine jw_iconst (v := (1 : Int32)) hX dJx4a65c_grow_92f84_25 (by decide) ?_
      refine jw_ishr hX dJx4a65c_grow_92f84_26 ?_
      obtain ⟨r27, hc27, h⟩ := h
      refine jw_cSi (As := [.int y5, .int (v1 - y5), .int (y5 >>> ((1 : Int32) &&& 31))]) hX (GP_ok gs) hGX 3 (kJ8_newLength_cabcc hT hc27) gJx4a65c_grow_92f84_J8_newLength_cabcc rfl hdJ8_newLength_cabcc ⟨by decide, by decide⟩ rfl (Nat.le_of_ble_eq_true rfl) dJx4a65c_grow_92f84_27 rfl rfl ⟨by decide, by decide⟩ ?_
      refine jw_istore_n hX [(3, .int r27), (2, .int y5), (0, .ref v0), (1, .int v1)] dJx4a65c_grow_92f84_30 rfl (by decide) rfl ?_
      refine jw_aload_n hX dJx4a65c_grow_92f84_31 rfl 2 rfl ?_
      refine jw_aload_n hX dJx4a65c_grow_92f84_32 rfl 2 rfl ?_
      obtain ⟨ho33_12, h⟩ := h
      obtain ⟨q33, hr33, h⟩ := h
      refine jw_pgetR hX hT 0 1 rfl (by decide) (by decide) rfl inJx4a65c_grow_92f84_0 rfl lkJx4a65c_grow_92f84_9 ho33_12 hr33 dJx4a65c_grow_92f84_33 ?_
      refine jw_iload_n hX dJx4a65c_grow_92f84_36 rfl 0 rfl ?_
      refine jw_pSEr (As := [.ref q33, .int r27]) hX (GP_ok gs) hGX 2 (kJ7_copyOf_1904c hT h) gJx4a65c_grow_92f84_J7_copyOf_1904c rfl hdJ7_copyOf_1904c ⟨by decide, by decide⟩ rfl (Nat.le_of_ble_eq_true rfl) dJx4a65c_grow_92f84_37 rfl rfl ⟨by decide, by decide⟩ (fun r37 w37 h => ?_)
      refine jw_dup_x1 hX dJx4a65c_grow_92f84_40 rfl rfl ?_
      obtain ⟨ho41_1, h⟩ := h
      refine jw_pputR hX hT 0 1 rfl (by decide) (by decide) rfl inJx4a65c_grow_92f84_0 rfl lkJx4a65c_grow_92f84_9 tyJx4a65c tyJx4a65c_ok nmJx4a65c rfl (ty := tyJx4a65c 1) (by decide +kernel) (Or.inr ⟨_, rfl⟩) ho41_1 dJx4a65c_grow_92f84_41 (fun w41 e41 => ?_)
      replace h := bndW_use h w41 e41
      clear e41
      exact hret _ _ _ _ _ _ (by decide) (by decide) dJx4a65c_grow_92f84_44 (hro _ _ h)
set_option maxRecDepth 100000 in
set_option maxHeartbeats 4000000 in
theorem kJx4a65c_grow_92f84 {l : Launch} {D : va_G} {tys : List (ClassId × FieldType)} {cI cZ cO cJ : ClassId} {gs : JP} {S : PS} {v0 : Nat} {v1 : Int32} {Q : Nat → PS → Prop} (hT : tys = jTy cI cZ cO cJ) (h : fJx4a65c_grow_92f84 gs S v0 v1 Q) : CC l (GP gs) D tys yJx4a65c_grow_92f84 wsJx4a65c_grow_92f84 rmJx4a65c_grow_92f84 [.ref v0, .int v1] (pW cI cO S) (fun ov w2 => ∃ (r : Nat) (w9 : PS), Q r w9 ∧ ov = some (.ref r) ∧ w2 = pW cI cO w9) := by
  refine CC_of (cc := cJx4a65c_grow_92f84) (maxL := 4) (ret := (some (.array (.object "java/lang/Object")))) (by decide) rfl (Nat.le_of_ble_eq_true rfl) ?_
  intro X hD hL hT0 hGX hX rI rZ rV rA
  exact sJx4a65c_grow_92f84 (post := (fun ov w2 => ∃ (r : Nat) (w9 : PS), Q r w9 ∧ ov = some (.ref r) ∧ w2 = pW cI cO w9)) hX (hT0.trans hT) hGX (fun cells slots w9 pc lv v => rA cells slots w9 pc lv v (Or.inr ⟨_, rfl⟩)) (fun r w9 hq => ⟨r, w9, hq, rfl, rfl⟩) h
/-! Jx4a65c_grow_d5877 -/
abbrev rmJx4a65c_grow_d5877 : Room := { frames := 4, cells := 1, slots := 64, locals := 107 }
theorem hdJx4a65c_grow_d5877 : yJx4a65c_grow_d5877.cls = RJx4a65c ∧ yJx4a65c_grow_d5877.cls ≠ "java/lang/invoke/MethodHandle" ∧ yJx4a65c_grow_d5877.cls ≠ "java/lang/invoke/VarHandle" ∧ (parseMethodDescriptor yJx4a65c_grow_d5877.desc).map (fun d => d.parameters.length) = some 0 := by decide +kernel
theorem lkJx4a65c_grow_d5877_48 : Cond.fieldLink RJx4a65c 48 RJx4a65c (TJx4a65c 2).2.1 (TJx4a65c 2).2.2.1 ∈ wsJx4a65c_grow_d5877 := by decide +kernel
theorem inJx4a65c_grow_d5877_0 : ∀ w ∈ wsJx4a65c0, w ∈ wsJx4a65c_grow_d5877 := fun _ h => List.mem_cons_of_mem _ (List.mem_append_right _ h)
def fJx4a65c_grow_d5877 (gs : JP) (S : PS) (v0 : Nat) (Q : Nat → PS → Prop) : Prop := chkW (okP S v0 0) (chkW (okP S v0 0) (fJx4a65c_grow_92f84 gs S v0 ((sI S 2 v0) + (1 : Int32)) (fun r7 w7 => Q r7 w7)))
set_option maxRecDepth 100000 in
set_option maxHeartbeats 4000000 in
theorem sJx4a65c_grow_d5877 {X : JX} {cI cZ cO cJ : ClassId} {gs : JP} {post : Option Value → va_W → Prop} (hX : jOK X cJx4a65c_grow_d5877 1 wsJx4a65c_grow_d5877 RJx4a65c rmJx4a65c_grow_d5877) (hT : jT X = jTy cI cZ cO cJ) (hGX : jG X (GP gs)) (hret : jRA X cJx4a65c_grow_d5877 rmJx4a65c_grow_d5877 post) {Q : Nat → PS → Prop} (hro : ∀ (v9 : Nat) (w9 : PS), Q v9 w9 → post (some (.ref v9)) (pW cI cO w9)) {S : PS} {v0 : Nat} (h : fJx4a65c_grow_d5877 gs S v0 Q) : JW X 0 0 (pW cI cO S) 0 [(0, .ref v0)] [] := by
  unfold fJx4a65c_grow_d5877 at h
  refine jw_aload_n hX dJx4a65c_grow_d5877_0 rfl 0 rfl ?_
  refine jw_aload_n hX dJx4a65c_grow_d5877_1 rfl 0 rfl ?_
  obtain ⟨ho2_2, h⟩ := h
  refine jw_pgetI hX hT 0 2 rfl (by decide) (by decide) rfl inJx4a65c_grow_d5877_0 rfl lkJx4a65c_grow_d5877_48 ho2_2 dJx4a65c_grow_d5877_2 ?_
  refine jw_iconst (v := (1 : Int32)) hX dJx4a65c_grow_d5877_5 (by decide) ?_
  refine jw_iadd hX dJx4a65c_grow_d5877_6 ?_
  obtain ⟨ho7_6, h⟩ := h
  refine jw_pVEr (As := [.int ((sI S 2 v0) + (1 : Int32))]) hX (GP_ok gs) hGX 1 (kJx4a65c_grow_92f84 hT h) gJx4a65c_grow_d5877_Jx4a65c_grow_92f84 rfl hdJx4a65c_grow_92f84 ⟨by decide, by decide⟩ 0 rfl (by decide) ho7_6 rfl (Nat.le_of_ble_eq_true rfl) dJx4a65c_grow_d5877_7 rfl rfl ⟨by decide, by decide⟩ (fun r7 w7 h => ?_)
  exact hret _ _ _ _ _ _ (by decide) (by decide) dJx4a65c_grow_d5877_10 (hro _ _ h)
set_option maxRecDepth 100000 in
set_option maxHeartbeats 4000000 in
theorem kJx4a65c_grow_d5877 {l : Launch} {D : va_G} {tys : List (ClassId × FieldType)} {cI cZ cO cJ : ClassId} {gs : JP} {S : PS} {v0 : Nat} {Q : Nat → PS → Prop} (hT : tys = jTy cI cZ cO cJ) (h : fJx4a65c_grow_d5877 gs S v0 Q) : CC l (GP gs) D tys yJx4a65c_grow_d5877 wsJx4a65c_grow_d5877 rmJx4a65c_grow_d5877 [.ref v0] (pW cI cO S) (fun ov w2 => ∃ (r : Nat) (w9 : PS), Q r w9 ∧ ov = some (.ref r) ∧ w2 = pW cI cO w9) := by
  refine CC_of (cc := cJx4a65c_grow_d5877) (maxL := 1) (ret := (some (.array (.object "java/lang/Object")))) (by decide) rfl (Nat.le_of_ble_eq_true rfl) ?_
  intro X hD hL hT0 hGX hX rI rZ rV rA
  exact sJx4a65c_grow_d5877 (post := (fun ov w2 => ∃ (r : Nat) (w9 : PS), Q r w9 ∧ ov = some (.ref r) ∧ w2 = pW cI cO w9)) hX (hT0.trans hT) hGX (fun cells slots w9 pc lv v => rA cells slots w9 pc lv v (Or.inr ⟨_, rfl⟩)) (fun r w9 hq => ⟨r, w9, hq, rfl, rfl⟩) h
/-! Jx4a65c_add_72be8 -/
abbrev rmJx4a65c_add_72be8 : Room := { frames := 5, cells := 1, slots := 64, locals := 127 }
theorem hdJx4a65c_add_72be8 : yJx4a65c_add_72be8.cls = RJx4a65c ∧ yJx4a65c_add_72be8.cls ≠ "java/lang/invoke/MethodHandle" ∧ yJx4a65c_add_72be8.cls ≠ "java/lang/invoke/VarHandle" ∧ (parseMethodDescriptor yJx4a65c_add_72be8.desc).map (fun d => d.parameters.length) = some 3 := by decide +kernel
theorem lkJx4a65c_add_72be8_48 : Cond.fieldLink RJx4a65c 48 RJx4a65c (TJx4a65c 2).2.1 (TJx4a65c 2).2.2.1 ∈ wsJx4a65c_add_72be8 := by decide +kernel
theorem inJx4a65c_add_72be8_0 : ∀ w ∈ wsJx4a65c0, w ∈ wsJx4a65c_add_72be8 := fun _ h => List.mem_cons_of_mem _ (List.mem_append_right _ h)
def fJx4a65c_add_72be8 (gs : JP) (S : PS) (v0 : Nat) (v1 : Nat) (v2 : Nat) (v3 : Int32) (Q : PS → Prop) : Prop := chkW (okE gs.2.1 S v2) ((if v3 = (alenO gs.2.1 S v2) then chkW (okP S v0 0) (fJx4a65c_grow_d5877 gs S v0 (fun r7 w7 => chkW (okP w7 r7 10) (chkW (inB v3 (sN w7 r7)) (chkW (okL w7 v1) (bndW (pO w7 r7 (v3).toNatClampNeg (some v1)) (fun w14 => chkW (okP w14 v0 0) (bndW (pI w14 2 v0 (v3 + (1 : Int32))) (fun w19 => Q w19)))))))) else chkW (okP S v2 10) (chkW (inB v3 (sN S v2)) (chkW (okL S v1) (bndW (pO S v2 (v3).toNatClampNeg (some v1)) (fun w14 => chkW (okP w14 v0 0) (bndW (pI w14 2 v0 (v3 + (1 : Int32))) (fun w19 => Q w19))))))))
set_option maxRecDepth 100000 in
set_option maxHeartbeats 4000000 in
theorem sJx4a65c_add_72be8 {X : JX} {cI cZ cO cJ : ClassId} {gs : JP} {post : Option Value → va_W → Prop} (hX : jOK X cJx4a65c_add_72be8 4 wsJx4a65c_add_72be8 RJx4a65c rmJx4a65c_add_72be8) (hT : jT X = jTy cI cZ cO cJ) (hGX : jG X (GP gs)) (hret : jRV X cJx4a65c_add_72be8 rmJx4a65c_add_72be8 post) {Q : PS → Prop} (hro : ∀ (w9 : PS), Q w9 → post none (pW cI cO w9)) {S : PS} {v0 : Nat} {v1 : Nat} {v2 : Nat} {v3 : Int32} (h : fJx4a65c_add_72be8 gs S v0 v1 v2 v3 Q) : JW X 0 0 (pW cI cO S) 0 [(0, .ref v0), (1, .ref v1), (2, .ref v2), (3, .int v3)] [] := by
  unfold fJx4a65c_add_72be8 at h
  refine jw_iload_n hX dJx4a65c_add_72be8_0 rfl 3 rfl ?_
  refine jw_aload_n hX dJx4a65c_add_72be8_1 rfl 2 rfl ?_
  obtain ⟨ho2, h⟩ := h
  refine jw_poalenE hX hT hGX ho2 dJx4a65c_add_72be8_2 ?_
  refine jw_icmp_ne (tgt := 11) hX dJx4a65c_add_72be8_3 (by decide) (fun hc => ?_) (fun hc => ?_)
  · rw [if_neg hc] at h
    refine jw_widen 1 64 (by decide) (by decide) ?_
    refine jw_aload_n hX dJx4a65c_add_72be8_11 rfl 2 rfl ?_
    refine jw_iload_n hX dJx4a65c_add_72be8_12 rfl 3 rfl ?_
    refine jw_aload_n hX dJx4a65c_add_72be8_13 rfl 1 rfl ?_
    obtain ⟨ho14_3, h⟩ := h
    obtain ⟨hb14, h⟩ := h
    obtain ⟨hz14, h⟩ := h
    refine jw_paast hX hT hGX ho14_3 hb14 hz14 dJx4a65c_add_72be8_14 (fun w14 e14 => ?_)
    replace h := bndW_use h w14 e14
    clear e14
    refine jw_aload_n hX dJx4a65c_add_72be8_15 rfl 0 rfl ?_
    refine jw_iload_n hX dJx4a65c_add_72be8_16 rfl 3 rfl ?_
    refine jw_iconst (v := (1 : Int32)) hX dJx4a65c_add_72be8_17 (by decide) ?_
    refine jw_iadd hX dJx4a65c_add_72be8_18 ?_
    obtain ⟨ho19_13, h⟩ := h
    refine jw_pputI hX hT 0 2 rfl (by decide) (by decide) rfl inJx4a65c_add_72be8_0 rfl lkJx4a65c_add_72be8_48 tyJx4a65c tyJx4a65c_ok nmJx4a65c rfl (by decide +kernel) ho19_13 dJx4a65c_add_72be8_19 (fun w19 e19 => ?_)
    replace h := bndW_use h w19 e19
    clear e19
    exact hret _ _ _ _ _ (by decide) (by decide) dJx4a65c_add_72be8_22 (hro _ h)
  · rw [if_pos hc] at h
    refine jw_aload_n hX dJx4a65c_add_72be8_6 rfl 0 rfl ?_
    obtain ⟨ho7_1, h⟩ := h
    refine jw_pVEr (As := []) hX (GP_ok gs) hGX 0 (kJx4a65c_grow_d5877 hT h) gJx4a65c_add_72be8_Jx4a65c_grow_d5877 rfl hdJx4a65c_grow_d5877 ⟨by decide, by decide⟩ 0 rfl (by decide) ho7_1 rfl (Nat.le_of_ble_eq_true rfl) dJx4a65c_add_72be8_7 rfl rfl ⟨by decide, by decide⟩ (fun r7 w7 h => ?_)
    refine jw_astore_n hX [(2, .ref r7), (0, .ref v0), (1, .ref v1), (3, .int v3)] dJx4a65c_add_72be8_10 rfl (by decide) rfl ?_
    refine jw_aload_n hX dJx4a65c_add_72be8_11 rfl 0 rfl ?_
    refine jw_iload_n hX dJx4a65c_add_72be8_12 rfl 3 rfl ?_
    refine jw_aload_n hX dJx4a65c_add_72be8_13 rfl 2 rfl ?_
    obtain ⟨ho14_4, h⟩ := h
    obtain ⟨hb14, h⟩ := h
    obtain ⟨hz14, h⟩ := h
    refine jw_paast hX hT hGX ho14_4 hb14 hz14 dJx4a65c_add_72be8_14 (fun w14 e14 => ?_)
    replace h := bndW_use h w14 e14
    clear e14
    refine jw_aload_n hX dJx4a65c_add_72be8_15 rfl 1 rfl ?_
    refine jw_iload_n hX dJx4a65c_add_72be8_16 rfl 3 rfl ?_
    refine jw_iconst (v := (1 : Int32)) hX dJx4a65c_add_72be8_17 (by decide) ?_
    refine jw_iadd hX dJx4a65c_add_72be8_18 ?_
    obtain ⟨ho19_14, h⟩ := h
    refine jw_pputI hX hT 0 2 rfl (by decide) (by decide) rfl inJx4a65c_add_72be8_0 rfl lkJx4a65c_add_72be8_48 tyJx4a65c tyJx4a65c_ok nmJx4a65c rfl (by decide +kernel) ho19_14 dJx4a65c_add_72be8_19 (fun w19 e19 => ?_)
    replace h := bndW_use h w19 e19
    clear e19
    exact hret _ _ _ _ _ (by decide) (by decide) dJx4a65c_add_72be8_22 (hro _ h)
set_option maxRecDepth 100000 in
set_option maxHeartbeats 4000000 in
theorem kJx4a65c_add_72be8 {l : Launch} {D : va_G} {tys : List (ClassId × FieldType)} {cI cZ cO cJ : ClassId} {gs : JP} {S : PS} {v0 : Nat} {v1 : Nat} {v2 : Nat} {v3 : Int32} {Q : PS → Prop} (hT : tys = jTy cI cZ cO cJ) (h : fJx4a65c_add_72be8 gs S v0 v1 v2 v3 Q) : CC l (GP gs) D tys yJx4a65c_add_72be8 wsJx4a65c_add_72be8 rmJx4a65c_add_72be8 [.ref v0, .ref v1, .ref v2, .int v3] (pW cI cO S) (fun ov w2 => ∃ w9 : PS, Q w9 ∧ ov = none ∧ w2 = pW cI cO w9) := by
  refine CC_of (cc := cJx4a65c_add_72be8) (maxL := 4) (ret := none) (by decide) rfl (Nat.le_of_ble_eq_true rfl) ?_
  intro X hD hL hT0 hGX hX rI rZ rV rA
  exact sJx4a65c_add_72be8 (post := (fun ov w2 => ∃ w9 : PS, Q w9 ∧ ov = none ∧ w2 = pW cI cO w9)) hX (hT0.trans hT) hGX (fun cells slots w9 pc lv => rV cells slots w9 pc lv rfl) (fun w9 hq => ⟨w9, hq, rfl, rfl⟩) h
/-! Jx4a65c_add_9ea2d -/
abbrev rmJx4a65c_add_9ea2d : Room := { frames := 6, cells := 1, slots := 64, locals := 150 }
theorem hdJx4a65c_add_9ea2d : yJx4a65c_add_9ea2d.cls = RJx4a65c ∧ yJx4a65c_add_9ea2d.cls ≠ "java/lang/invoke/MethodHandle" ∧ yJx4a65c_add_9ea2d.cls ≠ "java/lang/invoke/VarHandle" ∧ (parseMethodDescriptor yJx4a65c_add_9ea2d.desc).map (fun d => d.parameters.length) = some 1 := by decide +kernel
theorem lkJx4a65c_add_9ea2d_63 : Cond.fieldLink RJx4a65c 63 "java/util/ArrayList" (TJx4a65c 0).2.1 (TJx4a65c 0).2.2.1 ∈ wsJx4a65c_add_9ea2d := by decide +kernel
theorem smJx4a65c_add_9ea2d_63 : Cond.sameField "java/util/ArrayList" (TJx4a65c 0).1 (TJx4a65c 0).2.1 (TJx4a65c 0).2.2.1 ∈ wsJx4a65c_add_9ea2d := by decide +kernel
theorem inJx4a65c_add_9ea2d_0 : ∀ w ∈ wsJx4a65c0, w ∈ wsJx4a65c_add_9ea2d := fun _ h => List.mem_cons_of_mem _ (List.mem_append_right _ h)
theorem lkJx4a65c_add_9ea2d_9 : Cond.fieldLink RJx4a65c 9 RJx4a65c (TJx4a65c 1).2.1 (TJx4a65c 1).2.2.1 ∈ wsJx4a65c_add_9ea2d := by decide +kernel
theorem lkJx4a65c_add_9ea2d_48 : Cond.fieldLink RJx4a65c 48 RJx4a65c (TJx4a65c 2).2.1 (TJx4a65c 2).2.2.1 ∈ wsJx4a65c_add_9ea2d := by decide +kernel
def fJx4a65c_add_9ea2d (gs : JP) (S : PS) (v0 : Nat) (v1 : Nat) (Q : Int32 → PS → Prop) : Prop := chkW (okP S v0 0) (chkW (okP S v0 0) (bndW (pI S 0 v0 ((sI S 0 v0) + (1 : Int32))) (fun w7 => chkW (okP w7 v0 0) (bPW (sR w7 1 v0) (fun q13 => chkW (okP w7 v0 0) (chkW (okP w7 v0 0) (fJx4a65c_add_72be8 gs w7 v0 v1 q13 (sI w7 2 v0) (fun w20 => chkW (b01 (1 : Int32)) (Q (1 : Int32) w20)))))))))
set_option maxRecDepth 100000 in
set_option maxHeartbeats 4000000 in
theorem sJx4a65c_add_9ea2d {X : JX} {cI cZ cO cJ : ClassId} {gs : JP} {post : Option Value → va_W → Prop} (hX : jOK X cJx4a65c_add_9ea2d 2 wsJx4a65c_add_9ea2d RJx4a65c rmJx4a65c_add_9ea2d) (hT : jT X = jTy cI cZ cO cJ) (hGX : jG X (GP gs)) (hret : jRZ X cJx4a65c_add_9ea2d rmJx4a65c_add_9ea2d post) {Q : Int32 → PS → Prop} (hro : ∀ (v9 : Int32) (w9 : PS), Q v9 w9 → post (some (.int v9)) (pW cI cO w9)) {S : PS} {v0 : Nat} {v1 : Nat} (h : fJx4a65c_add_9ea2d gs S v0 v1 Q) : JW X 0 0 (pW cI cO S) 0 [(0, .ref v0), (1, .ref v1)] [] := by
  unfold fJx4a65c_add_9ea2d at h
  refine jw_aload_n hX dJx4a65c_add_9ea2d_0 rfl 0 rfl ?_
  refine jw_dup hX dJx4a65c_add_9ea2d_1 rfl ?_
  obtain ⟨ho2_2, h⟩ := h
  refine jw_pgetIS hX hT 0 0 rfl (by decide) (by decide) rfl inJx4a65c_add_9ea2d_0 lkJx4a65c_add_9ea2d_63 smJx4a65c_add_9ea2d_63 ho2_2 dJx4a65c_add_9ea2d_2 ?_
  refine jw_iconst (v := (1 : Int32)) hX dJx4a65c_add_9ea2d_5 (by decide) ?_
  refine jw_iadd hX dJx4a65c_add_9ea2d_6 ?_
  obtain ⟨ho7_6, h⟩ := h
  refine jw_pputIS hX hT 0 0 rfl (by decide) (by decide) rfl inJx4a65c_add_9ea2d_0 lkJx4a65c_add_9ea2d_63 smJx4a65c_add_9ea2d_63 tyJx4a65c tyJx4a65c_ok nmJx4a65c rfl (by decide +kernel) ho7_6 dJx4a65c_add_9ea2d_7 (fun w7 e7 => ?_)
  replace h := bndW_use h w7 e7
  clear e7
  refine jw_aload_n hX dJx4a65c_add_9ea2d_10 rfl 0 rfl ?_
  refine jw_aload_n hX dJx4a65c_add_9ea2d_11 rfl 1 rfl ?_
  refine jw_aload_n hX dJx4a65c_add_9ea2d_12 rfl 0 rfl ?_
  obtain ⟨ho13_13, h⟩ := h
  obtain ⟨q13, hr13, h⟩ := h
  refine jw_pgetR hX hT 0 1 rfl (by decide) (by decide) rfl inJx4a65c_add_9ea2d_0 rfl lkJx4a65c_add_9ea2d_9 ho13_13 hr13 dJx4a65c_add_9ea2d_13 ?_
  refine jw_aload_n hX dJx4a65c_add_9ea2d_16 rfl 0 rfl ?_
  obtain ⟨ho17_17, h⟩ := h
  refine jw_pgetI hX hT 0 2 rfl (by decide) (by decide) rfl inJx4a65c_add_9ea2d_0 rfl lkJx4a65c_add_9ea2d_48 ho17_17 dJx4a65c_add_9ea2d_17 ?_
  obtain ⟨ho20_19, h⟩ := h
  refine jw_pVEv (As := [.ref v1, .ref q13, .int (sI w7 2 v0)]) hX (GP_ok gs) hGX 3 (kJx4a65c_add_72be8 hT h) gJx4a65c_add_9ea2d_Jx4a65c_add_72be8 rfl hdJx4a65c_add_72be8 ⟨by decide, by decide⟩ 0 rfl (by decide) ho20_19 rfl (Nat.le_of_ble_eq_true rfl) dJx4a65c_add_9ea2d_20 rfl rfl ⟨by decide, by decide⟩ (fun w20 h => ?_)
  refine jw_iconst (v := (1 : Int32)) hX dJx4a65c_add_9ea2d_23 (by decide) ?_
  obtain ⟨hz24, h⟩ := h
  exact hret _ _ _ _ _ _ (b01_or hz24) (by decide) (by decide) dJx4a65c_add_9ea2d_24 (hro _ _ h)
set_option maxRecDepth 100000 in
set_option maxHeartbeats 4000000 in
theorem kJx4a65c_add_9ea2d {l : Launch} {D : va_G} {tys : List (ClassId × FieldType)} {cI cZ cO cJ : ClassId} {gs : JP} {S : PS} {v0 : Nat} {v1 : Nat} {Q : Int32 → PS → Prop} (hT : tys = jTy cI cZ cO cJ) (h : fJx4a65c_add_9ea2d gs S v0 v1 Q) : CC l (GP gs) D tys yJx4a65c_add_9ea2d wsJx4a65c_add_9ea2d rmJx4a65c_add_9ea2d [.ref v0, .ref v1] (pW cI cO S) (fun ov w2 => ∃ (r : Int32) (w9 : PS), Q r w9 ∧ ov = some (.int r) ∧ w2 = pW cI cO w9) := by
  refine CC_of (cc := cJx4a65c_add_9ea2d) (maxL := 2) (ret := (some .boolean)) (by decide) rfl (Nat.le_of_ble_eq_true rfl) ?_
  intro X hD hL hT0 hGX hX rI rZ rV rA
  exact sJx4a65c_add_9ea2d (post := (fun ov w2 => ∃ (r : Int32) (w9 : PS), Q r w9 ∧ ov = some (.int r) ∧ w2 = pW cI cO w9)) hX (hT0.trans hT) hGX (fun cells slots w9 pc lv v => rZ cells slots w9 pc lv v rfl) (fun r w9 hq => ⟨r, w9, hq, rfl, rfl⟩) h
/-! X6_init -/
abbrev rmX6_init : Room := { frames := 4, cells := 8, slots := 735, locals := 100 }
theorem hdX6_init : yX6_init.cls ≠ "java/lang/invoke/MethodHandle" ∧ yX6_init.cls ≠ "java/lang/invoke/VarHandle" ∧ (parseMethodDescriptor yX6_init.desc).map (fun d => d.parameters.length) = some 0 := by decide +kernel
theorem obX6_init : Cond.methodLink RX6 3 Lib.objectInit ∈ wsX6_init := by decide +kernel
theorem ocX6_init : Cond.instanceMethod Lib.objectInit ∈ wsX6_init := by decide +kernel
theorem odX6_init : Cond.code Lib.objectInit ⟨#[0xb1]⟩ 1 none ∈ wsX6_init := by decide +kernel
theorem nlX6_init_9 : Cond.classLink RX6 9 RX4 ∈ wsX6_init := by decide +kernel
theorem niX6_init_5 : Cond.instantiable RX4 2 ∈ wsX6_init := by decide +kernel
theorem njX6_init_5 : Cond.initialized RX4 ∈ wsX6_init := by decide +kernel
theorem inX6_init_5 : ∀ w ∈ wsX40, w ∈ wsX6_init := fun _ h => List.mem_cons_of_mem _ (List.mem_append_left _ (List.mem_append_left _ (List.mem_append_left _ (List.mem_append_right _ h))))
theorem lkX6_init_14 : Cond.fieldLink RX6 14 RX6 (TX6 0).2.1 (TX6 0).2.2.1 ∈ wsX6_init := by decide +kernel
theorem inX6_init_6 : ∀ w ∈ wsX60, w ∈ wsX6_init := fun _ h => List.mem_cons_of_mem _ (List.mem_append_left _ (List.mem_append_left _ (List.mem_append_right _ h)))
theorem lkX6_init_18 : Cond.fieldLink RX6 18 RX6 (TX6 1).2.1 (TX6 1).2.2.1 ∈ wsX6_init := by decide +kernel
theorem nlX6_init_21 : Cond.classLink RX6 21 RX2 ∈ wsX6_init := by decide +kernel
theorem niX6_init_3 : Cond.instantiable RX2 2 ∈ wsX6_init := by decide +kernel
theorem njX6_init_3 : Cond.initialized RX2 ∈ wsX6_init := by decide +kernel
theorem inX6_init_3 : ∀ w ∈ wsX20, w ∈ wsX6_init := fun _ h => List.mem_cons_of_mem _ (List.mem_append_left _ (List.mem_append_right _ h))
theorem lkX6_init_24 : Cond.fieldLink RX6 24 RX6 (TX6 2).2.1 (TX6 2).2.2.1 ∈ wsX6_init := by decide +kernel
theorem nlX6_init_28 : Cond.classLink RX6 28 RJx4a65c ∈ wsX6_init := by decide +kernel
theorem niX6_init_0 : Cond.instantiable RJx4a65c 3 ∈ wsX6_init := by decide +kernel
theorem njX6_init_0 : Cond.initialized RJx4a65c ∈ wsX6_init := by decide +kernel
theorem inX6_init_0 : ∀ w ∈ wsJx4a65c0, w ∈ wsX6_init := fun _ h => List.mem_cons_of_mem _ (List.mem_append_right _ h)
theorem lkX6_init_31 : Cond.fieldLink RX6 31 RX6 (TX6 3).2.1 (TX6 3).2.2.1 ∈ wsX6_init := by decide +kernel
theorem lkX6_init_35 : Cond.fieldLink RX6 35 RX6 (TX6 4).2.1 (TX6 4).2.2.1 ∈ wsX6_init := by decide +kernel
theorem lkX6_init_38 : Cond.fieldLink RX6 38 RX6 (TX6 5).2.1 (TX6 5).2.2.1 ∈ wsX6_init := by decide +kernel
theorem ilX6_init_30 : Cond.methodLink RX6 30 yJx4a65c_init_da8c8 ∈ wsX6_init := by decide +kernel
theorem iiX6_init_Jx4a65c_init_da8c8 : Cond.initialized yJx4a65c_init_da8c8.cls ∈ wsX6_init := by decide +kernel
theorem ijX6_init_Jx4a65c_init_da8c8 : Cond.instanceMethod yJx4a65c_init_da8c8 ∈ wsX6_init := by decide +kernel
theorem iiX6_init_X2_init : Cond.initialized yX2_init.cls ∈ wsX6_init := by decide +kernel
theorem ijX6_init_X2_init : Cond.instanceMethod yX2_init ∈ wsX6_init := by decide +kernel
theorem ilX6_init_11 : Cond.methodLink RX6 11 yX4_init ∈ wsX6_init := by decide +kernel
theorem iiX6_init_X4_init : Cond.initialized yX4_init.cls ∈ wsX6_init := by decide +kernel
theorem ijX6_init_X4_init : Cond.instanceMethod yX4_init ∈ wsX6_init := by decide +kernel
def fX6_init (gs : JP) (S : PS) (v0 : Nat) (Q : PS → Prop) : Prop := newW S (fun q5 => bndW (pNw S q5 5) (fun z5 => fX4_init gs z5 q5 (60 : Int32) (fun w11 => chkW (okP w11 v0 6) (bndW (pR w11 60 v0 (some q5)) (fun w14 => newW w14 (fun q18 => bndW (pNw w14 q18 5) (fun z18 => fX4_init gs z18 q18 (360 : Int32) (fun w25 => chkW (okP w25 v0 6) (bndW (pR w25 61 v0 (some q18)) (fun w28 => newW w28 (fun q32 => bndW (pNw w28 q32 3) (fun z32 => fX2_init gs z32 q32 (fun w36 => chkW (okP w36 v0 6) (bndW (pR w36 62 v0 (some q32)) (fun w39 => newW w39 (fun q43 => bndW (pNw w39 q43 0) (fun z43 => fJx4a65c_init_da8c8 gs z43 q43 (fun w47 => chkW (okP w47 v0 6) (bndW (pR w47 63 v0 (some q43)) (fun w50 => newW w50 (fun q54 => bndW (pNw w50 q54 0) (fun z54 => fJx4a65c_init_da8c8 gs z54 q54 (fun w58 => chkW (okP w58 v0 6) (bndW (pR w58 64 v0 (some q54)) (fun w61 => newW w61 (fun q65 => bndW (pNw w61 q65 0) (fun z65 => fJx4a65c_init_da8c8 gs z65 q65 (fun w69 => chkW (okP w69 v0 6) (bndW (pR w69 65 v0 (some q65)) (fun w72 => Q w72))))))))))))))))))))))))))))))
set_option maxRecDepth 100000 in
set_option maxHeartbeats 4000000 in
theorem sX6_init {X : JX} {cI cZ cO cJ : ClassId} {gs : JP} {post : Option Value → va_W → Prop} (hX : jOK X cX6_init 1 wsX6_init RX6 rmX6_init) (hT : jT X = jTy cI cZ cO cJ) (hGX : jG X (GP gs)) (hret : jRV X cX6_init rmX6_init post) (hin0 : jInit X) {Q : PS → Prop} (hro : ∀ (w9 : PS), Q w9 → post none (pW cI cO w9)) {S : PS} {v0 : Nat} (h : fX6_init gs S v0 Q) : JW X 0 0 (pW cI cO S) 0 [(0, .ref v0)] [] := by
  unfold fX6_init at h
  refine jw_aload_n hX dX6_init_0 rfl 0 rfl ?_
  refine jw_objInit hX obX6_init ocX6_init odX6_init (by decide) (Nat.le_of_ble_eq_true rfl) dX6_init_1 ?_
  refine jw_aload_n hX dX6_init_4 rfl 0 rfl ?_
  refine jw_pnew hX hT 5 rfl (by decide) inX6_init_5 tyX4 tyX4_ok nzero5 nlX6_init_9 niX6_init_5 njX6_init_5 ⟨by decide, by decide⟩ dX6_init_5 (fun q5 hq5 => ?_)
  replace h := newW_use h q5 hq5
  obtain ⟨z5, e5⟩ : ∃ z, z = (pNw S q5 5) := ⟨_, rfl⟩
  replace h := bndW_use h z5 e5
  rw [← e5]
  clear e5
  refine jw_dup hX dX6_init_8 rfl ?_
  refine jw_bipush (v := (60 : Int32)) hX dX6_init_9 (by decide) ?_
  refine jw_pI (As := [.int (60 : Int32)]) hX (GP_ok gs) hGX 1 (kX4_init hT h) gX6_init_X4_init rfl ilX6_init_11 iiX6_init_X4_init ijX6_init_X4_init rfl hdX4_init ⟨by decide, by decide⟩ rfl (Nat.le_of_ble_eq_true rfl) dX6_init_11 rfl rfl ⟨by decide, by decide⟩ (fun w11 h => ?_)
  obtain ⟨ho14_0, h⟩ := h
  refine jw_pputRF hX hT 6 0 rfl (by decide) (by decide) rfl inX6_init_6 rfl lkX6_init_14 tyX6 tyX6_ok nmX6 rfl hin0 rfl (ty := tyX6 0) (by decide +kernel) (Or.inl ⟨_, rfl⟩) ho14_0 dX6_init_14 (fun w14 e14 => ?_)
  replace h := bndW_use h w14 e14
  clear e14
  refine jw_aload_n hX dX6_init_17 rfl 0 rfl ?_
  refine jw_pnew hX hT 5 rfl (by decide) inX6_init_5 tyX4 tyX4_ok nzero5 nlX6_init_9 niX6_init_5 njX6_init_5 ⟨by decide, by decide⟩ dX6_init_18 (fun q18 hq18 => ?_)
  replace h := newW_use h q18 hq18
  obtain ⟨z18, e18⟩ : ∃ z, z = (pNw w14 q18 5) := ⟨_, rfl⟩
  replace h := bndW_use h z18 e18
  rw [← e18]
  clear e18
  refine jw_dup hX dX6_init_21 rfl ?_
  refine jw_sipush (v := (360 : Int32)) hX dX6_init_22 (by decide) ?_
  refine jw_pI (As := [.int (360 : Int32)]) hX (GP_ok gs) hGX 1 (kX4_init hT h) gX6_init_X4_init rfl ilX6_init_11 iiX6_init_X4_init ijX6_init_X4_init rfl hdX4_init ⟨by decide, by decide⟩ rfl (Nat.le_of_ble_eq_true rfl) dX6_init_25 rfl rfl ⟨by decide, by decide⟩ (fun w25 h => ?_)
  obtain ⟨ho28_0, h⟩ := h
  refine jw_pputRF hX hT 6 1 rfl (by decide) (by decide) rfl inX6_init_6 rfl lkX6_init_18 tyX6 tyX6_ok nmX6 rfl hin0 rfl (ty := tyX6 1) (by decide +kernel) (Or.inl ⟨_, rfl⟩) ho28_0 dX6_init_28 (fun w28 e28 => ?_)
  replace h := bndW_use h w28 e28
  clear e28
  refine jw_aload_n hX dX6_init_31 rfl 0 rfl ?_
  refine jw_pnew hX hT 3 rfl (by decide) inX6_init_3 tyX2 tyX2_ok nzero3 nlX6_init_21 niX6_init_3 njX6_init_3 ⟨by decide, by decide⟩ dX6_init_32 (fun q32 hq32 => ?_)
  replace h := newW_use h q32 hq32
  obtain ⟨z32, e32⟩ : ∃ z, z = (pNw w28 q32 3) := ⟨_, rfl⟩
  replace h := bndW_use h z32 e32
  rw [← e32]
  clear e32
  refine jw_dup hX dX6_init_35 rfl ?_
  refine jw_pIN (As := []) hX (GP_ok gs) hGX 0 (kX2_init hT h) gX6_init_X2_init_n23 rfl (gp_nm hGX (w := .methodLinkNest RX6 23 yX2_init "Postlint") (by decide +kernel)) iiX6_init_X2_init ijX6_init_X2_init rfl hdX2_init ⟨by decide, by decide⟩ rfl (Nat.le_of_ble_eq_true rfl) dX6_init_36 rfl rfl ⟨by decide, by decide⟩ (fun w36 h => ?_)
  obtain ⟨ho39_0, h⟩ := h
  refine jw_pputRF hX hT 6 2 rfl (by decide) (by decide) rfl inX6_init_6 rfl lkX6_init_24 tyX6 tyX6_ok nmX6 rfl hin0 rfl (ty := tyX6 2) (by decide +kernel) (Or.inl ⟨_, rfl⟩) ho39_0 dX6_init_39 (fun w39 e39 => ?_)
  replace h := bndW_use h w39 e39
  clear e39
  refine jw_aload_n hX dX6_init_42 rfl 0 rfl ?_
  refine jw_pnew hX hT 0 rfl (by decide) inX6_init_0 tyJx4a65c tyJx4a65c_ok nzero0 nlX6_init_28 niX6_init_0 njX6_init_0 ⟨by decide, by decide⟩ dX6_init_43 (fun q43 hq43 => ?_)
  replace h := newW_use h q43 hq43
  obtain ⟨z43, e43⟩ : ∃ z, z = (pNw w39 q43 0) := ⟨_, rfl⟩
  replace h := bndW_use h z43 e43
  rw [← e43]
  clear e43
  refine jw_dup hX dX6_init_46 rfl ?_
  refine jw_pI (As := []) hX (GP_ok gs) hGX 0 (kJx4a65c_init_da8c8 hT h) gX6_init_Jx4a65c_init_da8c8 rfl ilX6_init_30 iiX6_init_Jx4a65c_init_da8c8 ijX6_init_Jx4a65c_init_da8c8 rfl hdJx4a65c_init_da8c8 ⟨by decide, by decide⟩ rfl (Nat.le_of_ble_eq_true rfl) dX6_init_47 rfl rfl ⟨by decide, by decide⟩ (fun w47 h => ?_)
  obtain ⟨ho50_0, h⟩ := h
  refine jw_pputRF hX hT 6 3 rfl (by decide) (by decide) rfl inX6_init_6 rfl lkX6_init_31 tyX6 tyX6_ok nmX6 rfl hin0 rfl (ty := tyX6 3) (by decide +kernel) (Or.inl ⟨_, rfl⟩) ho50_0 dX6_init_50 (fun w50 e50 => ?_)
  replace h := bndW_use h w50 e50
  clear e50
  refine jw_aload_n hX dX6_init_53 rfl 0 rfl ?_
  refine jw_pnew hX hT 0 rfl (by decide) inX6_init_0 tyJx4a65c tyJx4a65c_ok nzero0 nlX6_init_28 niX6_init_0 njX6_init_0 ⟨by decide, by decide⟩ dX6_init_54 (fun q54 hq54 => ?_)
  replace h := newW_use h q54 hq54
  obtain ⟨z54, e54⟩ : ∃ z, z = (pNw w50 q54 0) := ⟨_, rfl⟩
  replace h := bndW_use h z54 e54
  rw [← e54]
  clear e54
  refine jw_dup hX dX6_init_57 rfl ?_
  refine jw_pI (As := []) hX (GP_ok gs) hGX 0 (kJx4a65c_init_da8c8 hT h) gX6_init_Jx4a65c_init_da8c8 rfl ilX6_init_30 iiX6_init_Jx4a65c_init_da8c8 ijX6_init_Jx4a65c_init_da8c8 rfl hdJx4a65c_init_da8c8 ⟨by decide, by decide⟩ rfl (Nat.le_of_ble_eq_true rfl) dX6_init_58 rfl rfl ⟨by decide, by decide⟩ (fun w58 h => ?_)
  obtain ⟨ho61_0, h⟩ := h
  refine jw_pputRF hX hT 6 4 rfl (by decide) (by decide) rfl inX6_init_6 rfl lkX6_init_35 tyX6 tyX6_ok nmX6 rfl hin0 rfl (ty := tyX6 4) (by decide +kernel) (Or.inl ⟨_, rfl⟩) ho61_0 dX6_init_61 (fun w61 e61 => ?_)
  replace h := bndW_use h w61 e61
  clear e61
  refine jw_aload_n hX dX6_init_64 rfl 0 rfl ?_
  refine jw_pnew hX hT 0 rfl (by decide) inX6_init_0 tyJx4a65c tyJx4a65c_ok nzero0 nlX6_init_28 niX6_init_0 njX6_init_0 ⟨by decide, by decide⟩ dX6_init_65 (fun q65 hq65 => ?_)
  replace h := newW_use h q65 hq65
  obtain ⟨z65, e65⟩ : ∃ z, z = (pNw w61 q65 0) := ⟨_, rfl⟩
  replace h := bndW_use h z65 e65
  rw [← e65]
  clear e65
  refine jw_dup hX dX6_init_68 rfl ?_
  refine jw_pI (As := []) hX (GP_ok gs) hGX 0 (kJx4a65c_init_da8c8 hT h) gX6_init_Jx4a65c_init_da8c8 rfl ilX6_init_30 iiX6_init_Jx4a65c_init_da8c8 ijX6_init_Jx4a65c_init_da8c8 rfl hdJx4a65c_init_da8c8 ⟨by decide, by decide⟩ rfl (Nat.le_of_ble_eq_true rfl) dX6_init_69 rfl rfl ⟨by decide, by decide⟩ (fun w69 h => ?_)
  obtain ⟨ho72_0, h⟩ := h
  refine jw_pputRF hX hT 6 5 rfl (by decide) (by decide) rfl inX6_init_6 rfl lkX6_init_38 tyX6 tyX6_ok nmX6 rfl hin0 rfl (ty := tyX6 5) (by decide +kernel) (Or.inl ⟨_, rfl⟩) ho72_0 dX6_init_72 (fun w72 e72 => ?_)
  replace h := bndW_use h w72 e72
  clear e72
  exact hret _ _ _ _ _ (by decide) (by decide) dX6_init_75 (hro _ h)
set_option maxRecDepth 100000 in
set_option maxHeartbeats 4000000 in
theorem kX6_init {l : Launch} {D : va_G} {tys : List (ClassId × FieldType)} {cI cZ cO cJ : ClassId} {gs : JP} {S : PS} {v0 : Nat} {Q : PS → Prop} (hT : tys = jTy cI cZ cO cJ) (h : fX6_init gs S v0 Q) : CC l (GP gs) D tys yX6_init wsX6_init rmX6_init [.ref v0] (pW cI cO S) (fun ov w2 => ∃ w9 : PS, Q w9 ∧ ov = none ∧ w2 = pW cI cO w9) := by
  refine CC_ofI (cc := cX6_init) (maxL := 1) rfl (by decide) rfl (Nat.le_of_ble_eq_true rfl) ?_
  intro X hD hL hT0 hGX hX hin0 rV
  exact sX6_init (post := (fun ov w2 => ∃ w9 : PS, Q w9 ∧ ov = none ∧ w2 = pW cI cO w9)) hX (hT0.trans hT) hGX rV hin0 (fun w9 hq => ⟨w9, hq, rfl, rfl⟩) h
/-! X6_entryOfDraft -/
abbrev rmX6_entryOfDraft : Room := { frames := 6, cells := 7, slots := 744, locals := 112 }
theorem hdX6_entryOfDraft : yX6_entryOfDraft.cls = RX6 ∧ yX6_entryOfDraft.cls ≠ "java/lang/invoke/MethodHandle" ∧ yX6_entryOfDraft.cls ≠ "java/lang/invoke/VarHandle" ∧ (parseMethodDescriptor yX6_entryOfDraft.desc).map (fun d => d.parameters.length) = some 0 := by decide +kernel
theorem lkX6_entryOfDraft_24 : Cond.fieldLink RX6 24 RX6 (TX6 2).2.1 (TX6 2).2.2.1 ∈ wsX6_entryOfDraft := by decide +kernel
theorem inX6_entryOfDraft_6 : ∀ w ∈ wsX60, w ∈ wsX6_entryOfDraft := fun _ h => List.mem_cons_of_mem _ (List.mem_append_left _ (List.mem_append_left _ (List.mem_append_left _ (List.mem_append_left _ (List.mem_append_right _ h)))))
theorem lkX6_entryOfDraft_14 : Cond.fieldLink RX6 14 RX6 (TX6 0).2.1 (TX6 0).2.2.1 ∈ wsX6_entryOfDraft := by decide +kernel
theorem nlX6_entryOfDraft_82 : Cond.classLink RX6 82 RX1 ∈ wsX6_entryOfDraft := by decide +kernel
theorem niX6_entryOfDraft_2 : Cond.instantiable RX1 6 ∈ wsX6_entryOfDraft := by decide +kernel
theorem njX6_entryOfDraft_2 : Cond.initialized RX1 ∈ wsX6_entryOfDraft := by decide +kernel
theorem inX6_entryOfDraft_2 : ∀ w ∈ wsX10, w ∈ wsX6_entryOfDraft := fun _ h => List.mem_cons_of_mem _ (List.mem_append_left _ (List.mem_append_left _ (List.mem_append_left _ (List.mem_append_right _ h))))
theorem tkX6_entryOfDraft_IS : Cond.classLink "Postlint" 52 "java/lang/IllegalStateException" ∈ wsX6_entryOfDraft ∧ Cond.initialized "java/lang/IllegalStateException" ∈ wsX6_entryOfDraft := by decide +kernel
theorem taX6_entryOfDraft_IS : ∀ w ∈ (vx_atS "Postlint" 56 "java/lang/IllegalStateException" ["java/lang/RuntimeException", "java/lang/Exception"]).filter goodWord, w ∈ wsX6_entryOfDraft := fun _ h => List.mem_cons_of_mem _ (List.mem_append_right _ h)
theorem ilX6_entryOfDraft_216 : Cond.methodLink RX6 216 yX1_init ∈ wsX6_entryOfDraft := by decide +kernel
theorem iiX6_entryOfDraft_X1_init : Cond.initialized yX1_init.cls ∈ wsX6_entryOfDraft := by decide +kernel
theorem ijX6_entryOfDraft_X1_init : Cond.instanceMethod yX1_init ∈ wsX6_entryOfDraft := by decide +kernel
def fX6_entryOfDraft (gs : JP) (n : Nat) (S : PS) (v0 : Nat) (Q : Nat → PS → Prop) (Qx : Nat → PS → Prop) : Prop := chkW (okP S v0 6) (bPW (sR S 62 v0) (fun q1 => chkW (okP S v0 6) (bPW (sR S 60 v0) (fun q5 => chkW (okP S q1 3) (b2W (fX2_faultOf n S q1 q5) (fun r8 w8 => (if r8 = (-1 : Int32) then newW w8 (fun q25 => bndW (pNw w8 q25 2) (fun z25 => fX1_init gs z25 q25 (fun w29 => chkW (okP w29 v0 6) (bPW (sR w29 60 v0) (fun q35 => chkW (okP w29 q25 2) (bPW (fX1_take n w29 q25 q35) (fun w38 => chkW (okP w38 q25 2) ((if (sI w38 24 q25) ≤ (60 : Int32) then Q q25 w38 else Qx 1 w38))))))))) else Qx 1 w8)))))))
set_option maxRecDepth 100000 in
set_option maxHeartbeats 4000000 in
theorem sX6_entryOfDraft {X : JX} {cI cZ cO cJ : ClassId} {gs : JP} {n : Nat} {post : Option Value → va_W → Prop} (hX : jOK X cX6_entryOfDraft 2 wsX6_entryOfDraft RX6 rmX6_entryOfDraft) (hT : jT X = jTy cI cZ cO cJ) (hGX : jG X (GP gs)) (hret : jRA X cX6_entryOfDraft rmX6_entryOfDraft post) {w0 : va_W} {px : String → va_W → Prop} (hQ : jXQ X w0 rmX6_entryOfDraft post px) {Q : Nat → PS → Prop} {Qx : Nat → PS → Prop} (hro : ∀ (v9 : Nat) (w9 : PS), Q v9 w9 → post (some (.ref v9)) (pW cI cO w9)) (hrx : ∀ (x9 : Nat) (w9 : PS), Qx x9 w9 → px (exN x9) (pW cI cO w9)) {S : PS} {v0 : Nat} (h : fX6_entryOfDraft gs n S v0 Q Qx) : JW X 0 0 (pW cI cO S) 0 [(0, .ref v0)] [] := by
  unfold fX6_entryOfDraft at h
  refine jw_aload_n hX dX6_entryOfDraft_0 rfl 0 rfl ?_
  obtain ⟨ho1_1, h⟩ := h
  obtain ⟨q1, hr1, h⟩ := h
  refine jw_pgetR hX hT 6 2 rfl (by decide) (by decide) rfl inX6_entryOfDraft_6 rfl lkX6_entryOfDraft_24 ho1_1 hr1 dX6_entryOfDraft_1 ?_
  refine jw_aload_n hX dX6_entryOfDraft_4 rfl 0 rfl ?_
  obtain ⟨ho5_5, h⟩ := h
  obtain ⟨q5, hr5, h⟩ := h
  refine jw_pgetR hX hT 6 0 rfl (by decide) (by decide) rfl inX6_entryOfDraft_6 rfl lkX6_entryOfDraft_14 ho5_5 hr5 dX6_entryOfDraft_5 ?_
  obtain ⟨ho8_8, h⟩ := h
  obtain ⟨r8, w8, hc8, h⟩ := h
  refine jw_pVi (As := [.ref q5]) hX (GP_ok gs) hGX 1 (kX2_faultOf hT hc8) gX6_entryOfDraft_X2_faultOf rfl hdX2_faultOf ⟨by decide, by decide⟩ 3 rfl (by decide) ho8_8 rfl (Nat.le_of_ble_eq_true rfl) dX6_entryOfDraft_8 rfl rfl ⟨by decide, by decide⟩ ?_
  refine jw_iconst (v := (-1 : Int32)) hX dX6_entryOfDraft_11 (by decide) ?_
  refine jw_icmp_eq (tgt := 25) hX dX6_entryOfDraft_12 (by decide) (fun hc => ?_) (fun hc => ?_)
  · rw [if_pos hc] at h
    refine jw_pnew hX hT 2 rfl (by decide) inX6_entryOfDraft_2 tyX1 tyX1_ok nzero2 nlX6_entryOfDraft_82 niX6_entryOfDraft_2 njX6_entryOfDraft_2 ⟨by decide, by decide⟩ dX6_entryOfDraft_25 (fun q25 hq25 => ?_)
    replace h := newW_use h q25 hq25
    obtain ⟨z25, e25⟩ : ∃ z, z = (pNw w8 q25 2) := ⟨_, rfl⟩
    replace h := bndW_use h z25 e25
    rw [← e25]
    clear e25
    refine jw_dup hX dX6_entryOfDraft_28 rfl ?_
    refine jw_pI (As := []) hX (GP_ok gs) hGX 0 (kX1_init hT h) gX6_entryOfDraft_X1_init rfl ilX6_entryOfDraft_216 iiX6_entryOfDraft_X1_init ijX6_entryOfDraft_X1_init rfl hdX1_init ⟨by decide, by decide⟩ rfl (Nat.le_of_ble_eq_true rfl) dX6_entryOfDraft_29 rfl rfl ⟨by decide, by decide⟩ (fun w29 h => ?_)
    refine jw_astore_n hX [(1, .ref q25), (0, .ref v0)] dX6_entryOfDraft_32 rfl (by decide) rfl ?_
    refine jw_aload_n hX dX6_entryOfDraft_33 rfl 0 rfl ?_
    refine jw_aload_n hX dX6_entryOfDraft_34 rfl 1 rfl ?_
    obtain ⟨ho35_3, h⟩ := h
    obtain ⟨q35, hr35, h⟩ := h
    refine jw_pgetR hX hT 6 0 rfl (by decide) (by decide) rfl inX6_entryOfDraft_6 rfl lkX6_entryOfDraft_14 ho35_3 hr35 dX6_entryOfDraft_35 ?_
    obtain ⟨ho38_6, h⟩ := h
    obtain ⟨w38, hc38, h⟩ := h
    refine jw_pVv (As := [.ref q35]) hX (GP_ok gs) hGX 1 (kX1_take hT hc38) gX6_entryOfDraft_X1_take rfl hdX1_take ⟨by decide, by decide⟩ 2 rfl (by decide) ho38_6 rfl (Nat.le_of_ble_eq_true rfl) dX6_entryOfDraft_38 rfl rfl ⟨by decide, by decide⟩ ?_
    refine jw_aload_n hX dX6_entryOfDraft_41 rfl 0 rfl ?_
    obtain ⟨ho42_10, h⟩ := h
    refine jw_pgetIN hX hT 2 4 rfl (by decide) (by decide) rfl inX6_entryOfDraft_2 rfl (gp_nf hGX (w := .fieldLinkNest RX6 221 RX1 (TX1 4).2.1 (TX1 4).2.2.1 "Postlint") (by decide +kernel)) ho42_10 dX6_entryOfDraft_42 ?_
    refine jw_bipush (v := (60 : Int32)) hX dX6_entryOfDraft_45 (by decide) ?_
    refine jw_icmp_le (tgt := 60) hX dX6_entryOfDraft_47 (by decide) (fun hc => ?_) (fun hc => ?_)
    · rw [if_pos hc] at h
      refine jw_aload_n hX dX6_entryOfDraft_60 rfl 0 rfl ?_
      exact hret _ _ _ _ _ _ (by decide) (by decide) dX6_entryOfDraft_61 (hro _ _ h)
    · rw [if_neg hc] at h
      exact jw_throwS (is := 225) (text := "the draft counts too many postings") hX hGX hQ (by decide +kernel) (by decide +kernel) tkX6_entryOfDraft_IS.1 tkX6_entryOfDraft_IS.2 (by decide +kernel) taX6_entryOfDraft_IS tbIS gNc_on tgIS dX6_entryOfDraft_50 dX6_entryOfDraft_53 dX6_entryOfDraft_54 dX6_entryOfDraft_56 dX6_entryOfDraft_59 (Nat.le_of_ble_eq_true rfl) (Nat.le_of_ble_eq_true rfl) (Nat.le_of_ble_eq_true rfl) (Nat.le_of_ble_eq_true rfl) (hrx _ _ h)
  · rw [if_neg hc] at h
    exact jw_throwS (is := 214) (text := "the draft has a fault") hX hGX hQ (by decide +kernel) (by decide +kernel) tkX6_entryOfDraft_IS.1 tkX6_entryOfDraft_IS.2 (by decide +kernel) taX6_entryOfDraft_IS tbIS gNc_on tgIS dX6_entryOfDraft_15 dX6_entryOfDraft_18 dX6_entryOfDraft_19 dX6_entryOfDraft_21 dX6_entryOfDraft_24 (Nat.le_of_ble_eq_true rfl) (Nat.le_of_ble_eq_true rfl) (Nat.le_of_ble_eq_true rfl) (Nat.le_of_ble_eq_true rfl) (hrx _ _ h)
set_option maxRecDepth 100000 in
set_option maxHeartbeats 4000000 in
theorem kX6_entryOfDraft {l : Launch} {D : va_G} {tys : List (ClassId × FieldType)} {cI cZ cO cJ : ClassId} {gs : JP} {n : Nat} {S : PS} {v0 : Nat} {Q : Nat → PS → Prop} {Qx : Nat → PS → Prop} (hl : l.stackTraces = false) (hT : tys = jTy cI cZ cO cJ) (h : fX6_entryOfDraft gs n S v0 Q Qx) : CX l (GP gs) D tys yX6_entryOfDraft wsX6_entryOfDraft rmX6_entryOfDraft [.ref v0] (pW cI cO S) (fun ov w2 => ∃ (r : Nat) (w9 : PS), Q r w9 ∧ ov = some (.ref r) ∧ w2 = pW cI cO w9) (fun E w2 => ∃ (x : Nat) (w9 : PS), Qx x w9 ∧ E = exN x ∧ w2 = pW cI cO w9) := by
  refine CX_of (cc := cX6_entryOfDraft) (maxL := 2) (ret := (some (.object "Postlint$Entry"))) hl (by decide) rfl (Nat.le_of_ble_eq_true rfl) ?_
  intro X hD hL hT0 hGX hX hQ rI rZ rV rA
  exact sX6_entryOfDraft (post := (fun ov w2 => ∃ (r : Nat) (w9 : PS), Q r w9 ∧ ov = some (.ref r) ∧ w2 = pW cI cO w9)) (px := (fun E w2 => ∃ (x : Nat) (w9 : PS), Qx x w9 ∧ E = exN x ∧ w2 = pW cI cO w9)) hX (hT0.trans hT) hGX (rA (Or.inl ⟨_, rfl⟩)) hQ (fun r w9 hq => ⟨r, w9, hq, rfl, rfl⟩) (fun x w9 hq => ⟨x, w9, hq, rfl, rfl⟩) h
/-! X6_post -/
abbrev rmX6_post : Room := { frames := 7, cells := 8, slots := 808, locals := 171 }
theorem hdX6_post : yX6_post.cls = RX6 ∧ yX6_post.cls ≠ "java/lang/invoke/MethodHandle" ∧ yX6_post.cls ≠ "java/lang/invoke/VarHandle" ∧ (parseMethodDescriptor yX6_post.desc).map (fun d => d.parameters.length) = some 0 := by decide +kernel
theorem lkX6_post_31 : Cond.fieldLink RX6 31 RX6 (TX6 3).2.1 (TX6 3).2.2.1 ∈ wsX6_post := by decide +kernel
theorem inX6_post_6 : ∀ w ∈ wsX60, w ∈ wsX6_post := fun _ h => List.mem_cons_of_mem _ (List.mem_append_left _ (List.mem_append_left _ (List.mem_append_left _ (List.mem_append_left _ (List.mem_append_left _ (List.mem_append_right _ h))))))
theorem lkX6_post_14 : Cond.fieldLink RX6 14 RX6 (TX6 0).2.1 (TX6 0).2.2.1 ∈ wsX6_post := by decide +kernel
theorem tkX6_post_IS : Cond.classLink "Postlint" 52 "java/lang/IllegalStateException" ∈ wsX6_post ∧ Cond.initialized "java/lang/IllegalStateException" ∈ wsX6_post := by decide +kernel
theorem taX6_post_IS : ∀ w ∈ (vx_atS "Postlint" 56 "java/lang/IllegalStateException" ["java/lang/RuntimeException", "java/lang/Exception"]).filter goodWord, w ∈ wsX6_post := fun _ h => List.mem_cons_of_mem _ (List.mem_append_right _ h)
def fX6_post (gs : JP) (n : Nat) (S : PS) (v0 : Nat) (Q : Int32 → PS → Prop) (Qx : Nat → PS → Prop) : Prop := chkW (okP S v0 6) (bPW (sR S 63 v0) (fun q1 => chkW (okP S q1 0) (bPW (fJx4a65c_size_8abf5 S q1) (fun r4 => (if r4 < (24 : Int32) then chkW (okP S v0 6) (bPW (sR S 63 v0) (fun q23 => chkW (okP S v0 6) (fX6_entryOfDraft gs n S v0 (fun r27 w27 => chkW (okP w27 q23 0) (fJx4a65c_add_9ea2d gs w27 q23 r27 (fun r30 w30 => chkW (okP w30 v0 6) (bPW (sR w30 60 v0) (fun q35 => chkW (okP w30 q35 5) (bPW (fX4_empty w30 q35) (fun w38 => chkW (okP w38 v0 6) (bPW (sR w38 63 v0) (fun q42 => chkW (okP w38 q42 0) (bPW (fJx4a65c_size_8abf5 w38 q42) (fun r45 => Q (r45 - (1 : Int32)) w38))))))))))) Qx))) else Qx 1 S)))))
set_option maxRecDepth 100000 in
set_option maxHeartbeats 4000000 in
theorem sX6_post {X : JX} {cI cZ cO cJ : ClassId} {gs : JP} {n : Nat} {post : Option Value → va_W → Prop} (hX : jOK X cX6_post 1 wsX6_post RX6 rmX6_post) (hT : jT X = jTy cI cZ cO cJ) (hGX : jG X (GP gs)) (hret : jRI X cX6_post rmX6_post post) {w0 : va_W} {px : String → va_W → Prop} (hQ : jXQ X w0 rmX6_post post px) {Q : Int32 → PS → Prop} {Qx : Nat → PS → Prop} (hro : ∀ (v9 : Int32) (w9 : PS), Q v9 w9 → post (some (.int v9)) (pW cI cO w9)) (hrx : ∀ (x9 : Nat) (w9 : PS), Qx x9 w9 → px (exN x9) (pW cI cO w9)) {S : PS} {v0 : Nat} (h : fX6_post gs n S v0 Q Qx) : JW X 0 0 (pW cI cO S) 0 [(0, .ref v0)] [] := by
  unfold fX6_post at h
  refine jw_aload_n hX dX6_post_0 rfl 0 rfl ?_
  obtain ⟨ho1_1, h⟩ := h
  obtain ⟨q1, hr1, h⟩ := h
  refine jw_pgetR hX hT 6 3 rfl (by decide) (by decide) rfl inX6_post_6 rfl lkX6_post_31 ho1_1 hr1 dX6_post_1 ?_
  obtain ⟨ho4_4, h⟩ := h
  obtain ⟨r4, hc4, h⟩ := h
  refine jw_pVi (As := []) hX (GP_ok gs) hGX 0 (kJx4a65c_size_8abf5 hT hc4) gX6_post_Jx4a65c_size_8abf5 rfl hdJx4a65c_size_8abf5 ⟨by decide, by decide⟩ 0 rfl (by decide) ho4_4 rfl (Nat.le_of_ble_eq_true rfl) dX6_post_4 rfl rfl ⟨by decide, by decide⟩ ?_
  refine jw_bipush (v := (24 : Int32)) hX dX6_post_7 (by decide) ?_
  refine jw_icmp_lt (tgt := 22) hX dX6_post_9 (by decide) (fun hc => ?_) (fun hc => ?_)
  · rw [if_pos hc] at h
    refine jw_aload_n hX dX6_post_22 rfl 0 rfl ?_
    obtain ⟨ho23_1, h⟩ := h
    obtain ⟨q23, hr23, h⟩ := h
    refine jw_pgetR hX hT 6 3 rfl (by decide) (by decide) rfl inX6_post_6 rfl lkX6_post_31 ho23_1 hr23 dX6_post_23 ?_
    refine jw_aload_n hX dX6_post_26 rfl 0 rfl ?_
    obtain ⟨ho27_5, h⟩ := h
    refine jw_pVXEr (As := []) hX (GP_ok gs) hGX hQ 0 (kX6_entryOfDraft (jXQ_tr hQ) hT h) gX6_post_X6_entryOfDraft rfl hdX6_entryOfDraft ⟨by decide, by decide⟩ 6 rfl (by decide) ho27_5 rfl (Nat.le_of_ble_eq_true rfl) dX6_post_27 rfl rfl ⟨by decide, by decide⟩ hrx (fun r27 w27 h => ?_)
    obtain ⟨ho30_0, h⟩ := h
    refine jw_pVEi (As := [.ref r27]) hX (GP_ok gs) hGX 1 (kJx4a65c_add_9ea2d hT h) gX6_post_Jx4a65c_add_9ea2d rfl hdJx4a65c_add_9ea2d ⟨by decide, by decide⟩ 0 rfl (by decide) ho30_0 rfl (Nat.le_of_ble_eq_true rfl) dX6_post_30 rfl rfl ⟨by decide, by decide⟩ (fun r30 w30 h => ?_)
    refine jw_pop hX dX6_post_33 rfl ?_
    refine jw_aload_n hX dX6_post_34 rfl 0 rfl ?_
    obtain ⟨ho35_2, h⟩ := h
    obtain ⟨q35, hr35, h⟩ := h
    refine jw_pgetR hX hT 6 0 rfl (by decide) (by decide) rfl inX6_post_6 rfl lkX6_post_14 ho35_2 hr35 dX6_post_35 ?_
    obtain ⟨ho38_5, h⟩ := h
    obtain ⟨w38, hc38, h⟩ := h
    refine jw_pVv (As := []) hX (GP_ok gs) hGX 0 (kX4_empty hT hc38) gX6_post_X4_empty rfl hdX4_empty ⟨by decide, by decide⟩ 5 rfl (by decide) ho38_5 rfl (Nat.le_of_ble_eq_true rfl) dX6_post_38 rfl rfl ⟨by decide, by decide⟩ ?_
    refine jw_aload_n hX dX6_post_41 rfl 0 rfl ?_
    obtain ⟨ho42_9, h⟩ := h
    obtain ⟨q42, hr42, h⟩ := h
    refine jw_pgetR hX hT 6 3 rfl (by decide) (by decide) rfl inX6_post_6 rfl lkX6_post_31 ho42_9 hr42 dX6_post_42 ?_
    obtain ⟨ho45_12, h⟩ := h
    obtain ⟨r45, hc45, h⟩ := h
    refine jw_pVi (As := []) hX (GP_ok gs) hGX 0 (kJx4a65c_size_8abf5 hT hc45) gX6_post_Jx4a65c_size_8abf5 rfl hdJx4a65c_size_8abf5 ⟨by decide, by decide⟩ 0 rfl (by decide) ho45_12 rfl (Nat.le_of_ble_eq_true rfl) dX6_post_45 rfl rfl ⟨by decide, by decide⟩ ?_
    refine jw_iconst (v := (1 : Int32)) hX dX6_post_48 (by decide) ?_
    refine jw_isub hX dX6_post_49 ?_
    exact hret _ _ _ _ _ _ (by decide) (by decide) dX6_post_50 (hro _ _ h)
  · rw [if_neg hc] at h
    exact jw_throwS (is := 68) (text := "the ledger is full") hX hGX hQ (by decide +kernel) (by decide +kernel) tkX6_post_IS.1 tkX6_post_IS.2 (by decide +kernel) taX6_post_IS tbIS gNc_on tgIS dX6_post_12 dX6_post_15 dX6_post_16 dX6_post_18 dX6_post_21 (Nat.le_of_ble_eq_true rfl) (Nat.le_of_ble_eq_true rfl) (Nat.le_of_ble_eq_true rfl) (Nat.le_of_ble_eq_true rfl) (hrx _ _ h)
set_option maxRecDepth 100000 in
set_option maxHeartbeats 4000000 in
theorem kX6_post {l : Launch} {D : va_G} {tys : List (ClassId × FieldType)} {cI cZ cO cJ : ClassId} {gs : JP} {n : Nat} {S : PS} {v0 : Nat} {Q : Int32 → PS → Prop} {Qx : Nat → PS → Prop} (hl : l.stackTraces = false) (hT : tys = jTy cI cZ cO cJ) (h : fX6_post gs n S v0 Q Qx) : CX l (GP gs) D tys yX6_post wsX6_post rmX6_post [.ref v0] (pW cI cO S) (fun ov w2 => ∃ (r : Int32) (w9 : PS), Q r w9 ∧ ov = some (.int r) ∧ w2 = pW cI cO w9) (fun E w2 => ∃ (x : Nat) (w9 : PS), Qx x w9 ∧ E = exN x ∧ w2 = pW cI cO w9) := by
  refine CX_of (cc := cX6_post) (maxL := 1) (ret := (some .int)) hl (by decide) rfl (Nat.le_of_ble_eq_true rfl) ?_
  intro X hD hL hT0 hGX hX hQ rI rZ rV rA
  exact sX6_post (post := (fun ov w2 => ∃ (r : Int32) (w9 : PS), Q r w9 ∧ ov = some (.int r) ∧ w2 = pW cI cO w9)) (px := (fun E w2 => ∃ (x : Nat) (w9 : PS), Qx x w9 ∧ E = exN x ∧ w2 = pW cI cO w9)) hX (hT0.trans hT) hGX (rI rfl) hQ (fun r w9 hq => ⟨r, w9, hq, rfl, rfl⟩) (fun x w9 hq => ⟨x, w9, hq, rfl, rfl⟩) h
/-! X6_write -/
abbrev rmX6_write : Room := { frames := 7, cells := 9, slots := 756, locals := 133 }
theorem hdX6_write : yX6_write.cls = RX6 ∧ yX6_write.cls ≠ "java/lang/invoke/MethodHandle" ∧ yX6_write.cls ≠ "java/lang/invoke/VarHandle" ∧ (parseMethodDescriptor yX6_write.desc).map (fun d => d.parameters.length) = some 1 := by decide +kernel
theorem inX6_write_2 : ∀ w ∈ wsX10, w ∈ wsX6_write := fun _ h => List.mem_cons_of_mem _ (List.mem_append_left _ (List.mem_append_left _ (List.mem_append_left _ (List.mem_append_left _ (List.mem_append_left _ (List.mem_append_left _ (List.mem_append_left _ (List.mem_append_right _ h))))))))
theorem lkX6_write_31 : Cond.fieldLink RX6 31 RX6 (TX6 3).2.1 (TX6 3).2.2.1 ∈ wsX6_write := by decide +kernel
theorem inX6_write_6 : ∀ w ∈ wsX60, w ∈ wsX6_write := fun _ h => List.mem_cons_of_mem _ (List.mem_append_left _ (List.mem_append_left _ (List.mem_append_left _ (List.mem_append_left _ (List.mem_append_left _ (List.mem_append_left _ (List.mem_append_right _ h)))))))
theorem lkX6_write_14 : Cond.fieldLink RX6 14 RX6 (TX6 0).2.1 (TX6 0).2.2.1 ∈ wsX6_write := by decide +kernel
theorem tkX6_write_IS : Cond.classLink "Postlint" 52 "java/lang/IllegalStateException" ∈ wsX6_write ∧ Cond.initialized "java/lang/IllegalStateException" ∈ wsX6_write := by decide +kernel
theorem taX6_write_IS : ∀ w ∈ (vx_atS "Postlint" 56 "java/lang/IllegalStateException" ["java/lang/RuntimeException", "java/lang/Exception"]).filter goodWord, w ∈ wsX6_write := fun _ h => List.mem_cons_of_mem _ (List.mem_append_left _ (List.mem_append_right _ h))
def fX6_write (gs : JP) (n : Nat) (S : PS) (v0 : Nat) (v1 : Int32) (Q : Int32 → PS → Prop) (Qx : Nat → PS → Prop) : Prop := chkW (okP S v0 6) (bSW (fX6_entryAt S v0 v1) (fun ex => Qx ex S) (fun r2 => chkW (okP S v0 6) (fX6_entryOfDraft gs n S v0 (fun r7 w7 => chkW (okP w7 r7 2) (bPW (sR w7 21 r7) (fun q12 => chkW (okP w7 r2 2) (bPW (sR w7 21 r2) (fun q16 => chkW (okP w7 q12 5) (bPW (fX4_isSameAs n w7 q12 q16) (fun r19 => (if r19 = 0 then (if (1 : Int32) = 0 then chkW (okP w7 v0 6) (bPW (sR w7 63 v0) (fun q56 => chkW (okP w7 q56 0) (b2W (fJx4a65c_set_bcc79 w7 q56 v1 r7) (fun r61 w61 => chkW (okP w61 v0 6) (bPW (sR w61 60 v0) (fun q66 => chkW (okP w61 q66 5) (bPW (fX4_empty w61 q66) (fun w69 => chkW (b01 (1 : Int32)) (Q (1 : Int32) w69))))))))) else chkW (okP w7 v0 6) (bPW (fX6_freezes n w7 v0 v1) (fun r39 => (if r39 = 0 then chkW (okP w7 v0 6) (bPW (sR w7 63 v0) (fun q56 => chkW (okP w7 q56 0) (b2W (fJx4a65c_set_bcc79 w7 q56 v1 r7) (fun r61 w61 => chkW (okP w61 v0 6) (bPW (sR w61 60 v0) (fun q66 => chkW (okP w61 q66 5) (bPW (fX4_empty w61 q66) (fun w69 => chkW (b01 (1 : Int32)) (Q (1 : Int32) w69))))))))) else Qx 1 w7)))) else (if (0 : Int32) = 0 then chkW (okP w7 v0 6) (bPW (sR w7 63 v0) (fun q56 => chkW (okP w7 q56 0) (b2W (fJx4a65c_set_bcc79 w7 q56 v1 r7) (fun r61 w61 => chkW (okP w61 v0 6) (bPW (sR w61 60 v0) (fun q66 => chkW (okP w61 q66 5) (bPW (fX4_empty w61 q66) (fun w69 => chkW (b01 (0 : Int32)) (Q (0 : Int32) w69))))))))) else chkW (okP w7 v0 6) (bPW (fX6_freezes n w7 v0 v1) (fun r39 => (if r39 = 0 then chkW (okP w7 v0 6) (bPW (sR w7 63 v0) (fun q56 => chkW (okP w7 q56 0) (b2W (fJx4a65c_set_bcc79 w7 q56 v1 r7) (fun r61 w61 => chkW (okP w61 v0 6) (bPW (sR w61 60 v0) (fun q66 => chkW (okP w61 q66 5) (bPW (fX4_empty w61 q66) (fun w69 => chkW (b01 (0 : Int32)) (Q (0 : Int32) w69))))))))) else Qx 1 w7)))))))))))) Qx)))
set_option maxRecDepth 100000 in
set_option maxHeartbeats 4000000 in
theorem sX6_write {X : JX} {cI cZ cO cJ : ClassId} {gs : JP} {n : Nat} {post : Option Value → va_W → Prop} (hX : jOK X cX6_write 5 wsX6_write RX6 rmX6_write) (hT : jT X = jTy cI cZ cO cJ) (hGX : jG X (GP gs)) (hret : jRZ X cX6_write rmX6_write post) {w0 : va_W} {px : String → va_W → Prop} (hQ : jXQ X w0 rmX6_write post px) {Q : Int32 → PS → Prop} {Qx : Nat → PS → Prop} (hro : ∀ (v9 : Int32) (w9 : PS), Q v9 w9 → post (some (.int v9)) (pW cI cO w9)) (hrx : ∀ (x9 : Nat) (w9 : PS), Qx x9 w9 → px (exN x9) (pW cI cO w9)) {S : PS} {v0 : Nat} {v1 : Int32} (h : fX6_write gs n S v0 v1 Q Qx) : JW X 0 0 (pW cI cO S) 0 [(0, .ref v0), (1, .int v1)] [] := by
  unfold fX6_write at h
  refine jw_aload_n hX dX6_write_0 rfl 0 rfl ?_
  refine jw_iload_n hX dX6_write_1 rfl 1 rfl ?_
  obtain ⟨ho2_2, h⟩ := h
  rcases h with ⟨ex, hl2, h⟩ | ⟨r2, hl2, h⟩
  · exact jw_pVx (As := [.int v1]) hX (GP_ok gs) hGX hQ 1 (kxX6_entryAt (jXQ_tr hQ) hT hl2) gX6_write_X6_entryAt rfl hdX6_entryAt ⟨by decide, by decide⟩ 6 rfl (by decide) ho2_2 rfl (Nat.le_of_ble_eq_true rfl) dX6_write_2 ⟨by decide, by decide⟩ (hrx _ _ h)
  · refine jw_pVXr (As := [.int v1]) hX (GP_ok gs) hGX 1 (kX6_entryAt (jXQ_tr hQ) hT hl2) gX6_write_X6_entryAt rfl hdX6_entryAt ⟨by decide, by decide⟩ 6 rfl (by decide) ho2_2 rfl (Nat.le_of_ble_eq_true rfl) dX6_write_2 rfl rfl ⟨by decide, by decide⟩ ?_
    refine jw_astore_n hX [(2, .ref r2), (0, .ref v0), (1, .int v1)] dX6_write_5 rfl (by decide) rfl ?_
    refine jw_aload_n hX dX6_write_6 rfl 1 rfl ?_
    obtain ⟨ho7_2, h⟩ := h
    refine jw_pVXEr (As := []) hX (GP_ok gs) hGX hQ 0 (kX6_entryOfDraft (jXQ_tr hQ) hT h) gX6_write_X6_entryOfDraft rfl hdX6_entryOfDraft ⟨by decide, by decide⟩ 6 rfl (by decide) ho7_2 rfl (Nat.le_of_ble_eq_true rfl) dX6_write_7 rfl rfl ⟨by decide, by decide⟩ hrx (fun r7 w7 h => ?_)
    refine jw_astore_n hX [(3, .ref r7), (2, .ref r2), (0, .ref v0), (1, .int v1)] dX6_write_10 rfl (by decide) rfl ?_
    refine jw_aload_n hX dX6_write_11 rfl 0 rfl ?_
    obtain ⟨ho12_2, h⟩ := h
    obtain ⟨q12, hr12, h⟩ := h
    refine jw_pgetRN hX hT 2 1 rfl (by decide) (by decide) rfl inX6_write_2 rfl (gp_nf hGX (w := .fieldLinkNest RX6 81 RX1 (TX1 1).2.1 (TX1 1).2.2.1 "Postlint") (by decide +kernel)) ho12_2 hr12 dX6_write_12 ?_
    refine jw_aload_n hX dX6_write_15 rfl 1 rfl ?_
    obtain ⟨ho16_6, h⟩ := h
    obtain ⟨q16, hr16, h⟩ := h
    refine jw_pgetRN hX hT 2 1 rfl (by decide) (by decide) rfl inX6_write_2 rfl (gp_nf hGX (w := .fieldLinkNest RX6 81 RX1 (TX1 1).2.1 (TX1 1).2.2.1 "Postlint") (by decide +kernel)) ho16_6 hr16 dX6_write_16 ?_
    obtain ⟨ho19_9, h⟩ := h
    obtain ⟨r19, hc19, h⟩ := h
    refine jw_pVi (As := [.ref q16]) hX (GP_ok gs) hGX 1 (kX4_isSameAs hT hc19) gX6_write_X4_isSameAs rfl hdX4_isSameAs ⟨by decide, by decide⟩ 5 rfl (by decide) ho19_9 rfl (Nat.le_of_ble_eq_true rfl) dX6_write_19 rfl rfl ⟨by decide, by decide⟩ ?_
    refine jw_if_ne (tgt := 29) hX dX6_write_22 (by decide) (fun hc => ?_) (fun hc => ?_)
    · rw [if_neg hc] at h
      refine jw_iconst (v := (0 : Int32)) hX dX6_write_29 (by decide) ?_
      refine jw_istore hX [(4, .int (0 : Int32)), (3, .ref r7), (2, .ref r2), (0, .ref v0), (1, .int v1)] dX6_write_30 (by decide) rfl ?_
      refine jw_iload hX dX6_write_32 0 rfl ?_
      refine jw_if_eq (tgt := 55) hX dX6_write_34 (by decide) (fun hc => ?_) (fun hc => ?_)
      · rw [if_pos hc] at h
        refine jw_aload_n hX dX6_write_55 rfl 3 rfl ?_
        obtain ⟨ho56_1, h⟩ := h
        obtain ⟨q56, hr56, h⟩ := h
        refine jw_pgetR hX hT 6 3 rfl (by decide) (by decide) rfl inX6_write_6 rfl lkX6_write_31 ho56_1 hr56 dX6_write_56 ?_
        refine jw_iload_n hX dX6_write_59 rfl 4 rfl ?_
        refine jw_aload_n hX dX6_write_60 rfl 1 rfl ?_
        obtain ⟨ho61_6, h⟩ := h
        obtain ⟨r61, w61, hc61, h⟩ := h
        refine jw_pVr (As := [.int v1, .ref r7]) hX (GP_ok gs) hGX 2 (kJx4a65c_set_bcc79 hT hc61) gX6_write_Jx4a65c_set_bcc79 rfl hdJx4a65c_set_bcc79 ⟨by decide, by decide⟩ 0 rfl (by decide) ho61_6 rfl (Nat.le_of_ble_eq_true rfl) dX6_write_61 rfl rfl ⟨by decide, by decide⟩ ?_
        refine jw_pop hX dX6_write_64 rfl ?_
        refine jw_aload_n hX dX6_write_65 rfl 3 rfl ?_
        obtain ⟨ho66_11, h⟩ := h
        obtain ⟨q66, hr66, h⟩ := h
        refine jw_pgetR hX hT 6 0 rfl (by decide) (by decide) rfl inX6_write_6 rfl lkX6_write_14 ho66_11 hr66 dX6_write_66 ?_
        obtain ⟨ho69_14, h⟩ := h
        obtain ⟨w69, hc69, h⟩ := h
        refine jw_pVv (As := []) hX (GP_ok gs) hGX 0 (kX4_empty hT hc69) gX6_write_X4_empty rfl hdX4_empty ⟨by decide, by decide⟩ 5 rfl (by decide) ho69_14 rfl (Nat.le_of_ble_eq_true rfl) dX6_write_69 rfl rfl ⟨by decide, by decide⟩ ?_
        refine jw_iload hX dX6_write_72 0 rfl ?_
        obtain ⟨hz74, h⟩ := h
        exact hret _ _ _ _ _ _ (b01_or hz74) (by decide) (by decide) dX6_write_74 (hro _ _ h)
      · rw [if_neg hc] at h
        refine jw_aload_n hX dX6_write_37 rfl 3 rfl ?_
        refine jw_iload_n hX dX6_write_38 rfl 4 rfl ?_
        obtain ⟨ho39_2, h⟩ := h
        obtain ⟨r39, hc39, h⟩ := h
        refine jw_pVi (As := [.int v1]) hX (GP_ok gs) hGX 1 (kX6_freezes hT hc39) gX6_write_X6_freezes rfl hdX6_freezes ⟨by decide, by decide⟩ 6 rfl (by decide) ho39_2 rfl (Nat.le_of_ble_eq_true rfl) dX6_write_39 rfl rfl ⟨by decide, by decide⟩ ?_
        refine jw_if_eq (tgt := 55) hX dX6_write_42 (by decide) (fun hc => ?_) (fun hc => ?_)
        · rw [if_pos hc] at h
          refine jw_aload_n hX dX6_write_55 rfl 3 rfl ?_
          obtain ⟨ho56_1, h⟩ := h
          obtain ⟨q56, hr56, h⟩ := h
          refine jw_pgetR hX hT 6 3 rfl (by decide) (by decide) rfl inX6_write_6 rfl lkX6_write_31 ho56_1 hr56 dX6_write_56 ?_
          refine jw_iload_n hX dX6_write_59 rfl 4 rfl ?_
          refine jw_aload_n hX dX6_write_60 rfl 1 rfl ?_
          obtain ⟨ho61_6, h⟩ := h
          obtain ⟨r61, w61, hc61, h⟩ := h
          refine jw_pVr (As := [.int v1, .ref r7]) hX (GP_ok gs) hGX 2 (kJx4a65c_set_bcc79 hT hc61) gX6_write_Jx4a65c_set_bcc79 rfl hdJx4a65c_set_bcc79 ⟨by decide, by decide⟩ 0 rfl (by decide) ho61_6 rfl (Nat.le_of_ble_eq_true rfl) dX6_write_61 rfl rfl ⟨by decide, by decide⟩ ?_
          refine jw_pop hX dX6_write_64 rfl ?_
          refine jw_aload_n hX dX6_write_65 rfl 3 rfl ?_
          obtain ⟨ho66_11, h⟩ := h
          obtain ⟨q66, hr66, h⟩ := h
          refine jw_pgetR hX hT 6 0 rfl (by decide) (by decide) rfl inX6_write_6 rfl lkX6_write_14 ho66_11 hr66 dX6_write_66 ?_
          obtain ⟨ho69_14, h⟩ := h
          obtain ⟨w69, hc69, h⟩ := h
          refine jw_pVv (As := []) hX (GP_ok gs) hGX 0 (kX4_empty hT hc69) gX6_write_X4_empty rfl hdX4_empty ⟨by decide, by decide⟩ 5 rfl (by decide) ho69_14 rfl (Nat.le_of_ble_eq_true rfl) dX6_write_69 rfl rfl ⟨by decide, by decide⟩ ?_
          refine jw_iload hX dX6_write_72 0 rfl ?_
          obtain ⟨hz74, h⟩ := h
          exact hret _ _ _ _ _ _ (b01_or hz74) (by decide) (by decide) dX6_write_74 (hro _ _ h)
        · rw [if_neg hc] at h
          exact jw_throwS (is := 94) (text := "the entry is frozen") hX hGX hQ (by decide +kernel) (by decide +kernel) tkX6_write_IS.1 tkX6_write_IS.2 (by decide +kernel) taX6_write_IS tbIS gNc_on tgIS dX6_write_45 dX6_write_48 dX6_write_49 dX6_write_51 dX6_write_54 (Nat.le_of_ble_eq_true rfl) (Nat.le_of_ble_eq_true rfl) (Nat.le_of_ble_eq_true rfl) (Nat.le_of_ble_eq_true rfl) (hrx _ _ h)
    · rw [if_pos hc] at h
      refine jw_iconst (v := (1 : Int32)) hX dX6_write_25 (by decide) ?_
      refine jw_goto (tgt := 30) hX dX6_write_26 (by decide) ?_
      refine jw_istore hX [(4, .int (1 : Int32)), (3, .ref r7), (2, .ref r2), (0, .ref v0), (1, .int v1)] dX6_write_30 (by decide) rfl ?_
      refine jw_iload hX dX6_write_32 0 rfl ?_
      refine jw_if_eq (tgt := 55) hX dX6_write_34 (by decide) (fun hc => ?_) (fun hc => ?_)
      · rw [if_pos hc] at h
        refine jw_aload_n hX dX6_write_55 rfl 3 rfl ?_
        obtain ⟨ho56_1, h⟩ := h
        obtain ⟨q56, hr56, h⟩ := h
        refine jw_pgetR hX hT 6 3 rfl (by decide) (by decide) rfl inX6_write_6 rfl lkX6_write_31 ho56_1 hr56 dX6_write_56 ?_
        refine jw_iload_n hX dX6_write_59 rfl 4 rfl ?_
        refine jw_aload_n hX dX6_write_60 rfl 1 rfl ?_
        obtain ⟨ho61_6, h⟩ := h
        obtain ⟨r61, w61, hc61, h⟩ := h
        refine jw_pVr (As := [.int v1, .ref r7]) hX (GP_ok gs) hGX 2 (kJx4a65c_set_bcc79 hT hc61) gX6_write_Jx4a65c_set_bcc79 rfl hdJx4a65c_set_bcc79 ⟨by decide, by decide⟩ 0 rfl (by decide) ho61_6 rfl (Nat.le_of_ble_eq_true rfl) dX6_write_61 rfl rfl ⟨by decide, by decide⟩ ?_
        refine jw_pop hX dX6_write_64 rfl ?_
        refine jw_aload_n hX dX6_write_65 rfl 3 rfl ?_
        obtain ⟨ho66_11, h⟩ := h
        obtain ⟨q66, hr66, h⟩ := h
        refine jw_pgetR hX hT 6 0 rfl (by decide) (by decide) rfl inX6_write_6 rfl lkX6_write_14 ho66_11 hr66 dX6_write_66 ?_
        obtain ⟨ho69_14, h⟩ := h
        obtain ⟨w69, hc69, h⟩ := h
        refine jw_pVv (As := []) hX (GP_ok gs) hGX 0 (kX4_empty hT hc69) gX6_write_X4_empty rfl hdX4_empty ⟨by decide, by decide⟩ 5 rfl (by decide) ho69_14 rfl (Nat.le_of_ble_eq_true rfl) dX6_write_69 rfl rfl ⟨by decide, by decide⟩ ?_
        refine jw_iload hX dX6_write_72 0 rfl ?_
        obtain ⟨hz74, h⟩ := h
        exact hret _ _ _ _ _ _ (b01_or hz74) (by decide) (by decide) dX6_write_74 (hro _ _ h)
      · rw [if_neg hc] at h
        refine jw_aload_n hX dX6_write_37 rfl 3 rfl ?_
        refine jw_iload_n hX dX6_write_38 rfl 4 rfl ?_
        obtain ⟨ho39_2, h⟩ := h
        obtain ⟨r39, hc39, h⟩ := h
        refine jw_pVi (As := [.int v1]) hX (GP_ok gs) hGX 1 (kX6_freezes hT hc39) gX6_write_X6_freezes rfl hdX6_freezes ⟨by decide, by decide⟩ 6 rfl (by decide) ho39_2 rfl (Nat.le_of_ble_eq_true rfl) dX6_write_39 rfl rfl ⟨by decide, by decide⟩ ?_
        refine jw_if_eq (tgt := 55) hX dX6_write_42 (by decide) (fun hc => ?_) (fun hc => ?_)
        · rw [if_pos hc] at h
          refine jw_aload_n hX dX6_write_55 rfl 3 rfl ?_
          obtain ⟨ho56_1, h⟩ := h
          obtain ⟨q56, hr56, h⟩ := h
          refine jw_pgetR hX hT 6 3 rfl (by decide) (by decide) rfl inX6_write_6 rfl lkX6_write_31 ho56_1 hr56 dX6_write_56 ?_
          refine jw_iload_n hX dX6_write_59 rfl 4 rfl ?_
          refine jw_aload_n hX dX6_write_60 rfl 1 rfl ?_
          obtain ⟨ho61_6, h⟩ := h
          obtain ⟨r61, w61, hc61, h⟩ := h
          refine jw_pVr (As := [.int v1, .ref r7]) hX (GP_ok gs) hGX 2 (kJx4a65c_set_bcc79 hT hc61) gX6_write_Jx4a65c_set_bcc79 rfl hdJx4a65c_set_bcc79 ⟨by decide, by decide⟩ 0 rfl (by decide) ho61_6 rfl (Nat.le_of_ble_eq_true rfl) dX6_write_61 rfl rfl ⟨by decide, by decide⟩ ?_
          refine jw_pop hX dX6_write_64 rfl ?_
          refine jw_aload_n hX dX6_write_65 rfl 3 rfl ?_
          obtain ⟨ho66_11, h⟩ := h
          obtain ⟨q66, hr66, h⟩ := h
          refine jw_pgetR hX hT 6 0 rfl (by decide) (by decide) rfl inX6_write_6 rfl lkX6_write_14 ho66_11 hr66 dX6_write_66 ?_
          obtain ⟨ho69_14, h⟩ := h
          obtain ⟨w69, hc69, h⟩ := h
          refine jw_pVv (As := []) hX (GP_ok gs) hGX 0 (kX4_empty hT hc69) gX6_write_X4_empty rfl hdX4_empty ⟨by decide, by decide⟩ 5 rfl (by decide) ho69_14 rfl (Nat.le_of_ble_eq_true rfl) dX6_write_69 rfl rfl ⟨by decide, by decide⟩ ?_
          refine jw_iload hX dX6_write_72 0 rfl ?_
          obtain ⟨hz74, h⟩ := h
          exact hret _ _ _ _ _ _ (b01_or hz74) (by decide) (by decide) dX6_write_74 (hro _ _ h)
        · rw [if_neg hc] at h
          exact jw_throwS (is := 94) (text := "the entry is frozen") hX hGX hQ (by decide +kernel) (by decide +kernel) tkX6_write_IS.1 tkX6_write_IS.2 (by decide +kernel) taX6_write_IS tbIS gNc_on tgIS dX6_write_45 dX6_write_48 dX6_write_49 dX6_write_51 dX6_write_54 (Nat.le_of_ble_eq_true rfl) (Nat.le_of_ble_eq_true rfl) (Nat.le_of_ble_eq_true rfl) (Nat.le_of_ble_eq_true rfl) (hrx _ _ h)
set_option maxRecDepth 100000 in
set_option maxHeartbeats 4000000 in
theorem kX6_write {l : Launch} {D : va_G} {tys : List (ClassId × FieldType)} {cI cZ cO cJ : ClassId} {gs : JP} {n : Nat} {S : PS} {v0 : Nat} {v1 : Int32} {Q : Int32 → PS → Prop} {Qx : Nat → PS → Prop} (hl : l.stackTraces = false) (hT : tys = jTy cI cZ cO cJ) (h : fX6_write gs n S v0 v1 Q Qx) : CX l (GP gs) D tys yX6_write wsX6_write rmX6_write [.ref v0, .int v1] (pW cI cO S) (fun ov w2 => ∃ (r : Int32) (w9 : PS), Q r w9 ∧ ov = some (.int r) ∧ w2 = pW cI cO w9) (fun E w2 => ∃ (x : Nat) (w9 : PS), Qx x w9 ∧ E = exN x ∧ w2 = pW cI cO w9) := by
  refine CX_of (cc := cX6_write) (maxL := 5) (ret := (some .boolean)) hl (by decide) rfl (Nat.le_of_ble_eq_true rfl) ?_
  intro X hD hL hT0 hGX hX hQ rI rZ rV rA
  exact sX6_write (post := (fun ov w2 => ∃ (r : Int32) (w9 : PS), Q r w9 ∧ ov = some (.int r) ∧ w2 = pW cI cO w9)) (px := (fun E w2 => ∃ (x : Nat) (w9 : PS), Qx x w9 ∧ E = exN x ∧ w2 = pW cI cO w9)) hX (hT0.trans hT) hGX (rZ rfl) hQ (fun r w9 hq => ⟨r, w9, hq, rfl, rfl⟩) (fun x w9 hq => ⟨x, w9, hq, rfl, rfl⟩) h
/-! X6_rule -/
abbrev rmX6_rule : Room := { frames := 7, cells := 6, slots := 93, locals := 171 }
theorem hdX6_rule : yX6_rule.cls = RX6 ∧ yX6_rule.cls ≠ "java/lang/invoke/MethodHandle" ∧ yX6_rule.cls ≠ "java/lang/invoke/VarHandle" ∧ (parseMethodDescriptor yX6_rule.desc).map (fun d => d.parameters.length) = some 4 := by decide +kernel
theorem lkX6_rule_35 : Cond.fieldLink RX6 35 RX6 (TX6 4).2.1 (TX6 4).2.2.1 ∈ wsX6_rule := by decide +kernel
theorem inX6_rule_6 : ∀ w ∈ wsX60, w ∈ wsX6_rule := fun _ h => List.mem_cons_of_mem _ (List.mem_append_left _ (List.mem_append_left _ (List.mem_append_left _ (List.mem_append_left _ (List.mem_append_right _ h)))))
theorem nlX6_rule_126 : Cond.classLink RX6 126 RX3 ∈ wsX6_rule := by decide +kernel
theorem niX6_rule_4 : Cond.instantiable RX3 5 ∈ wsX6_rule := by decide +kernel
theorem njX6_rule_4 : Cond.initialized RX3 ∈ wsX6_rule := by decide +kernel
theorem inX6_rule_4 : ∀ w ∈ wsX30, w ∈ wsX6_rule := fun _ h => List.mem_cons_of_mem _ (List.mem_append_left _ (List.mem_append_left _ (List.mem_append_left _ (List.mem_append_right _ h))))
theorem ilX6_rule_128 : Cond.methodLink RX6 128 yX3_init ∈ wsX6_rule := by decide +kernel
theorem iiX6_rule_X3_init : Cond.initialized yX3_init.cls ∈ wsX6_rule := by decide +kernel
theorem ijX6_rule_X3_init : Cond.instanceMethod yX3_init ∈ wsX6_rule := by decide +kernel
theorem tkX6_rule_IS : Cond.classLink "Postlint" 52 "java/lang/IllegalStateException" ∈ wsX6_rule ∧ Cond.initialized "java/lang/IllegalStateException" ∈ wsX6_rule := by decide +kernel
theorem taX6_rule_IS : ∀ w ∈ (vx_atS "Postlint" 56 "java/lang/IllegalStateException" ["java/lang/RuntimeException", "java/lang/Exception"]).filter goodWord, w ∈ wsX6_rule := fun _ h => List.mem_cons_of_mem _ (List.mem_append_left _ (List.mem_append_right _ h))
def fX6_rule (gs : JP) (S : PS) (v0 : Nat) (v1 : Int32) (v2 : Int32) (v3 : Int32) (v4 : Int32) (Q : Int32 → PS → Prop) (Qx : Nat → PS → Prop) : Prop := bSW (fX6_needRuleKind v1 v2 v3) (fun ex => Qx ex S) (fun _ => bSW (fX6_needAccount v2) (fun ex => Qx ex S) (fun _ => bSW (fX6_needAccount v3) (fun ex => Qx ex S) (fun _ => bSW (fX6_needRuleNumber v1 v4) (fun ex => Qx ex S) (fun _ => chkW (okP S v0 6) (bPW (sR S 64 v0) (fun q21 => chkW (okP S q21 0) (bPW (fJx4a65c_size_8abf5 S q21) (fun r24 => (if r24 < (8 : Int32) then chkW (okP S v0 6) (bPW (sR S 64 v0) (fun q43 => newW S (fun q46 => bndW (pNw S q46 4) (fun z46 => fX3_init gs z46 q46 v1 v2 v3 v4 (fun w55 => chkW (okP w55 q43 0) (fJx4a65c_add_9ea2d gs w55 q43 q46 (fun r58 w58 => chkW (okP w58 v0 6) (bPW (sR w58 64 v0) (fun q63 => chkW (okP w58 q63 0) (bPW (fJx4a65c_size_8abf5 w58 q63) (fun r66 => Q (r66 - (1 : Int32)) w58))))))))))) else Qx 1 S)))))))))
set_option maxRecDepth 100000 in
set_option maxHeartbeats 4000000 in
theorem sX6_rule {X : JX} {cI cZ cO cJ : ClassId} {gs : JP} {post : Option Value → va_W → Prop} (hX : jOK X cX6_rule 5 wsX6_rule RX6 rmX6_rule) (hT : jT X = jTy cI cZ cO cJ) (hGX : jG X (GP gs)) (hret : jRI X cX6_rule rmX6_rule post) {w0 : va_W} {px : String → va_W → Prop} (hQ : jXQ X w0 rmX6_rule post px) {Q : Int32 → PS → Prop} {Qx : Nat → PS → Prop} (hro : ∀ (v9 : Int32) (w9 : PS), Q v9 w9 → post (some (.int v9)) (pW cI cO w9)) (hrx : ∀ (x9 : Nat) (w9 : PS), Qx x9 w9 → px (exN x9) (pW cI cO w9)) {S : PS} {v0 : Nat} {v1 : Int32} {v2 : Int32} {v3 : Int32} {v4 : Int32} (h : fX6_rule gs S v0 v1 v2 v3 v4 Q Qx) : JW X 0 0 (pW cI cO S) 0 [(0, .ref v0), (1, .int v1), (2, .int v2), (3, .int v3), (4, .int v4)] [] := by
  unfold fX6_rule at h
  refine jw_iload_n hX dX6_rule_0 rfl 1 rfl ?_
  refine jw_iload_n hX dX6_rule_1 rfl 2 rfl ?_
  refine jw_iload_n hX dX6_rule_2 rfl 3 rfl ?_
  rcases h with ⟨ex, hl3, h⟩ | ⟨_, hl3, h⟩
  · exact jw_cSx (As := [.int v1, .int v2, .int v3]) hX (GP_ok gs) hGX hQ 3 (kxX6_needRuleKind (jXQ_tr hQ) hT hl3) gX6_rule_X6_needRuleKind rfl hdX6_needRuleKind ⟨by decide, by decide⟩ rfl (Nat.le_of_ble_eq_true rfl) dX6_rule_3 ⟨by decide, by decide⟩ (hrx _ _ h)
  · refine jw_cSXv (As := [.int v1, .int v2, .int v3]) hX (GP_ok gs) hGX 3 (kX6_needRuleKind (jXQ_tr hQ) hT hl3) gX6_rule_X6_needRuleKind rfl hdX6_needRuleKind ⟨by decide, by decide⟩ rfl (Nat.le_of_ble_eq_true rfl) dX6_rule_3 rfl rfl ⟨by decide, by decide⟩ ?_
    refine jw_iload_n hX dX6_rule_6 rfl 2 rfl ?_
    rcases h with ⟨ex, hl7, h⟩ | ⟨_, hl7, h⟩
    · exact jw_cSx (As := [.int v2]) hX (GP_ok gs) hGX hQ 1 (kxX6_needAccount (jXQ_tr hQ) hT hl7) gX6_rule_X6_needAccount rfl hdX6_needAccount ⟨by decide, by decide⟩ rfl (Nat.le_of_ble_eq_true rfl) dX6_rule_7 ⟨by decide, by decide⟩ (hrx _ _ h)
    · refine jw_cSXv (As := [.int v2]) hX (GP_ok gs) hGX 1 (kX6_needAccount (jXQ_tr hQ) hT hl7) gX6_rule_X6_needAccount rfl hdX6_needAccount ⟨by decide, by decide⟩ rfl (Nat.le_of_ble_eq_true rfl) dX6_rule_7 rfl rfl ⟨by decide, by decide⟩ ?_
      refine jw_iload_n hX dX6_rule_10 rfl 3 rfl ?_
      rcases h with ⟨ex, hl11, h⟩ | ⟨_, hl11, h⟩
      · exact jw_cSx (As := [.int v3]) hX (GP_ok gs) hGX hQ 1 (kxX6_needAccount (jXQ_tr hQ) hT hl11) gX6_rule_X6_needAccount rfl hdX6_needAccount ⟨by decide, by decide⟩ rfl (Nat.le_of_ble_eq_true rfl) dX6_rule_11 ⟨by decide, by decide⟩ (hrx _ _ h)
      · refine jw_cSXv (As := [.int v3]) hX (GP_ok gs) hGX 1 (kX6_needAccount (jXQ_tr hQ) hT hl11) gX6_rule_X6_needAccount rfl hdX6_needAccount ⟨by decide, by decide⟩ rfl (Nat.le_of_ble_eq_true rfl) dX6_rule_11 rfl rfl ⟨by decide, by decide⟩ ?_
        refine jw_iload_n hX dX6_rule_14 rfl 1 rfl ?_
        refine jw_iload hX dX6_rule_15 4 rfl ?_
        rcases h with ⟨ex, hl17, h⟩ | ⟨_, hl17, h⟩
        · exact jw_cSx (As := [.int v1, .int v4]) hX (GP_ok gs) hGX hQ 2 (kxX6_needRuleNumber (jXQ_tr hQ) hT hl17) gX6_rule_X6_needRuleNumber rfl hdX6_needRuleNumber ⟨by decide, by decide⟩ rfl (Nat.le_of_ble_eq_true rfl) dX6_rule_17 ⟨by decide, by decide⟩ (hrx _ _ h)
        · refine jw_cSXv (As := [.int v1, .int v4]) hX (GP_ok gs) hGX 2 (kX6_needRuleNumber (jXQ_tr hQ) hT hl17) gX6_rule_X6_needRuleNumber rfl hdX6_needRuleNumber ⟨by decide, by decide⟩ rfl (Nat.le_of_ble_eq_true rfl) dX6_rule_17 rfl rfl ⟨by decide, by decide⟩ ?_
          refine jw_aload_n hX dX6_rule_20 rfl 0 rfl ?_
          obtain ⟨ho21_1, h⟩ := h
          obtain ⟨q21, hr21, h⟩ := h
          refine jw_pgetR hX hT 6 4 rfl (by decide) (by decide) rfl inX6_rule_6 rfl lkX6_rule_35 ho21_1 hr21 dX6_rule_21 ?_
          obtain ⟨ho24_4, h⟩ := h
          obtain ⟨r24, hc24, h⟩ := h
          refine jw_pVi (As := []) hX (GP_ok gs) hGX 0 (kJx4a65c_size_8abf5 hT hc24) gX6_rule_Jx4a65c_size_8abf5 rfl hdJx4a65c_size_8abf5 ⟨by decide, by decide⟩ 0 rfl (by decide) ho24_4 rfl (Nat.le_of_ble_eq_true rfl) dX6_rule_24 rfl rfl ⟨by decide, by decide⟩ ?_
          refine jw_bipush (v := (8 : Int32)) hX dX6_rule_27 (by decide) ?_
          refine jw_icmp_lt (tgt := 42) hX dX6_rule_29 (by decide) (fun hc => ?_) (fun hc => ?_)
          · rw [if_pos hc] at h
            refine jw_aload_n hX dX6_rule_42 rfl 0 rfl ?_
            obtain ⟨ho43_1, h⟩ := h
            obtain ⟨q43, hr43, h⟩ := h
            refine jw_pgetR hX hT 6 4 rfl (by decide) (by decide) rfl inX6_rule_6 rfl lkX6_rule_35 ho43_1 hr43 dX6_rule_43 ?_
            refine jw_pnew hX hT 4 rfl (by decide) inX6_rule_4 tyX3 tyX3_ok nzero4 nlX6_rule_126 niX6_rule_4 njX6_rule_4 ⟨by decide, by decide⟩ dX6_rule_46 (fun q46 hq46 => ?_)
            replace h := newW_use h q46 hq46
            obtain ⟨z46, e46⟩ : ∃ z, z = (pNw S q46 4) := ⟨_, rfl⟩
            replace h := bndW_use h z46 e46
            rw [← e46]
            clear e46
            refine jw_dup hX dX6_rule_49 rfl ?_
            refine jw_iload_n hX dX6_rule_50 rfl 1 rfl ?_
            refine jw_iload_n hX dX6_rule_51 rfl 2 rfl ?_
            refine jw_iload_n hX dX6_rule_52 rfl 3 rfl ?_
            refine jw_iload hX dX6_rule_53 4 rfl ?_
            refine jw_pI (As := [.int v1, .int v2, .int v3, .int v4]) hX (GP_ok gs) hGX 4 (kX3_init hT h) gX6_rule_X3_init rfl ilX6_rule_128 iiX6_rule_X3_init ijX6_rule_X3_init rfl hdX3_init ⟨by decide, by decide⟩ rfl (Nat.le_of_ble_eq_true rfl) dX6_rule_55 rfl rfl ⟨by decide, by decide⟩ (fun w55 h => ?_)
            obtain ⟨ho58_0, h⟩ := h
            refine jw_pVEi (As := [.ref q46]) hX (GP_ok gs) hGX 1 (kJx4a65c_add_9ea2d hT h) gX6_rule_Jx4a65c_add_9ea2d rfl hdJx4a65c_add_9ea2d ⟨by decide, by decide⟩ 0 rfl (by decide) ho58_0 rfl (Nat.le_of_ble_eq_true rfl) dX6_rule_58 rfl rfl ⟨by decide, by decide⟩ (fun r58 w58 h => ?_)
            refine jw_pop hX dX6_rule_61 rfl ?_
            refine jw_aload_n hX dX6_rule_62 rfl 0 rfl ?_
            obtain ⟨ho63_2, h⟩ := h
            obtain ⟨q63, hr63, h⟩ := h
            refine jw_pgetR hX hT 6 4 rfl (by decide) (by decide) rfl inX6_rule_6 rfl lkX6_rule_35 ho63_2 hr63 dX6_rule_63 ?_
            obtain ⟨ho66_5, h⟩ := h
            obtain ⟨r66, hc66, h⟩ := h
            refine jw_pVi (As := []) hX (GP_ok gs) hGX 0 (kJx4a65c_size_8abf5 hT hc66) gX6_rule_Jx4a65c_size_8abf5 rfl hdJx4a65c_size_8abf5 ⟨by decide, by decide⟩ 0 rfl (by decide) ho66_5 rfl (Nat.le_of_ble_eq_true rfl) dX6_rule_66 rfl rfl ⟨by decide, by decide⟩ ?_
            refine jw_iconst (v := (1 : Int32)) hX dX6_rule_69 (by decide) ?_
            refine jw_isub hX dX6_rule_70 ?_
            exact hret _ _ _ _ _ _ (by decide) (by decide) dX6_rule_71 (hro _ _ h)
          · rw [if_neg hc] at h
            exact jw_throwS (is := 124) (text := "there are too many rules") hX hGX hQ (by decide +kernel) (by decide +kernel) tkX6_rule_IS.1 tkX6_rule_IS.2 (by decide +kernel) taX6_rule_IS tbIS gNc_on tgIS dX6_rule_32 dX6_rule_35 dX6_rule_36 dX6_rule_38 dX6_rule_41 (Nat.le_of_ble_eq_true rfl) (Nat.le_of_ble_eq_true rfl) (Nat.le_of_ble_eq_true rfl) (Nat.le_of_ble_eq_true rfl) (hrx _ _ h)
set_option maxRecDepth 100000 in
set_option maxHeartbeats 4000000 in
theorem kX6_rule {l : Launch} {D : va_G} {tys : List (ClassId × FieldType)} {cI cZ cO cJ : ClassId} {gs : JP} {S : PS} {v0 : Nat} {v1 : Int32} {v2 : Int32} {v3 : Int32} {v4 : Int32} {Q : Int32 → PS → Prop} {Qx : Nat → PS → Prop} (hl : l.stackTraces = false) (hT : tys = jTy cI cZ cO cJ) (h : fX6_rule gs S v0 v1 v2 v3 v4 Q Qx) : CX l (GP gs) D tys yX6_rule wsX6_rule rmX6_rule [.ref v0, .int v1, .int v2, .int v3, .int v4] (pW cI cO S) (fun ov w2 => ∃ (r : Int32) (w9 : PS), Q r w9 ∧ ov = some (.int r) ∧ w2 = pW cI cO w9) (fun E w2 => ∃ (x : Nat) (w9 : PS), Qx x w9 ∧ E = exN x ∧ w2 = pW cI cO w9) := by
  refine CX_of (cc := cX6_rule) (maxL := 5) (ret := (some .int)) hl (by decide) rfl (Nat.le_of_ble_eq_true rfl) ?_
  intro X hD hL hT0 hGX hX hQ rI rZ rV rA
  exact sX6_rule (post := (fun ov w2 => ∃ (r : Int32) (w9 : PS), Q r w9 ∧ ov = some (.int r) ∧ w2 = pW cI cO w9)) (px := (fun E w2 => ∃ (x : Nat) (w9 : PS), Qx x w9 ∧ E = exN x ∧ w2 = pW cI cO w9)) hX (hT0.trans hT) hGX (rI rfl) hQ (fun r w9 hq => ⟨r, w9, hq, rfl, rfl⟩) (fun x w9 hq => ⟨x, w9, hq, rfl, rfl⟩) h
/-! X6_audit -/
abbrev rmX6_audit : Room := { frames := 7, cells := 4, slots := 80, locals := 171 }
theorem hdX6_audit : yX6_audit.cls = RX6 ∧ yX6_audit.cls ≠ "java/lang/invoke/MethodHandle" ∧ yX6_audit.cls ≠ "java/lang/invoke/VarHandle" ∧ (parseMethodDescriptor yX6_audit.desc).map (fun d => d.parameters.length) = some 2 := by decide +kernel
theorem lkX6_audit_38 : Cond.fieldLink RX6 38 RX6 (TX6 5).2.1 (TX6 5).2.2.1 ∈ wsX6_audit := by decide +kernel
theorem inX6_audit_6 : ∀ w ∈ wsX60, w ∈ wsX6_audit := fun _ h => List.mem_cons_of_mem _ (List.mem_append_left _ (List.mem_append_left _ (List.mem_append_left _ (List.mem_append_left _ (List.mem_append_left _ (List.mem_append_left _ (List.mem_append_left _ (List.mem_append_right _ h))))))))
theorem nlX6_audit_151 : Cond.classLink RX6 151 RX0 ∈ wsX6_audit := by decide +kernel
theorem niX6_audit_1 : Cond.instantiable RX0 4 ∈ wsX6_audit := by decide +kernel
theorem njX6_audit_1 : Cond.initialized RX0 ∈ wsX6_audit := by decide +kernel
theorem inX6_audit_1 : ∀ w ∈ wsX00, w ∈ wsX6_audit := fun _ h => List.mem_cons_of_mem _ (List.mem_append_left _ (List.mem_append_left _ (List.mem_append_left _ (List.mem_append_left _ (List.mem_append_left _ (List.mem_append_left _ (List.mem_append_right _ h)))))))
theorem ilX6_audit_157 : Cond.methodLink RX6 157 yX0_init ∈ wsX6_audit := by decide +kernel
theorem iiX6_audit_X0_init : Cond.initialized yX0_init.cls ∈ wsX6_audit := by decide +kernel
theorem ijX6_audit_X0_init : Cond.instanceMethod yX0_init ∈ wsX6_audit := by decide +kernel
theorem tkX6_audit_IS : Cond.classLink "Postlint" 52 "java/lang/IllegalStateException" ∈ wsX6_audit ∧ Cond.initialized "java/lang/IllegalStateException" ∈ wsX6_audit := by decide +kernel
theorem taX6_audit_IS : ∀ w ∈ (vx_atS "Postlint" 56 "java/lang/IllegalStateException" ["java/lang/RuntimeException", "java/lang/Exception"]).filter goodWord, w ∈ wsX6_audit := fun _ h => List.mem_cons_of_mem _ (List.mem_append_left _ (List.mem_append_right _ h))
theorem tkX6_audit_IA : Cond.classLink "Postlint" 41 "java/lang/IllegalArgumentException" ∈ wsX6_audit ∧ Cond.initialized "java/lang/IllegalArgumentException" ∈ wsX6_audit := by decide +kernel
theorem taX6_audit_IA : ∀ w ∈ (vx_atS "Postlint" 45 "java/lang/IllegalArgumentException" ["java/lang/RuntimeException", "java/lang/Exception"]).filter goodWord, w ∈ wsX6_audit := fun _ h => List.mem_cons_of_mem _ (List.mem_append_left _ (List.mem_append_left _ (List.mem_append_right _ h)))
def fX6_audit (gs : JP) (n : Nat) (S : PS) (v0 : Nat) (v1 : Int32) (v2 : Int32) (Q : Int32 → PS → Prop) (Qx : Nat → PS → Prop) : Prop := chkW (okP S v0 6) (bSW (fX6_needEntry S v0 v1) (fun ex => Qx ex S) (fun _ => chkW (okP S v0 6) (bSW (fX6_needEntry S v0 v2) (fun ex => Qx ex S) (fun _ => (if v1 ≤ v2 then chkW (okP S v0 6) (bPW (sR S 65 v0) (fun q26 => chkW (okP S q26 0) (bPW (fJx4a65c_size_8abf5 S q26) (fun r29 => (if r29 < (6 : Int32) then chkW (okP S v0 6) (bPW (sR S 65 v0) (fun q48 => newW S (fun q51 => bndW (pNw S q51 1) (fun z51 => chkW (okP z51 v0 6) (bPW (fX6_chainUpTo n z51 v0 v2) (fun r59 => fX0_init gs z51 q51 v1 v2 r59 (fun w62 => chkW (okP w62 q48 0) (fJx4a65c_add_9ea2d gs w62 q48 q51 (fun r65 w65 => chkW (okP w65 v0 6) (bPW (sR w65 65 v0) (fun q70 => chkW (okP w65 q70 0) (bPW (fJx4a65c_size_8abf5 w65 q70) (fun r73 => Q (r73 - (1 : Int32)) w65))))))))))))) else Qx 1 S))))) else Qx 0 S)))))
set_option maxRecDepth 100000 in
set_option maxHeartbeats 4000000 in
theorem sX6_audit {X : JX} {cI cZ cO cJ : ClassId} {gs : JP} {n : Nat} {post : Option Value → va_W → Prop} (hX : jOK X cX6_audit 3 wsX6_audit RX6 rmX6_audit) (hT : jT X = jTy cI cZ cO cJ) (hGX : jG X (GP gs)) (hret : jRI X cX6_audit rmX6_audit post) {w0 : va_W} {px : String → va_W → Prop} (hQ : jXQ X w0 rmX6_audit post px) {Q : Int32 → PS → Prop} {Qx : Nat → PS → Prop} (hro : ∀ (v9 : Int32) (w9 : PS), Q v9 w9 → post (some (.int v9)) (pW cI cO w9)) (hrx : ∀ (x9 : Nat) (w9 : PS), Qx x9 w9 → px (exN x9) (pW cI cO w9)) {S : PS} {v0 : Nat} {v1 : Int32} {v2 : Int32} (h : fX6_audit gs n S v0 v1 v2 Q Qx) : JW X 0 0 (pW cI cO S) 0 [(0, .ref v0), (1, .int v1), (2, .int v2)] [] := by
  unfold fX6_audit at h
  refine jw_aload_n hX dX6_audit_0 rfl 0 rfl ?_
  refine jw_iload_n hX dX6_audit_1 rfl 1 rfl ?_
  obtain ⟨ho2_2, h⟩ := h
  rcases h with ⟨ex, hl2, h⟩ | ⟨_, hl2, h⟩
  · exact jw_pVx (As := [.int v1]) hX (GP_ok gs) hGX hQ 1 (kxX6_needEntry (jXQ_tr hQ) hT hl2) gX6_audit_X6_needEntry rfl hdX6_needEntry ⟨by decide, by decide⟩ 6 rfl (by decide) ho2_2 rfl (Nat.le_of_ble_eq_true rfl) dX6_audit_2 ⟨by decide, by decide⟩ (hrx _ _ h)
  · refine jw_pVXv (As := [.int v1]) hX (GP_ok gs) hGX 1 (kX6_needEntry (jXQ_tr hQ) hT hl2) gX6_audit_X6_needEntry rfl hdX6_needEntry ⟨by decide, by decide⟩ 6 rfl (by decide) ho2_2 rfl (Nat.le_of_ble_eq_true rfl) dX6_audit_2 rfl rfl ⟨by decide, by decide⟩ ?_
    refine jw_aload_n hX dX6_audit_5 rfl 0 rfl ?_
    refine jw_iload_n hX dX6_audit_6 rfl 2 rfl ?_
    obtain ⟨ho7_2, h⟩ := h
    rcases h with ⟨ex, hl7, h⟩ | ⟨_, hl7, h⟩
    · exact jw_pVx (As := [.int v2]) hX (GP_ok gs) hGX hQ 1 (kxX6_needEntry (jXQ_tr hQ) hT hl7) gX6_audit_X6_needEntry rfl hdX6_needEntry ⟨by decide, by decide⟩ 6 rfl (by decide) ho7_2 rfl (Nat.le_of_ble_eq_true rfl) dX6_audit_7 ⟨by decide, by decide⟩ (hrx _ _ h)
    · refine jw_pVXv (As := [.int v2]) hX (GP_ok gs) hGX 1 (kX6_needEntry (jXQ_tr hQ) hT hl7) gX6_audit_X6_needEntry rfl hdX6_needEntry ⟨by decide, by decide⟩ 6 rfl (by decide) ho7_2 rfl (Nat.le_of_ble_eq_true rfl) dX6_audit_7 rfl rfl ⟨by decide, by decide⟩ ?_
      refine jw_iload_n hX dX6_audit_10 rfl 2 rfl ?_
      refine jw_iload_n hX dX6_audit_11 rfl 1 rfl ?_
      refine jw_icmp_ge (tgt := 25) hX dX6_audit_12 (by decide) (fun hc => ?_) (fun hc => ?_)
      · rw [if_pos hc] at h
        refine jw_aload_n hX dX6_audit_25 rfl 0 rfl ?_
        obtain ⟨ho26_1, h⟩ := h
        obtain ⟨q26, hr26, h⟩ := h
        refine jw_pgetR hX hT 6 5 rfl (by decide) (by decide) rfl inX6_audit_6 rfl lkX6_audit_38 ho26_1 hr26 dX6_audit_26 ?_
        obtain ⟨ho29_4, h⟩ := h
        obtain ⟨r29, hc29, h⟩ := h
        refine jw_pVi (As := []) hX (GP_ok gs) hGX 0 (kJx4a65c_size_8abf5 hT hc29) gX6_audit_Jx4a65c_size_8abf5 rfl hdJx4a65c_size_8abf5 ⟨by decide, by decide⟩ 0 rfl (by decide) ho29_4 rfl (Nat.le_of_ble_eq_true rfl) dX6_audit_29 rfl rfl ⟨by decide, by decide⟩ ?_
        refine jw_bipush (v := (6 : Int32)) hX dX6_audit_32 (by decide) ?_
        refine jw_icmp_lt (tgt := 47) hX dX6_audit_34 (by decide) (fun hc => ?_) (fun hc => ?_)
        · rw [if_pos hc] at h
          refine jw_aload_n hX dX6_audit_47 rfl 0 rfl ?_
          obtain ⟨ho48_1, h⟩ := h
          obtain ⟨q48, hr48, h⟩ := h
          refine jw_pgetR hX hT 6 5 rfl (by decide) (by decide) rfl inX6_audit_6 rfl lkX6_audit_38 ho48_1 hr48 dX6_audit_48 ?_
          refine jw_pnew hX hT 1 rfl (by decide) inX6_audit_1 tyX0 tyX0_ok nzero1 nlX6_audit_151 niX6_audit_1 njX6_audit_1 ⟨by decide, by decide⟩ dX6_audit_51 (fun q51 hq51 => ?_)
          replace h := newW_use h q51 hq51
          obtain ⟨z51, e51⟩ : ∃ z, z = (pNw S q51 1) := ⟨_, rfl⟩
          replace h := bndW_use h z51 e51
          rw [← e51]
          clear e51
          refine jw_dup hX dX6_audit_54 rfl ?_
          refine jw_iload_n hX dX6_audit_55 rfl 1 rfl ?_
          refine jw_iload_n hX dX6_audit_56 rfl 2 rfl ?_
          refine jw_aload_n hX dX6_audit_57 rfl 0 rfl ?_
          refine jw_iload_n hX dX6_audit_58 rfl 2 rfl ?_
          obtain ⟨ho59_15, h⟩ := h
          obtain ⟨r59, hc59, h⟩ := h
          refine jw_pVi (As := [.int v2]) hX (GP_ok gs) hGX 1 (kX6_chainUpTo hT hc59) gX6_audit_X6_chainUpTo rfl hdX6_chainUpTo ⟨by decide, by decide⟩ 6 rfl (by decide) ho59_15 rfl (Nat.le_of_ble_eq_true rfl) dX6_audit_59 rfl rfl ⟨by decide, by decide⟩ ?_
          refine jw_pI (As := [.int v1, .int v2, .int r59]) hX (GP_ok gs) hGX 3 (kX0_init hT h) gX6_audit_X0_init rfl ilX6_audit_157 iiX6_audit_X0_init ijX6_audit_X0_init rfl hdX0_init ⟨by decide, by decide⟩ rfl (Nat.le_of_ble_eq_true rfl) dX6_audit_62 rfl rfl ⟨by decide, by decide⟩ (fun w62 h => ?_)
          obtain ⟨ho65_0, h⟩ := h
          refine jw_pVEi (As := [.ref q51]) hX (GP_ok gs) hGX 1 (kJx4a65c_add_9ea2d hT h) gX6_audit_Jx4a65c_add_9ea2d rfl hdJx4a65c_add_9ea2d ⟨by decide, by decide⟩ 0 rfl (by decide) ho65_0 rfl (Nat.le_of_ble_eq_true rfl) dX6_audit_65 rfl rfl ⟨by decide, by decide⟩ (fun r65 w65 h => ?_)
          refine jw_pop hX dX6_audit_68 rfl ?_
          refine jw_aload_n hX dX6_audit_69 rfl 0 rfl ?_
          obtain ⟨ho70_2, h⟩ := h
          obtain ⟨q70, hr70, h⟩ := h
          refine jw_pgetR hX hT 6 5 rfl (by decide) (by decide) rfl inX6_audit_6 rfl lkX6_audit_38 ho70_2 hr70 dX6_audit_70 ?_
          obtain ⟨ho73_5, h⟩ := h
          obtain ⟨r73, hc73, h⟩ := h
          refine jw_pVi (As := []) hX (GP_ok gs) hGX 0 (kJx4a65c_size_8abf5 hT hc73) gX6_audit_Jx4a65c_size_8abf5 rfl hdJx4a65c_size_8abf5 ⟨by decide, by decide⟩ 0 rfl (by decide) ho73_5 rfl (Nat.le_of_ble_eq_true rfl) dX6_audit_73 rfl rfl ⟨by decide, by decide⟩ ?_
          refine jw_iconst (v := (1 : Int32)) hX dX6_audit_76 (by decide) ?_
          refine jw_isub hX dX6_audit_77 ?_
          exact hret _ _ _ _ _ _ (by decide) (by decide) dX6_audit_78 (hro _ _ h)
        · rw [if_neg hc] at h
          exact jw_throwS (is := 149) (text := "there are too many audits") hX hGX hQ (by decide +kernel) (by decide +kernel) tkX6_audit_IS.1 tkX6_audit_IS.2 (by decide +kernel) taX6_audit_IS tbIS gNc_on tgIS dX6_audit_37 dX6_audit_40 dX6_audit_41 dX6_audit_43 dX6_audit_46 (Nat.le_of_ble_eq_true rfl) (Nat.le_of_ble_eq_true rfl) (Nat.le_of_ble_eq_true rfl) (Nat.le_of_ble_eq_true rfl) (hrx _ _ h)
      · rw [if_neg hc] at h
        exact jw_throwS (is := 147) (text := "the last entry is ahead of the first one") hX hGX hQ (by decide +kernel) (by decide +kernel) tkX6_audit_IA.1 tkX6_audit_IA.2 (by decide +kernel) taX6_audit_IA tbIA gNc_on tgIA dX6_audit_15 dX6_audit_18 dX6_audit_19 dX6_audit_21 dX6_audit_24 (Nat.le_of_ble_eq_true rfl) (Nat.le_of_ble_eq_true rfl) (Nat.le_of_ble_eq_true rfl) (Nat.le_of_ble_eq_true rfl) (hrx _ _ h)
set_option maxRecDepth 100000 in
set_option maxHeartbeats 4000000 in
theorem kX6_audit {l : Launch} {D : va_G} {tys : List (ClassId × FieldType)} {cI cZ cO cJ : ClassId} {gs : JP} {n : Nat} {S : PS} {v0 : Nat} {v1 : Int32} {v2 : Int32} {Q : Int32 → PS → Prop} {Qx : Nat → PS → Prop} (hl : l.stackTraces = false) (hT : tys = jTy cI cZ cO cJ) (h : fX6_audit gs n S v0 v1 v2 Q Qx) : CX l (GP gs) D tys yX6_audit wsX6_audit rmX6_audit [.ref v0, .int v1, .int v2] (pW cI cO S) (fun ov w2 => ∃ (r : Int32) (w9 : PS), Q r w9 ∧ ov = some (.int r) ∧ w2 = pW cI cO w9) (fun E w2 => ∃ (x : Nat) (w9 : PS), Qx x w9 ∧ E = exN x ∧ w2 = pW cI cO w9) := by
  refine CX_of (cc := cX6_audit) (maxL := 3) (ret := (some .int)) hl (by decide) rfl (Nat.le_of_ble_eq_true rfl) ?_
  intro X hD hL hT0 hGX hX hQ rI rZ rV rA
  exact sX6_audit (post := (fun ov w2 => ∃ (r : Int32) (w9 : PS), Q r w9 ∧ ov = some (.int r) ∧ w2 = pW cI cO w9)) (px := (fun E w2 => ∃ (x : Nat) (w9 : PS), Qx x w9 ∧ E = exN x ∧ w2 = pW cI cO w9)) hX (hT0.trans hT) hGX (rI rfl) hQ (fun r w9 hq => ⟨r, w9, hq, rfl, rfl⟩) (fun x w9 hq => ⟨x, w9, hq, rfl, rfl⟩) h
