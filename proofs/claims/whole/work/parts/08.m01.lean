/-! X7_putsSign -/
abbrev rmX7_putsSign : Room := { frames := 0, cells := 0, slots := 0, locals := 0 }
theorem hdX7_putsSign : yX7_putsSign.cls = RX7 ∧ yX7_putsSign.cls ≠ "java/lang/invoke/MethodHandle" ∧ yX7_putsSign.cls ≠ "java/lang/invoke/VarHandle" ∧ (parseMethodDescriptor yX7_putsSign.desc).map (fun d => d.parameters.length) = some 1 := by decide +kernel
theorem inX7_putsSign : ∀ w ∈ wsX70, w ∈ wsX7_putsSign := fun _ h => List.mem_cons_of_mem _ (List.mem_append_right _ h)
theorem lkX7_putsSign_107 : Cond.fieldLink RX7 107 "PostlintModel" (TX7 41).2.1 (TX7 41).2.2.1 ∈ wsX7_putsSign := by decide +kernel
theorem lkX7_putsSign_140 : Cond.fieldLink RX7 140 "PostlintModel" (TX7 40).2.1 (TX7 40).2.2.1 ∈ wsX7_putsSign := by decide +kernel
def fX7_putsSign (w : MW) (v1 : Int32) : Option MW := chk (inB (w.1 40) (mLen 41)) (bnd (mA w 41 ((w.1 40)).toNatClampNeg v1) (fun w9 => bnd (mS w9 40 ((w9.1 40) + (1 : Int32))) (fun w17 => some w17)))
set_option maxRecDepth 100000 in
set_option maxHeartbeats 4000000 in
theorem sX7_putsSign {X : JX} {a : Nat} {ad : Nat → Nat} {cI cZ cO cJ : ClassId} {post : Option Value → va_W → Prop} (hX : jOK X cX7_putsSign 2 wsX7_putsSign RX7 rmX7_putsSign) (hT : jT X = jTy cI cZ cO cJ) (hGX : jG X jG0) (hret : jRV X cX7_putsSign rmX7_putsSign post) {o : MW} (hro : ∀ w9 : MW, o = w9 → post none (mW a ad cI cZ w9)) {w : MW} {v1 : Int32} (h : fX7_putsSign w v1 = some o) : JW X 0 0 (mW a ad cI cZ w) 0 [(0, .ref a), (1, .int v1)] [] := by
  unfold fX7_putsSign at h
  refine jw_aload_n hX dX7_putsSign_0 rfl 0 rfl ?_
  refine jw_mgetA hX hT inX7_putsSign 41 (by decide) lkX7_putsSign_107 rfl dX7_putsSign_1 ?_
  refine jw_aload_n hX dX7_putsSign_4 rfl 0 rfl ?_
  refine jw_mgetI hX hT inX7_putsSign 40 (by decide) lkX7_putsSign_140 rfl dX7_putsSign_5 ?_
  refine jw_iload_n hX dX7_putsSign_8 rfl 1 rfl ?_
  obtain ⟨hb9, h⟩ := chk_some h
  refine jw_miast hX hT 32 41 rfl rfl hb9 dX7_putsSign_9 (fun w9 e9 => ?_)
  replace h := bnd_some h w9 e9
  clear e9
  refine jw_aload_n hX dX7_putsSign_10 rfl 0 rfl ?_
  refine jw_dup hX dX7_putsSign_11 rfl ?_
  refine jw_mgetI hX hT inX7_putsSign 40 (by decide) lkX7_putsSign_140 rfl dX7_putsSign_12 ?_
  refine jw_iconst (v := (1 : Int32)) hX dX7_putsSign_15 (by decide) ?_
  refine jw_iadd hX dX7_putsSign_16 ?_
  refine jw_mputI hX hT inX7_putsSign 40 (by decide) lkX7_putsSign_140 rfl dX7_putsSign_17 (fun w17 e17 => ?_)
  replace h := bnd_some h w17 e17
  clear e17
  exact hret _ _ _ _ _ (Nat.zero_le _) (Nat.zero_le _) dX7_putsSign_20 (hro _ (Option.some.inj h).symm)
set_option maxRecDepth 100000 in
set_option maxHeartbeats 4000000 in
theorem kX7_putsSign {l : Launch} {D : va_G} {tys : List (ClassId × FieldType)} {a : Nat} {ad : Nat → Nat} {cI cZ cO cJ : ClassId} {w : MW} {v1 : Int32} {w1 : MW} (hT : tys = jTy cI cZ cO cJ) (h : fX7_putsSign w v1 = some w1) : CC l jG0 D tys yX7_putsSign wsX7_putsSign rmX7_putsSign [.ref a, .int v1] (mW a ad cI cZ w) (fun ov w2 => ov = none ∧ w2 = (mW a ad cI cZ w1)) := by
  refine CC_of (cc := cX7_putsSign) (maxL := 2) (ret := none) (by decide) rfl (Nat.le_of_ble_eq_true rfl) ?_
  intro X hD hL hT0 hGX hX rI rZ rV rA
  exact sX7_putsSign (post := fun ov w2 => ov = none ∧ w2 = (mW a ad cI cZ w1)) hX (hT0.trans hT) hGX (fun cells slots w9 pc lv => rV cells slots w9 pc lv rfl) (o := w1) (fun w9 e9 => by cases e9; exact ⟨rfl, rfl⟩) h
/-! X7_putsNumber -/
abbrev rmX7_putsNumber : Room := { frames := 1, cells := 0, slots := 0, locals := 21 }
theorem hdX7_putsNumber : yX7_putsNumber.cls = RX7 ∧ yX7_putsNumber.cls ≠ "java/lang/invoke/MethodHandle" ∧ yX7_putsNumber.cls ≠ "java/lang/invoke/VarHandle" ∧ (parseMethodDescriptor yX7_putsNumber.desc).map (fun d => d.parameters.length) = some 1 := by decide +kernel
def fX7_putsNumber_J37 (w : MW) (v1 : Int32) : Option MW := chk (nz (10 : Int32)) (bP (fX7_putsSign w ((48 : Int32) + (v1 - v1 / (10 : Int32) * (10 : Int32)))) (fun w45 => some w45))
def fX7_putsNumber_J17 (w : MW) (v1 : Int32) : Option MW := (if v1 ≤ (9 : Int32) then fX7_putsNumber_J37 w v1 else chk (nz (10 : Int32)) (chk (nz (10 : Int32)) (bP (fX7_putsSign w ((48 : Int32) + ((v1 / (10 : Int32)) - (v1 / (10 : Int32)) / (10 : Int32) * (10 : Int32)))) (fun w34 => fX7_putsNumber_J37 w34 v1))))
def fX7_putsNumber (w : MW) (v1 : Int32) : Option MW := (if v1 ≤ (99 : Int32) then fX7_putsNumber_J17 w v1 else chk (nz (100 : Int32)) (bP (fX7_putsSign w ((48 : Int32) + (v1 / (100 : Int32)))) (fun w14 => fX7_putsNumber_J17 w14 v1)))
set_option maxRecDepth 100000 in
set_option maxHeartbeats 4000000 in
theorem sX7_putsNumber_J37 {X : JX} {a : Nat} {ad : Nat → Nat} {cI cZ cO cJ : ClassId} {post : Option Value → va_W → Prop} (hX : jOK X cX7_putsNumber 2 wsX7_putsNumber RX7 rmX7_putsNumber) (hT : jT X = jTy cI cZ cO cJ) (hGX : jG X jG0) (hret : jRV X cX7_putsNumber rmX7_putsNumber post) {o : MW}   (hro : ∀ w9 : MW, o = w9 → post none (mW a ad cI cZ w9)) {w : MW} {v1 : Int32} (h : fX7_putsNumber_J37 w v1 = some o) : JW X 0 0 (mW a ad cI cZ w) 37 [(0, .ref a), (1, .int v1)] [] := by
  unfold fX7_putsNumber_J37 at h
  refine jw_aload_n hX dX7_putsNumber_37 rfl 0 rfl ?_
  refine jw_bipush (v := (48 : Int32)) hX dX7_putsNumber_38 (by decide) ?_
  refine jw_iload_n hX dX7_putsNumber_40 rfl 1 rfl ?_
  refine jw_bipush (v := (10 : Int32)) hX dX7_putsNumber_41 (by decide) ?_
  obtain ⟨hz43, h⟩ := chk_some h
  refine jw_irem hX dX7_putsNumber_43 (nz_ne hz43) ?_
  refine jw_iadd hX dX7_putsNumber_44 ?_
  obtain ⟨w45, hc45, h⟩ := bP_some h
  refine jw_cVv (As := [.int ((48 : Int32) + (v1 - v1 / (10 : Int32) * (10 : Int32)))]) hX jG0_ok hGX 1 (kX7_putsSign hT hc45) gX7_putsNumber_X7_putsSign rfl hdX7_putsSign ⟨by decide, by decide⟩ 0 7 rfl rfl rfl (Nat.le_of_ble_eq_true rfl) dX7_putsNumber_45 rfl rfl ⟨by decide, by decide⟩ ?_
  exact hret _ _ _ _ _ (Nat.zero_le _) (Nat.zero_le _) dX7_putsNumber_48 (hro _ (Option.some.inj h).symm)
set_option maxRecDepth 100000 in
set_option maxHeartbeats 4000000 in
theorem sX7_putsNumber_J17 {X : JX} {a : Nat} {ad : Nat → Nat} {cI cZ cO cJ : ClassId} {post : Option Value → va_W → Prop} (hX : jOK X cX7_putsNumber 2 wsX7_putsNumber RX7 rmX7_putsNumber) (hT : jT X = jTy cI cZ cO cJ) (hGX : jG X jG0) (hret : jRV X cX7_putsNumber rmX7_putsNumber post) {o : MW}   (hro : ∀ w9 : MW, o = w9 → post none (mW a ad cI cZ w9)) {w : MW} {v1 : Int32} (h : fX7_putsNumber_J17 w v1 = some o) : JW X 0 0 (mW a ad cI cZ w) 17 [(0, .ref a), (1, .int v1)] [] := by
  unfold fX7_putsNumber_J17 at h
  refine jw_iload_n hX dX7_putsNumber_17 rfl 1 rfl ?_
  refine jw_bipush (v := (9 : Int32)) hX dX7_putsNumber_18 (by decide) ?_
  refine jw_icmp_le (tgt := 37) hX dX7_putsNumber_20 (by decide) (fun hc => ?_) (fun hc => ?_)
  · rw [if_pos hc] at h
    exact sX7_putsNumber_J37 hX hT hGX hret hro h
  · rw [if_neg hc] at h
    refine jw_aload_n hX dX7_putsNumber_23 rfl 0 rfl ?_
    refine jw_bipush (v := (48 : Int32)) hX dX7_putsNumber_24 (by decide) ?_
    refine jw_iload_n hX dX7_putsNumber_26 rfl 1 rfl ?_
    refine jw_bipush (v := (10 : Int32)) hX dX7_putsNumber_27 (by decide) ?_
    obtain ⟨hz29, h⟩ := chk_some h
    refine jw_idiv hX dX7_putsNumber_29 (nz_ne hz29) ?_
    refine jw_bipush (v := (10 : Int32)) hX dX7_putsNumber_30 (by decide) ?_
    obtain ⟨hz32, h⟩ := chk_some h
    refine jw_irem hX dX7_putsNumber_32 (nz_ne hz32) ?_
    refine jw_iadd hX dX7_putsNumber_33 ?_
    obtain ⟨w34, hc34, h⟩ := bP_some h
    refine jw_cVv (As := [.int ((48 : Int32) + ((v1 / (10 : Int32)) - (v1 / (10 : Int32)) / (10 : Int32) * (10 : Int32)))]) hX jG0_ok hGX 1 (kX7_putsSign hT hc34) gX7_putsNumber_X7_putsSign rfl hdX7_putsSign ⟨by decide, by decide⟩ 0 7 rfl rfl rfl (Nat.le_of_ble_eq_true rfl) dX7_putsNumber_34 rfl rfl ⟨by decide, by decide⟩ ?_
    exact sX7_putsNumber_J37 hX hT hGX hret hro h
set_option maxRecDepth 100000 in
set_option maxHeartbeats 4000000 in
theorem sX7_putsNumber {X : JX} {a : Nat} {ad : Nat → Nat} {cI cZ cO cJ : ClassId} {post : Option Value → va_W → Prop} (hX : jOK X cX7_putsNumber 2 wsX7_putsNumber RX7 rmX7_putsNumber) (hT : jT X = jTy cI cZ cO cJ) (hGX : jG X jG0) (hret : jRV X cX7_putsNumber rmX7_putsNumber post) {o : MW} (hro : ∀ w9 : MW, o = w9 → post none (mW a ad cI cZ w9)) {w : MW} {v1 : Int32} (h : fX7_putsNumber w v1 = some o) : JW X 0 0 (mW a ad cI cZ w) 0 [(0, .ref a), (1, .int v1)] [] := by
  unfold fX7_putsNumber at h
  refine jw_iload_n hX dX7_putsNumber_0 rfl 1 rfl ?_
  refine jw_bipush (v := (99 : Int32)) hX dX7_putsNumber_1 (by decide) ?_
  refine jw_icmp_le (tgt := 17) hX dX7_putsNumber_3 (by decide) (fun hc => ?_) (fun hc => ?_)
  · rw [if_pos hc] at h
    exact sX7_putsNumber_J17 hX hT hGX hret hro h
  · rw [if_neg hc] at h
    refine jw_aload_n hX dX7_putsNumber_6 rfl 0 rfl ?_
    refine jw_bipush (v := (48 : Int32)) hX dX7_putsNumber_7 (by decide) ?_
    refine jw_iload_n hX dX7_putsNumber_9 rfl 1 rfl ?_
    refine jw_bipush (v := (100 : Int32)) hX dX7_putsNumber_10 (by decide) ?_
    obtain ⟨hz12, h⟩ := chk_some h
    refine jw_idiv hX dX7_putsNumber_12 (nz_ne hz12) ?_
    refine jw_iadd hX dX7_putsNumber_13 ?_
    obtain ⟨w14, hc14, h⟩ := bP_some h
    refine jw_cVv (As := [.int ((48 : Int32) + (v1 / (100 : Int32)))]) hX jG0_ok hGX 1 (kX7_putsSign hT hc14) gX7_putsNumber_X7_putsSign rfl hdX7_putsSign ⟨by decide, by decide⟩ 0 7 rfl rfl rfl (Nat.le_of_ble_eq_true rfl) dX7_putsNumber_14 rfl rfl ⟨by decide, by decide⟩ ?_
    exact sX7_putsNumber_J17 hX hT hGX hret hro h
set_option maxRecDepth 100000 in
set_option maxHeartbeats 4000000 in
theorem kX7_putsNumber {l : Launch} {D : va_G} {tys : List (ClassId × FieldType)} {a : Nat} {ad : Nat → Nat} {cI cZ cO cJ : ClassId} {w : MW} {v1 : Int32} {w1 : MW} (hT : tys = jTy cI cZ cO cJ) (h : fX7_putsNumber w v1 = some w1) : CC l jG0 D tys yX7_putsNumber wsX7_putsNumber rmX7_putsNumber [.ref a, .int v1] (mW a ad cI cZ w) (fun ov w2 => ov = none ∧ w2 = (mW a ad cI cZ w1)) := by
  refine CC_of (cc := cX7_putsNumber) (maxL := 2) (ret := none) (by decide) rfl (Nat.le_of_ble_eq_true rfl) ?_
  intro X hD hL hT0 hGX hX rI rZ rV rA
  exact sX7_putsNumber (post := fun ov w2 => ov = none ∧ w2 = (mW a ad cI cZ w1)) hX (hT0.trans hT) hGX (fun cells slots w9 pc lv => rV cells slots w9 pc lv rfl) (o := w1) (fun w9 e9 => by cases e9; exact ⟨rfl, rfl⟩) h
/-! X7_joins -/
abbrev rmX7_joins : Room := { frames := 0, cells := 0, slots := 0, locals := 0 }
theorem hdX7_joins : yX7_joins.cls = RX7 ∧ yX7_joins.cls ≠ "java/lang/invoke/MethodHandle" ∧ yX7_joins.cls ≠ "java/lang/invoke/VarHandle" ∧ (parseMethodDescriptor yX7_joins.desc).map (fun d => d.parameters.length) = some 2 := by decide +kernel
theorem inX7_joins : ∀ w ∈ wsX70, w ∈ wsX7_joins := fun _ h => List.mem_cons_of_mem _ (List.mem_append_right _ h)
theorem lkX7_joins_110 : Cond.fieldLink RX7 110 "PostlintModel" (TX7 42).2.1 (TX7 42).2.2.1 ∈ wsX7_joins := by decide +kernel
theorem lkX7_joins_113 : Cond.fieldLink RX7 113 "PostlintModel" (TX7 43).2.1 (TX7 43).2.2.1 ∈ wsX7_joins := by decide +kernel
def fX7_joins (w : MW) (v1 v2 : Int32) : Option MW := chk (inB v1 (mLen 42)) (chk (inB (((32 : Int32) * v1) + (w.2 42 (v1).toNatClampNeg)) (mLen 43)) (bnd (mA w 43 ((((32 : Int32) * v1) + (w.2 42 (v1).toNatClampNeg))).toNatClampNeg v2) (fun w16 => chk (inB v1 (mLen 42)) (chk (inB v1 (mLen 42)) (bnd (mA w16 42 (v1).toNatClampNeg ((w16.2 42 (v1).toNatClampNeg) + (1 : Int32))) (fun w26 => some w26))))))
set_option maxRecDepth 100000 in
set_option maxHeartbeats 4000000 in
theorem sX7_joins {X : JX} {a : Nat} {ad : Nat → Nat} {cI cZ cO cJ : ClassId} {post : Option Value → va_W → Prop} (hX : jOK X cX7_joins 3 wsX7_joins RX7 rmX7_joins) (hT : jT X = jTy cI cZ cO cJ) (hGX : jG X jG0) (hret : jRV X cX7_joins rmX7_joins post) {o : MW} (hro : ∀ w9 : MW, o = w9 → post none (mW a ad cI cZ w9)) {w : MW} {v1 v2 : Int32} (h : fX7_joins w v1 v2 = some o) : JW X 0 0 (mW a ad cI cZ w) 0 [(0, .ref a), (1, .int v1), (2, .int v2)] [] := by
  unfold fX7_joins at h
  refine jw_aload_n hX dX7_joins_0 rfl 0 rfl ?_
  refine jw_mgetA hX hT inX7_joins 43 (by decide) lkX7_joins_113 rfl dX7_joins_1 ?_
  refine jw_bipush (v := (32 : Int32)) hX dX7_joins_4 (by decide) ?_
  refine jw_iload_n hX dX7_joins_6 rfl 1 rfl ?_
  refine jw_imul hX dX7_joins_7 ?_
  refine jw_aload_n hX dX7_joins_8 rfl 0 rfl ?_
  refine jw_mgetA hX hT inX7_joins 42 (by decide) lkX7_joins_110 rfl dX7_joins_9 ?_
  refine jw_iload_n hX dX7_joins_12 rfl 1 rfl ?_
  obtain ⟨hb13, h⟩ := chk_some h
  refine jw_miald hX hT 33 42 rfl rfl hb13 dX7_joins_13 ?_
  refine jw_iadd hX dX7_joins_14 ?_
  refine jw_iload_n hX dX7_joins_15 rfl 2 rfl ?_
  obtain ⟨hb16, h⟩ := chk_some h
  refine jw_miast hX hT 34 43 rfl rfl hb16 dX7_joins_16 (fun w16 e16 => ?_)
  replace h := bnd_some h w16 e16
  clear e16
  refine jw_aload_n hX dX7_joins_17 rfl 0 rfl ?_
  refine jw_mgetA hX hT inX7_joins 42 (by decide) lkX7_joins_110 rfl dX7_joins_18 ?_
  refine jw_iload_n hX dX7_joins_21 rfl 1 rfl ?_
  refine jw_dup2 hX dX7_joins_22 rfl rfl ?_
  obtain ⟨hb23, h⟩ := chk_some h
  refine jw_miald hX hT 33 42 rfl rfl hb23 dX7_joins_23 ?_
  refine jw_iconst (v := (1 : Int32)) hX dX7_joins_24 (by decide) ?_
  refine jw_iadd hX dX7_joins_25 ?_
  obtain ⟨hb26, h⟩ := chk_some h
  refine jw_miast hX hT 33 42 rfl rfl hb26 dX7_joins_26 (fun w26 e26 => ?_)
  replace h := bnd_some h w26 e26
  clear e26
  exact hret _ _ _ _ _ (Nat.zero_le _) (Nat.zero_le _) dX7_joins_27 (hro _ (Option.some.inj h).symm)
set_option maxRecDepth 100000 in
set_option maxHeartbeats 4000000 in
theorem kX7_joins {l : Launch} {D : va_G} {tys : List (ClassId × FieldType)} {a : Nat} {ad : Nat → Nat} {cI cZ cO cJ : ClassId} {w : MW} {v1 v2 : Int32} {w1 : MW} (hT : tys = jTy cI cZ cO cJ) (h : fX7_joins w v1 v2 = some w1) : CC l jG0 D tys yX7_joins wsX7_joins rmX7_joins [.ref a, .int v1, .int v2] (mW a ad cI cZ w) (fun ov w2 => ov = none ∧ w2 = (mW a ad cI cZ w1)) := by
  refine CC_of (cc := cX7_joins) (maxL := 3) (ret := none) (by decide) rfl (Nat.le_of_ble_eq_true rfl) ?_
  intro X hD hL hT0 hGX hX rI rZ rV rA
  exact sX7_joins (post := fun ov w2 => ov = none ∧ w2 = (mW a ad cI cZ w1)) hX (hT0.trans hT) hGX (fun cells slots w9 pc lv => rV cells slots w9 pc lv rfl) (o := w1) (fun w9 e9 => by cases e9; exact ⟨rfl, rfl⟩) h
/-! X7_begins -/
abbrev rmX7_begins : Room := { frames := 1, cells := 0, slots := 0, locals := 22 }
theorem hdX7_begins : yX7_begins.cls = RX7 ∧ yX7_begins.cls ≠ "java/lang/invoke/MethodHandle" ∧ yX7_begins.cls ≠ "java/lang/invoke/VarHandle" ∧ (parseMethodDescriptor yX7_begins.desc).map (fun d => d.parameters.length) = some 2 := by decide +kernel
theorem inX7_begins : ∀ w ∈ wsX70, w ∈ wsX7_begins := fun _ h => List.mem_cons_of_mem _ (List.mem_append_right _ h)
theorem lkX7_begins_101 : Cond.fieldLink RX7 101 "PostlintModel" (TX7 37).2.1 (TX7 37).2.2.1 ∈ wsX7_begins := by decide +kernel
theorem lkX7_begins_140 : Cond.fieldLink RX7 140 "PostlintModel" (TX7 40).2.1 (TX7 40).2.2.1 ∈ wsX7_begins := by decide +kernel
theorem lkX7_begins_147 : Cond.fieldLink RX7 147 "PostlintModel" (TX7 31).2.1 (TX7 31).2.2.1 ∈ wsX7_begins := by decide +kernel
theorem lkX7_begins_150 : Cond.fieldLink RX7 150 "PostlintModel" (TX7 38).2.1 (TX7 38).2.2.1 ∈ wsX7_begins := by decide +kernel
theorem lkX7_begins_86 : Cond.fieldLink RX7 86 "PostlintModel" (TX7 32).2.1 (TX7 32).2.2.1 ∈ wsX7_begins := by decide +kernel
theorem lkX7_begins_89 : Cond.fieldLink RX7 89 "PostlintModel" (TX7 33).2.1 (TX7 33).2.2.1 ∈ wsX7_begins := by decide +kernel
theorem lkX7_begins_92 : Cond.fieldLink RX7 92 "PostlintModel" (TX7 34).2.1 (TX7 34).2.2.1 ∈ wsX7_begins := by decide +kernel
theorem lkX7_begins_95 : Cond.fieldLink RX7 95 "PostlintModel" (TX7 35).2.1 (TX7 35).2.2.1 ∈ wsX7_begins := by decide +kernel
theorem lkX7_begins_98 : Cond.fieldLink RX7 98 "PostlintModel" (TX7 36).2.1 (TX7 36).2.2.1 ∈ wsX7_begins := by decide +kernel
def fX7_begins (w : MW) (v1 v2 : Int32) : Option (Int32 × MW) := bnd ((w.1 31)) (fun y4 => bnd (mS w 31 ((w.1 31) + (1 : Int32))) (fun w12 => chk (inB y4 (mLen 32)) (chk (b01 v2) (bnd (mA w12 32 (y4).toNatClampNeg v2) (fun w21 => chk (inB y4 (mLen 33)) (bnd (mA w21 33 (y4).toNatClampNeg (1 : Int32)) (fun w28 => chk (inB y4 (mLen 34)) (bnd (mA w28 34 (y4).toNatClampNeg (w28.1 40)) (fun w38 => chk (inB y4 (mLen 35)) (bnd (mA w38 35 (y4).toNatClampNeg (0 : Int32)) (fun w45 => chk (inB y4 (mLen 36)) (bnd (mA w45 36 (y4).toNatClampNeg (w45.1 38)) (fun w55 => chk (inB y4 (mLen 37)) (bnd (mA w55 37 (y4).toNatClampNeg (0 : Int32)) (fun w62 => bP (fX7_joins w62 v1 y4) (fun w66 => some (y4, w66)))))))))))))))))
set_option maxRecDepth 100000 in
set_option maxHeartbeats 4000000 in
theorem sX7_begins {X : JX} {a : Nat} {ad : Nat → Nat} {cI cZ cO cJ : ClassId} {post : Option Value → va_W → Prop} (hX : jOK X cX7_begins 4 wsX7_begins RX7 rmX7_begins) (hT : jT X = jTy cI cZ cO cJ) (hGX : jG X jG0) (hret : jRI X cX7_begins rmX7_begins post) {o : (Int32 × MW)} (hro : ∀ (v9 : Int32) (w9 : MW), o = (v9, w9) → post (some (.int v9)) (mW a ad cI cZ w9)) {w : MW} {v1 v2 : Int32} (h : fX7_begins w v1 v2 = some o) : JW X 0 0 (mW a ad cI cZ w) 0 [(0, .ref a), (1, .int v1), (2, .int v2)] [] := by
  unfold fX7_begins at h
  refine jw_aload_n hX dX7_begins_0 rfl 0 rfl ?_
  refine jw_mgetI hX hT inX7_begins 31 (by decide) lkX7_begins_147 rfl dX7_begins_1 ?_
  refine jw_topi (fun y4 e4 => ?_)
  replace h := bnd_some h y4 e4
  clear e4
  refine jw_istore_n hX [(3, .int y4), (0, .ref a), (1, .int v1), (2, .int v2)] dX7_begins_4 rfl (by decide) rfl ?_
  refine jw_aload_n hX dX7_begins_5 rfl 1 rfl ?_
  refine jw_dup hX dX7_begins_6 rfl ?_
  refine jw_mgetI hX hT inX7_begins 31 (by decide) lkX7_begins_147 rfl dX7_begins_7 ?_
  refine jw_iconst (v := (1 : Int32)) hX dX7_begins_10 (by decide) ?_
  refine jw_iadd hX dX7_begins_11 ?_
  refine jw_mputI hX hT inX7_begins 31 (by decide) lkX7_begins_147 rfl dX7_begins_12 (fun w12 e12 => ?_)
  replace h := bnd_some h w12 e12
  clear e12
  refine jw_aload_n hX dX7_begins_15 rfl 1 rfl ?_
  refine jw_mgetA hX hT inX7_begins 32 (by decide) lkX7_begins_86 rfl dX7_begins_16 ?_
  refine jw_iload_n hX dX7_begins_19 rfl 0 rfl ?_
  refine jw_iload_n hX dX7_begins_20 rfl 3 rfl ?_
  obtain ⟨hb21, h⟩ := chk_some h
  obtain ⟨hz21, h⟩ := chk_some h
  refine jw_mzast hX hT 25 32 rfl rfl hb21 hz21 dX7_begins_21 (fun w21 e21 => ?_)
  replace h := bnd_some h w21 e21
  clear e21
  refine jw_aload_n hX dX7_begins_22 rfl 1 rfl ?_
  refine jw_mgetA hX hT inX7_begins 33 (by decide) lkX7_begins_89 rfl dX7_begins_23 ?_
  refine jw_iload_n hX dX7_begins_26 rfl 0 rfl ?_
  refine jw_iconst (v := (1 : Int32)) hX dX7_begins_27 (by decide) ?_
  obtain ⟨hb28, h⟩ := chk_some h
  refine jw_miast hX hT 26 33 rfl rfl hb28 dX7_begins_28 (fun w28 e28 => ?_)
  replace h := bnd_some h w28 e28
  clear e28
  refine jw_aload_n hX dX7_begins_29 rfl 1 rfl ?_
  refine jw_mgetA hX hT inX7_begins 34 (by decide) lkX7_begins_92 rfl dX7_begins_30 ?_
  refine jw_iload_n hX dX7_begins_33 rfl 0 rfl ?_
  refine jw_aload_n hX dX7_begins_34 rfl 1 rfl ?_
  refine jw_mgetI hX hT inX7_begins 40 (by decide) lkX7_begins_140 rfl dX7_begins_35 ?_
  obtain ⟨hb38, h⟩ := chk_some h
  refine jw_miast hX hT 27 34 rfl rfl hb38 dX7_begins_38 (fun w38 e38 => ?_)
  replace h := bnd_some h w38 e38
  clear e38
  refine jw_aload_n hX dX7_begins_39 rfl 1 rfl ?_
  refine jw_mgetA hX hT inX7_begins 35 (by decide) lkX7_begins_95 rfl dX7_begins_40 ?_
  refine jw_iload_n hX dX7_begins_43 rfl 0 rfl ?_
  refine jw_iconst (v := (0 : Int32)) hX dX7_begins_44 (by decide) ?_
  obtain ⟨hb45, h⟩ := chk_some h
  refine jw_miast hX hT 28 35 rfl rfl hb45 dX7_begins_45 (fun w45 e45 => ?_)
  replace h := bnd_some h w45 e45
  clear e45
  refine jw_aload_n hX dX7_begins_46 rfl 1 rfl ?_
  refine jw_mgetA hX hT inX7_begins 36 (by decide) lkX7_begins_98 rfl dX7_begins_47 ?_
  refine jw_iload_n hX dX7_begins_50 rfl 0 rfl ?_
  refine jw_aload_n hX dX7_begins_51 rfl 1 rfl ?_
  refine jw_mgetI hX hT inX7_begins 38 (by decide) lkX7_begins_150 rfl dX7_begins_52 ?_
  obtain ⟨hb55, h⟩ := chk_some h
  refine jw_miast hX hT 29 36 rfl rfl hb55 dX7_begins_55 (fun w55 e55 => ?_)
  replace h := bnd_some h w55 e55
  clear e55
  refine jw_aload_n hX dX7_begins_56 rfl 1 rfl ?_
  refine jw_mgetA hX hT inX7_begins 37 (by decide) lkX7_begins_101 rfl dX7_begins_57 ?_
  refine jw_iload_n hX dX7_begins_60 rfl 0 rfl ?_
  refine jw_iconst (v := (0 : Int32)) hX dX7_begins_61 (by decide) ?_
  obtain ⟨hb62, h⟩ := chk_some h
  refine jw_miast hX hT 30 37 rfl rfl hb62 dX7_begins_62 (fun w62 e62 => ?_)
  replace h := bnd_some h w62 e62
  clear e62
  refine jw_aload_n hX dX7_begins_63 rfl 1 rfl ?_
  refine jw_iload_n hX dX7_begins_64 rfl 2 rfl ?_
  refine jw_iload_n hX dX7_begins_65 rfl 0 rfl ?_
  obtain ⟨w66, hc66, h⟩ := bP_some h
  refine jw_cVv (As := [.int v1, .int y4]) hX jG0_ok hGX 2 (kX7_joins hT hc66) gX7_begins_X7_joins rfl hdX7_joins ⟨by decide, by decide⟩ 0 7 rfl rfl rfl (Nat.le_of_ble_eq_true rfl) dX7_begins_66 rfl rfl ⟨by decide, by decide⟩ ?_
  refine jw_iload_n hX dX7_begins_69 rfl 0 rfl ?_
  exact hret _ _ _ _ _ _ (Nat.zero_le _) (Nat.zero_le _) dX7_begins_70 (hro _ _ (Option.some.inj h).symm)
set_option maxRecDepth 100000 in
set_option maxHeartbeats 4000000 in
theorem kX7_begins {l : Launch} {D : va_G} {tys : List (ClassId × FieldType)} {a : Nat} {ad : Nat → Nat} {cI cZ cO cJ : ClassId} {w : MW} {v1 v2 : Int32} {r : Int32} {w1 : MW} (hT : tys = jTy cI cZ cO cJ) (h : fX7_begins w v1 v2 = some (r, w1)) : CC l jG0 D tys yX7_begins wsX7_begins rmX7_begins [.ref a, .int v1, .int v2] (mW a ad cI cZ w) (fun ov w2 => ov = some (.int r) ∧ w2 = (mW a ad cI cZ w1)) := by
  refine CC_of (cc := cX7_begins) (maxL := 4) (ret := (some .int)) (by decide) rfl (Nat.le_of_ble_eq_true rfl) ?_
  intro X hD hL hT0 hGX hX rI rZ rV rA
  exact sX7_begins (post := fun ov w2 => ov = some (.int r) ∧ w2 = (mW a ad cI cZ w1)) hX (hT0.trans hT) hGX (fun cells slots w9 pc lv v => rI cells slots w9 pc lv v rfl) (o := (r, w1)) (fun v9 w9 e9 => by cases e9; exact ⟨rfl, rfl⟩) h
/-! X7_putsItem -/
abbrev rmX7_putsItem : Room := { frames := 1, cells := 0, slots := 0, locals := 21 }
theorem hdX7_putsItem : yX7_putsItem.cls = RX7 ∧ yX7_putsItem.cls ≠ "java/lang/invoke/MethodHandle" ∧ yX7_putsItem.cls ≠ "java/lang/invoke/VarHandle" ∧ (parseMethodDescriptor yX7_putsItem.desc).map (fun d => d.parameters.length) = some 1 := by decide +kernel
theorem inX7_putsItem : ∀ w ∈ wsX70, w ∈ wsX7_putsItem := fun _ h => List.mem_cons_of_mem _ (List.mem_append_right _ h)
theorem lkX7_putsItem_107 : Cond.fieldLink RX7 107 "PostlintModel" (TX7 41).2.1 (TX7 41).2.2.1 ∈ wsX7_putsItem := by decide +kernel
theorem lkX7_putsItem_92 : Cond.fieldLink RX7 92 "PostlintModel" (TX7 34).2.1 (TX7 34).2.2.1 ∈ wsX7_putsItem := by decide +kernel
theorem lkX7_putsItem_95 : Cond.fieldLink RX7 95 "PostlintModel" (TX7 35).2.1 (TX7 35).2.2.1 ∈ wsX7_putsItem := by decide +kernel
def fX7_putsItem_L2 (n : Nat) : Nat → MW → Int32 → Int32 → Option (MW)
  | 0, _, _, _ => none
  | k + 1, w, v1, v2 => chk (inB v1 (mLen 35)) ((if (w.2 35 (v1).toNatClampNeg) ≤ v2 then some (w) else chk (inB v1 (mLen 34)) (chk (inB ((w.2 34 (v1).toNatClampNeg) + v2) (mLen 41)) (bP (fX7_putsSign w (w.2 41 (((w.2 34 (v1).toNatClampNeg) + v2)).toNatClampNeg)) (fun w26 => fX7_putsItem_L2 n k w26 v1 ((v2 + (1 : Int32))))))))
def fX7_putsItem (n : Nat) (w : MW) (v1 : Int32) : Option MW := bL1 (fX7_putsItem_L2 n n w v1 (0 : Int32)) (fun wx2 => some wx2)
set_option maxRecDepth 100000 in
set_option maxHeartbeats 4000000 in
theorem sX7_putsItem_L2 {X : JX} {a : Nat} {ad : Nat → Nat} {cI cZ cO cJ : ClassId} {n : Nat} {post : Option Value → va_W → Prop} (hX : jOK X cX7_putsItem 3 wsX7_putsItem RX7 rmX7_putsItem) (hT : jT X = jTy cI cZ cO cJ) (hGX : jG X jG0) (hret : jRV X cX7_putsItem rmX7_putsItem post) {o : (MW)} (hex : ∀ (w9 : MW), o = w9 → JW X 0 0 (mW a ad cI cZ w9) 35 [] [])  : ∀ (k : Nat) (w : MW) (v1 v2 : Int32), fX7_putsItem_L2 n k w v1 v2 = some o → JW X 0 0 (mW a ad cI cZ w) 2 [(0, .ref a), (1, .int v1), (2, .int v2)] [] := by
  intro k
  induction k with
  | zero => intro w v1 v2 h; cases h
  | succ k hrec0 =>
    intro w v1 v2 h
    have hrec := hrec0
    unfold fX7_putsItem_L2 at h
    refine jw_iload_n hX dX7_putsItem_2 rfl 2 rfl ?_
    refine jw_aload_n hX dX7_putsItem_3 rfl 0 rfl ?_
    refine jw_mgetA hX hT inX7_putsItem 35 (by decide) lkX7_putsItem_95 rfl dX7_putsItem_4 ?_
    refine jw_iload_n hX dX7_putsItem_7 rfl 1 rfl ?_
    obtain ⟨hb8, h⟩ := chk_some h
    refine jw_miald hX hT 28 35 rfl rfl hb8 dX7_putsItem_8 ?_
    refine jw_icmp_ge (tgt := 35) hX dX7_putsItem_9 (by decide) (fun hc => ?_) (fun hc => ?_)
    · rw [if_pos hc] at h
      refine jw_sub [] [] rfl ?_
      exact hex _ (Option.some.inj h).symm
    · rw [if_neg hc] at h
      refine jw_aload_n hX dX7_putsItem_12 rfl 0 rfl ?_
      refine jw_aload_n hX dX7_putsItem_13 rfl 0 rfl ?_
      refine jw_mgetA hX hT inX7_putsItem 41 (by decide) lkX7_putsItem_107 rfl dX7_putsItem_14 ?_
      refine jw_aload_n hX dX7_putsItem_17 rfl 0 rfl ?_
      refine jw_mgetA hX hT inX7_putsItem 34 (by decide) lkX7_putsItem_92 rfl dX7_putsItem_18 ?_
      refine jw_iload_n hX dX7_putsItem_21 rfl 1 rfl ?_
      obtain ⟨hb22, h⟩ := chk_some h
      refine jw_miald hX hT 27 34 rfl rfl hb22 dX7_putsItem_22 ?_
      refine jw_iload_n hX dX7_putsItem_23 rfl 2 rfl ?_
      refine jw_iadd hX dX7_putsItem_24 ?_
      obtain ⟨hb25, h⟩ := chk_some h
      refine jw_miald hX hT 32 41 rfl rfl hb25 dX7_putsItem_25 ?_
      obtain ⟨w26, hc26, h⟩ := bP_some h
      refine jw_cVv (As := [.int (w.2 41 (((w.2 34 (v1).toNatClampNeg) + v2)).toNatClampNeg)]) hX jG0_ok hGX 1 (kX7_putsSign hT hc26) gX7_putsItem_X7_putsSign rfl hdX7_putsSign ⟨by decide, by decide⟩ 0 7 rfl rfl rfl (Nat.le_of_ble_eq_true rfl) dX7_putsItem_26 rfl rfl ⟨by decide, by decide⟩ ?_
      refine jw_iinc (v := (v2 + (1 : Int32))) hX [(2, .int (v2 + (1 : Int32))), (0, .ref a), (1, .int v1)] dX7_putsItem_29 2 rfl (by first | rfl | (congr 1; decide)) (by decide) rfl ?_
      refine jw_goto (tgt := 2) hX dX7_putsItem_32 (by decide) ?_
      refine jw_sub [1, 2, 0] [(0, .ref a), (1, .int v1), (2, .int (v2 + (1 : Int32)))] rfl ?_
      exact hrec _ _ _ h
set_option maxRecDepth 100000 in
set_option maxHeartbeats 4000000 in
theorem sX7_putsItem {X : JX} {a : Nat} {ad : Nat → Nat} {cI cZ cO cJ : ClassId} {n : Nat} {post : Option Value → va_W → Prop} (hX : jOK X cX7_putsItem 3 wsX7_putsItem RX7 rmX7_putsItem) (hT : jT X = jTy cI cZ cO cJ) (hGX : jG X jG0) (hret : jRV X cX7_putsItem rmX7_putsItem post) {o : MW} (hro : ∀ w9 : MW, o = w9 → post none (mW a ad cI cZ w9)) {w : MW} {v1 : Int32} (h : fX7_putsItem n w v1 = some o) : JW X 0 0 (mW a ad cI cZ w) 0 [(0, .ref a), (1, .int v1)] [] := by
  unfold fX7_putsItem at h
  refine jw_iconst (v := (0 : Int32)) hX dX7_putsItem_0 (by decide) ?_
  refine jw_istore_n hX [(2, .int (0 : Int32)), (0, .ref a), (1, .int v1)] dX7_putsItem_1 rfl (by decide) rfl ?_
  refine jw_sub [1, 2, 0] [(0, .ref a), (1, .int v1), (2, .int (0 : Int32))] rfl ?_
  obtain ⟨wx2, hl2, h⟩ := bL1_some h
  refine sX7_putsItem_L2 hX hT hGX hret (o := wx2) (fun q0 e9 => ?_) n _ _ _ hl2
  cases e9
  exact hret _ _ _ _ _ (Nat.zero_le _) (Nat.zero_le _) dX7_putsItem_35 (hro _ (Option.some.inj h).symm)
set_option maxRecDepth 100000 in
set_option maxHeartbeats 4000000 in
theorem kX7_putsItem {l : Launch} {D : va_G} {tys : List (ClassId × FieldType)} {a : Nat} {ad : Nat → Nat} {cI cZ cO cJ : ClassId} {n : Nat} {w : MW} {v1 : Int32} {w1 : MW} (hT : tys = jTy cI cZ cO cJ) (h : fX7_putsItem n w v1 = some w1) : CC l jG0 D tys yX7_putsItem wsX7_putsItem rmX7_putsItem [.ref a, .int v1] (mW a ad cI cZ w) (fun ov w2 => ov = none ∧ w2 = (mW a ad cI cZ w1)) := by
  refine CC_of (cc := cX7_putsItem) (maxL := 3) (ret := none) (by decide) rfl (Nat.le_of_ble_eq_true rfl) ?_
  intro X hD hL hT0 hGX hX rI rZ rV rA
  exact sX7_putsItem (post := fun ov w2 => ov = none ∧ w2 = (mW a ad cI cZ w1)) hX (hT0.trans hT) hGX (fun cells slots w9 pc lv => rV cells slots w9 pc lv rfl) (o := w1) (fun w9 e9 => by cases e9; exact ⟨rfl, rfl⟩) h
