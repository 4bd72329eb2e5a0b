/-! X7_end -/
abbrev rmX7_end : Room := { frames := 2, cells := 0, slots := 0, locals := 43 }
theorem hdX7_end : yX7_end.cls = RX7 ∧ yX7_end.cls ≠ "java/lang/invoke/MethodHandle" ∧ yX7_end.cls ≠ "java/lang/invoke/VarHandle" ∧ (parseMethodDescriptor yX7_end.desc).map (fun d => d.parameters.length) = some 1 := by decide +kernel
theorem inX7_end : ∀ w ∈ wsX70, w ∈ wsX7_end := fun _ h => List.mem_cons_of_mem _ (List.mem_append_right _ h)
theorem lkX7_end_44 : Cond.fieldLink RX7 44 "PostlintModel" (TX7 14).2.1 (TX7 14).2.2.1 ∈ wsX7_end := by decide +kernel
theorem lkX7_end_65 : Cond.fieldLink RX7 65 "PostlintModel" (TX7 23).2.1 (TX7 23).2.2.1 ∈ wsX7_end := by decide +kernel
theorem lkX7_end_68 : Cond.fieldLink RX7 68 "PostlintModel" (TX7 24).2.1 (TX7 24).2.2.1 ∈ wsX7_end := by decide +kernel
theorem lkX7_end_71 : Cond.fieldLink RX7 71 "PostlintModel" (TX7 25).2.1 (TX7 25).2.2.1 ∈ wsX7_end := by decide +kernel
def fX7_end_J29 (w : MW) (v1 t0 : Int32) : Option (Int32 × MW) := b2 (fX7_isOf w t0) (fun r29 w29 => (if r29 = 0 then chk (b01 (0 : Int32)) (some ((0 : Int32), w29)) else chk (inB v1 (mLen 25)) (chk (b01 (1 : Int32)) (bnd (mA w29 25 (v1).toNatClampNeg (1 : Int32)) (fun w43 => chk (inB v1 (mLen 23)) (chk (inB (w43.2 23 (v1).toNatClampNeg) (mLen 14)) (chk (inB v1 (mLen 24)) ((if (w43.2 14 ((w43.2 23 (v1).toNatClampNeg)).toNatClampNeg) = (w43.2 24 (v1).toNatClampNeg) then chk (b01 (1 : Int32)) (some ((1 : Int32), w43)) else chk (b01 (0 : Int32)) (some ((0 : Int32), w43)))))))))))
def fX7_end (w : MW) (v1 : Int32) : Option (Int32 × MW) := bP (fX7_isAudit w v1) (fun r2 => (if r2 = 0 then fX7_end_J29 w v1 (1 : Int32) else chk (inB v1 (mLen 25)) ((if (w.2 25 (v1).toNatClampNeg) = 0 then fX7_end_J29 w v1 (0 : Int32) else fX7_end_J29 w v1 (2 : Int32)))))
set_option maxRecDepth 100000 in
set_option maxHeartbeats 4000000 in
theorem sX7_end_J29 {X : JX} {a : Nat} {ad : Nat → Nat} {cI cZ cO cJ : ClassId} {post : Option Value → va_W → Prop} (hX : jOK X cX7_end 3 wsX7_end RX7 rmX7_end) (hT : jT X = jTy cI cZ cO cJ) (hGX : jG X jG0) (hret : jRZ X cX7_end rmX7_end post) {o : (Int32 × MW)}   (hro : ∀ (v9 : Int32) (w9 : MW), o = (v9, w9) → post (some (.int v9)) (mW a ad cI cZ w9)) {w : MW} {v1 t0 : Int32} (h : fX7_end_J29 w v1 t0 = some o) : JW X 0 0 (mW a ad cI cZ w) 29 [(0, .ref a), (1, .int v1)] [.int t0, .ref a] := by
  unfold fX7_end_J29 at h
  obtain ⟨r29, w29, hc29, h⟩ := b2_some h
  refine jw_cVi (As := [.int t0]) hX jG0_ok hGX 1 (kX7_isOf hT hc29) gX7_end_X7_isOf rfl hdX7_isOf ⟨by decide, by decide⟩ 0 7 rfl rfl rfl (Nat.le_of_ble_eq_true rfl) dX7_end_29 rfl rfl ⟨by decide, by decide⟩ ?_
  refine jw_if_ne (tgt := 37) hX dX7_end_32 (by decide) (fun hc => ?_) (fun hc => ?_)
  · rw [if_neg hc] at h
    refine jw_aload_n hX dX7_end_37 rfl 0 rfl ?_
    refine jw_mgetA hX hT inX7_end 25 (by decide) lkX7_end_71 rfl dX7_end_38 ?_
    refine jw_iload_n hX dX7_end_41 rfl 1 rfl ?_
    refine jw_iconst (v := (1 : Int32)) hX dX7_end_42 (by decide) ?_
    obtain ⟨hb43, h⟩ := chk_some h
    obtain ⟨hz43, h⟩ := chk_some h
    refine jw_mzast hX hT 20 25 rfl rfl hb43 hz43 dX7_end_43 (fun w43 e43 => ?_)
    replace h := bnd_some h w43 e43
    clear e43
    refine jw_aload_n hX dX7_end_44 rfl 0 rfl ?_
    refine jw_mgetA hX hT inX7_end 14 (by decide) lkX7_end_44 rfl dX7_end_45 ?_
    refine jw_aload_n hX dX7_end_48 rfl 0 rfl ?_
    refine jw_mgetA hX hT inX7_end 23 (by decide) lkX7_end_65 rfl dX7_end_49 ?_
    refine jw_iload_n hX dX7_end_52 rfl 1 rfl ?_
    obtain ⟨hb53, h⟩ := chk_some h
    refine jw_miald hX hT 18 23 rfl rfl hb53 dX7_end_53 ?_
    obtain ⟨hb54, h⟩ := chk_some h
    refine jw_miald hX hT 11 14 rfl rfl hb54 dX7_end_54 ?_
    refine jw_aload_n hX dX7_end_55 rfl 0 rfl ?_
    refine jw_mgetA hX hT inX7_end 24 (by decide) lkX7_end_68 rfl dX7_end_56 ?_
    refine jw_iload_n hX dX7_end_59 rfl 1 rfl ?_
    obtain ⟨hb60, h⟩ := chk_some h
    refine jw_miald hX hT 19 24 rfl rfl hb60 dX7_end_60 ?_
    refine jw_icmp_ne (tgt := 68) hX dX7_end_61 (by decide) (fun hc => ?_) (fun hc => ?_)
    · rw [if_neg hc] at h
      refine jw_iconst (v := (0 : Int32)) hX dX7_end_68 (by decide) ?_
      obtain ⟨hz69, h⟩ := chk_some h
      exact hret _ _ _ _ _ _ (b01_or hz69) (Nat.zero_le _) (Nat.zero_le _) dX7_end_69 (hro _ _ (Option.some.inj h).symm)
    · rw [if_pos hc] at h
      refine jw_iconst (v := (1 : Int32)) hX dX7_end_64 (by decide) ?_
      refine jw_goto (tgt := 69) hX dX7_end_65 (by decide) ?_
      obtain ⟨hz69, h⟩ := chk_some h
      exact hret _ _ _ _ _ _ (b01_or hz69) (Nat.zero_le _) (Nat.zero_le _) dX7_end_69 (hro _ _ (Option.some.inj h).symm)
  · rw [if_pos hc] at h
    refine jw_iconst (v := (0 : Int32)) hX dX7_end_35 (by decide) ?_
    obtain ⟨hz36, h⟩ := chk_some h
    exact hret _ _ _ _ _ _ (b01_or hz36) (Nat.zero_le _) (Nat.zero_le _) dX7_end_36 (hro _ _ (Option.some.inj h).symm)
set_option maxRecDepth 100000 in
set_option maxHeartbeats 4000000 in
theorem sX7_end {X : JX} {a : Nat} {ad : Nat → Nat} {cI cZ cO cJ : ClassId} {post : Option Value → va_W → Prop} (hX : jOK X cX7_end 3 wsX7_end RX7 rmX7_end) (hT : jT X = jTy cI cZ cO cJ) (hGX : jG X jG0) (hret : jRZ X cX7_end rmX7_end post) {o : (Int32 × MW)} (hro : ∀ (v9 : Int32) (w9 : MW), o = (v9, w9) → post (some (.int v9)) (mW a ad cI cZ w9)) {w : MW} {v1 : Int32} (h : fX7_end w v1 = some o) : JW X 0 0 (mW a ad cI cZ w) 0 [(0, .ref a), (1, .int v1)] [] := by
  unfold fX7_end at h
  refine jw_aload_n hX dX7_end_0 rfl 0 rfl ?_
  refine jw_iload_n hX dX7_end_1 rfl 1 rfl ?_
  obtain ⟨r2, hc2, h⟩ := bP_some h
  refine jw_cVi (As := [.int v1]) hX jG0_ok hGX 1 (kX7_isAudit hT hc2) gX7_end_X7_isAudit rfl hdX7_isAudit ⟨by decide, by decide⟩ 0 7 rfl rfl rfl (Nat.le_of_ble_eq_true rfl) dX7_end_2 rfl rfl ⟨by decide, by decide⟩ ?_
  refine jw_istore_n hX [(2, .int r2), (0, .ref a), (1, .int v1)] dX7_end_5 rfl (by decide) rfl ?_
  refine jw_aload_n hX dX7_end_6 rfl 1 rfl ?_
  refine jw_iload_n hX dX7_end_7 rfl 0 rfl ?_
  refine jw_if_ne (tgt := 15) hX dX7_end_8 (by decide) (fun hc => ?_) (fun hc => ?_)
  · rw [if_neg hc] at h
    refine jw_aload_n hX dX7_end_15 rfl 1 rfl ?_
    refine jw_mgetA hX hT inX7_end 25 (by decide) lkX7_end_71 rfl dX7_end_16 ?_
    refine jw_iload_n hX dX7_end_19 rfl 2 rfl ?_
    obtain ⟨hb20, h⟩ := chk_some h
    refine jw_mzald hX hT 20 25 rfl rfl hb20 dX7_end_20 ?_
    refine jw_if_eq (tgt := 28) hX dX7_end_21 (by decide) (fun hc => ?_) (fun hc => ?_)
    · rw [if_pos hc] at h
      refine jw_iconst (v := (0 : Int32)) hX dX7_end_28 (by decide) ?_
      refine jw_sub [1, 2] [(0, .ref a), (1, .int v1)] rfl ?_
      exact sX7_end_J29 hX hT hGX hret hro h
    · rw [if_neg hc] at h
      refine jw_iconst (v := (2 : Int32)) hX dX7_end_24 (by decide) ?_
      refine jw_goto (tgt := 29) hX dX7_end_25 (by decide) ?_
      refine jw_sub [1, 2] [(0, .ref a), (1, .int v1)] rfl ?_
      exact sX7_end_J29 hX hT hGX hret hro h
  · rw [if_pos hc] at h
    refine jw_iconst (v := (1 : Int32)) hX dX7_end_11 (by decide) ?_
    refine jw_goto (tgt := 29) hX dX7_end_12 (by decide) ?_
    refine jw_sub [1, 2] [(0, .ref a), (1, .int v1)] rfl ?_
    exact sX7_end_J29 hX hT hGX hret hro h
set_option maxRecDepth 100000 in
set_option maxHeartbeats 4000000 in
theorem kX7_end {l : Launch} {D : va_G} {tys : List (ClassId × FieldType)} {a : Nat} {ad : Nat → Nat} {cI cZ cO cJ : ClassId} {w : MW} {v1 : Int32} {r : Int32} {w1 : MW} (hT : tys = jTy cI cZ cO cJ) (h : fX7_end w v1 = some (r, w1)) : CC l jG0 D tys yX7_end wsX7_end rmX7_end [.ref a, .int v1] (mW a ad cI cZ w) (fun ov w2 => ov = some (.int r) ∧ w2 = (mW a ad cI cZ w1)) := by
  refine CC_of (cc := cX7_end) (maxL := 3) (ret := (some .boolean)) (by decide) rfl (Nat.le_of_ble_eq_true rfl) ?_
  intro X hD hL hT0 hGX hX rI rZ rV rA
  exact sX7_end (post := fun ov w2 => ov = some (.int r) ∧ w2 = (mW a ad cI cZ w1)) hX (hT0.trans hT) hGX (fun cells slots w9 pc lv v => rZ cells slots w9 pc lv v rfl) (o := (r, w1)) (fun v9 w9 e9 => by cases e9; exact ⟨rfl, rfl⟩) h
/-! X7_entries -/
abbrev rmX7_entries : Room := { frames := 0, cells := 0, slots := 0, locals := 0 }
theorem hdX7_entries : yX7_entries.cls = RX7 ∧ yX7_entries.cls ≠ "java/lang/invoke/MethodHandle" ∧ yX7_entries.cls ≠ "java/lang/invoke/VarHandle" ∧ (parseMethodDescriptor yX7_entries.desc).map (fun d => d.parameters.length) = some 0 := by decide +kernel
theorem inX7_entries : ∀ w ∈ wsX70, w ∈ wsX7_entries := fun _ h => List.mem_cons_of_mem _ (List.mem_append_right _ h)
theorem lkX7_entries_122 : Cond.fieldLink RX7 122 "PostlintModel" (TX7 0).2.1 (TX7 0).2.2.1 ∈ wsX7_entries := by decide +kernel
theorem lkX7_entries_126 : Cond.fieldLink RX7 126 "PostlintModel" (TX7 3).2.1 (TX7 3).2.2.1 ∈ wsX7_entries := by decide +kernel
def fX7_entries (w : MW) : Option (Int32 × MW) := bnd (mS w 0 (0 : Int32)) (fun w2 => some ((w2.1 3), w2))
set_option maxRecDepth 100000 in
set_option maxHeartbeats 4000000 in
theorem sX7_entries {X : JX} {a : Nat} {ad : Nat → Nat} {cI cZ cO cJ : ClassId} {post : Option Value → va_W → Prop} (hX : jOK X cX7_entries 1 wsX7_entries RX7 rmX7_entries) (hT : jT X = jTy cI cZ cO cJ) (hGX : jG X jG0) (hret : jRI X cX7_entries rmX7_entries post) {o : (Int32 × MW)} (hro : ∀ (v9 : Int32) (w9 : MW), o = (v9, w9) → post (some (.int v9)) (mW a ad cI cZ w9)) {w : MW} (h : fX7_entries w  = some o) : JW X 0 0 (mW a ad cI cZ w) 0 [(0, .ref a)] [] := by
  unfold fX7_entries at h
  refine jw_aload_n hX dX7_entries_0 rfl 0 rfl ?_
  refine jw_iconst (v := (0 : Int32)) hX dX7_entries_1 (by decide) ?_
  refine jw_mputI hX hT inX7_entries 0 (by decide) lkX7_entries_122 rfl dX7_entries_2 (fun w2 e2 => ?_)
  replace h := bnd_some h w2 e2
  clear e2
  refine jw_aload_n hX dX7_entries_5 rfl 0 rfl ?_
  refine jw_mgetI hX hT inX7_entries 3 (by decide) lkX7_entries_126 rfl dX7_entries_6 ?_
  exact hret _ _ _ _ _ _ (Nat.zero_le _) (Nat.zero_le _) dX7_entries_9 (hro _ _ (Option.some.inj h).symm)
set_option maxRecDepth 100000 in
set_option maxHeartbeats 4000000 in
theorem kX7_entries {l : Launch} {D : va_G} {tys : List (ClassId × FieldType)} {a : Nat} {ad : Nat → Nat} {cI cZ cO cJ : ClassId} {w : MW}  {r : Int32} {w1 : MW} (hT : tys = jTy cI cZ cO cJ) (h : fX7_entries w  = some (r, w1)) : CC l jG0 D tys yX7_entries wsX7_entries rmX7_entries [.ref a] (mW a ad cI cZ w) (fun ov w2 => ov = some (.int r) ∧ w2 = (mW a ad cI cZ w1)) := by
  refine CC_of (cc := cX7_entries) (maxL := 1) (ret := (some .int)) (by decide) rfl (Nat.le_of_ble_eq_true rfl) ?_
  intro X hD hL hT0 hGX hX rI rZ rV rA
  exact sX7_entries (post := fun ov w2 => ov = some (.int r) ∧ w2 = (mW a ad cI cZ w1)) hX (hT0.trans hT) hGX (fun cells slots w9 pc lv v => rI cells slots w9 pc lv v rfl) (o := (r, w1)) (fun v9 w9 e9 => by cases e9; exact ⟨rfl, rfl⟩) h
/-! X7_numberLong -/
abbrev rmX7_numberLong : Room := { frames := 0, cells := 0, slots := 0, locals := 0 }
theorem hdX7_numberLong : yX7_numberLong.cls ≠ "java/lang/invoke/MethodHandle" ∧ yX7_numberLong.cls ≠ "java/lang/invoke/VarHandle" ∧ (parseMethodDescriptor yX7_numberLong.desc).map (fun d => d.parameters.length) = some 1 := by decide +kernel
def fX7_numberLong (v0 : Int32) : Option Int32 := (if v0 ≤ (99 : Int32) then (if v0 ≤ (9 : Int32) then some (1 : Int32) else some (2 : Int32)) else some (3 : Int32))
set_option maxRecDepth 100000 in
set_option maxHeartbeats 4000000 in
theorem sX7_numberLong {X : JX} {cI cZ cO cJ : ClassId} {wv : va_W} {post : Option Value → va_W → Prop} (hX : jOK X cX7_numberLong 1 wsX7_numberLong RX7 rmX7_numberLong) (hT : jT X = jTy cI cZ cO cJ) (hGX : jG X jG0) (hret : jRI X cX7_numberLong rmX7_numberLong post) {o : Int32} (hro : ∀ v9 : Int32, o = v9 → post (some (.int v9)) wv) {v0 : Int32} (h : fX7_numberLong v0 = some o) : JW X 0 0 wv 0 [(0, .int v0)] [] := by
  unfold fX7_numberLong at h
  refine jw_iload_n hX dX7_numberLong_0 rfl 0 rfl ?_
  refine jw_bipush (v := (99 : Int32)) hX dX7_numberLong_1 (by decide) ?_
  refine jw_icmp_le (tgt := 10) hX dX7_numberLong_3 (by decide) (fun hc => ?_) (fun hc => ?_)
  · rw [if_pos hc] at h
    refine jw_iload_n hX dX7_numberLong_10 rfl 0 rfl ?_
    refine jw_bipush (v := (9 : Int32)) hX dX7_numberLong_11 (by decide) ?_
    refine jw_icmp_le (tgt := 20) hX dX7_numberLong_13 (by decide) (fun hc => ?_) (fun hc => ?_)
    · rw [if_pos hc] at h
      refine jw_iconst (v := (1 : Int32)) hX dX7_numberLong_20 (by decide) ?_
      exact hret _ _ _ _ _ _ (Nat.zero_le _) (Nat.zero_le _) dX7_numberLong_21 (hro _ (Option.some.inj h).symm)
    · rw [if_neg hc] at h
      refine jw_iconst (v := (2 : Int32)) hX dX7_numberLong_16 (by decide) ?_
      refine jw_goto (tgt := 21) hX dX7_numberLong_17 (by decide) ?_
      exact hret _ _ _ _ _ _ (Nat.zero_le _) (Nat.zero_le _) dX7_numberLong_21 (hro _ (Option.some.inj h).symm)
  · rw [if_neg hc] at h
    refine jw_iconst (v := (3 : Int32)) hX dX7_numberLong_6 (by decide) ?_
    refine jw_goto (tgt := 21) hX dX7_numberLong_7 (by decide) ?_
    exact hret _ _ _ _ _ _ (Nat.zero_le _) (Nat.zero_le _) dX7_numberLong_21 (hro _ (Option.some.inj h).symm)
set_option maxRecDepth 100000 in
set_option maxHeartbeats 4000000 in
theorem kX7_numberLong {l : Launch} {D : va_G} {tys : List (ClassId × FieldType)} {cI cZ cO cJ : ClassId} {wv : va_W} {v0 : Int32} {r : Int32} (hT : tys = jTy cI cZ cO cJ) (h : fX7_numberLong v0 = some r) : CC l jG0 D tys yX7_numberLong wsX7_numberLong rmX7_numberLong [.int v0] wv (fun ov w2 => ov = some (.int r) ∧ w2 = wv) := by
  refine CC_of (cc := cX7_numberLong) (maxL := 1) (ret := (some .int)) (by decide) rfl (Nat.le_of_ble_eq_true rfl) ?_
  intro X hD hL hT0 hGX hX rI rZ rV rA
  exact sX7_numberLong (post := fun ov w2 => ov = some (.int r) ∧ w2 = wv) hX (hT0.trans hT) hGX (fun cells slots w9 pc lv v => rI cells slots w9 pc lv v rfl) (o := r) (fun v9 e9 => by cases e9; exact ⟨rfl, rfl⟩) h
/-! X7_spreadLong -/
abbrev rmX7_spreadLong : Room := { frames := 1, cells := 0, slots := 0, locals := 20 }
theorem hdX7_spreadLong : yX7_spreadLong.cls = RX7 ∧ yX7_spreadLong.cls ≠ "java/lang/invoke/MethodHandle" ∧ yX7_spreadLong.cls ≠ "java/lang/invoke/VarHandle" ∧ (parseMethodDescriptor yX7_spreadLong.desc).map (fun d => d.parameters.length) = some 1 := by decide +kernel
theorem inX7_spreadLong : ∀ w ∈ wsX70, w ∈ wsX7_spreadLong := fun _ h => List.mem_cons_of_mem _ (List.mem_append_right _ h)
theorem lkX7_spreadLong_13 : Cond.fieldLink RX7 13 "PostlintModel" (TX7 4).2.1 (TX7 4).2.2.1 ∈ wsX7_spreadLong := by decide +kernel
theorem lkX7_spreadLong_29 : Cond.fieldLink RX7 29 "PostlintModel" (TX7 9).2.1 (TX7 9).2.2.1 ∈ wsX7_spreadLong := by decide +kernel
theorem lkX7_spreadLong_38 : Cond.fieldLink RX7 38 "PostlintModel" (TX7 12).2.1 (TX7 12).2.2.1 ∈ wsX7_spreadLong := by decide +kernel
theorem lkX7_spreadLong_41 : Cond.fieldLink RX7 41 "PostlintModel" (TX7 13).2.1 (TX7 13).2.2.1 ∈ wsX7_spreadLong := by decide +kernel
def fX7_spreadLong_L18 (n : Nat) : Nat → MW → Int32 → Int32 → Int32 → Option (Int32)
  | 0, _, _, _, _ => none
  | k + 1, w, v1, v2, v3 => chk (inB v1 (mLen 9)) ((if (((16 : Int32) * v1) + (w.2 9 (v1).toNatClampNeg)) ≤ v3 then some (v2) else chk (inB v3 (mLen 13)) (chk (inB v3 (mLen 12)) (bP (fX7_numberLong (w.2 12 (v3).toNatClampNeg)) (fun r47 => bnd ((v2 + ((w.2 13 (v3).toNatClampNeg) * ((3 : Int32) + r47)))) (fun y53 => fX7_spreadLong_L18 n k w v1 y53 ((v3 + (1 : Int32)))))))))
def fX7_spreadLong (n : Nat) (w : MW) (v1 : Int32) : Option Int32 := chk (inB v1 (mLen 4)) ((if (w.2 4 (v1).toNatClampNeg) = 0 then bnd (((16 : Int32) * v1)) (fun y17 => bL1 (fX7_spreadLong_L18 n n w v1 (-1 : Int32) y17) (fun x2_18 => some x2_18)) else some (1 : Int32)))
set_option maxRecDepth 100000 in
set_option maxHeartbeats 4000000 in
theorem sX7_spreadLong_L18 {X : JX} {a : Nat} {ad : Nat → Nat} {cI cZ cO cJ : ClassId} {n : Nat} {w : MW} {post : Option Value → va_W → Prop} (hX : jOK X cX7_spreadLong 4 wsX7_spreadLong RX7 rmX7_spreadLong) (hT : jT X = jTy cI cZ cO cJ) (hGX : jG X jG0) (hret : jRI X cX7_spreadLong rmX7_spreadLong post) {o : (Int32)} (hex : ∀ (x2 : Int32), o = x2 → JW X 0 0 (mW a ad cI cZ w) 60 [(2, .int x2)] [])  : ∀ (k : Nat) (v1 v2 v3 : Int32), fX7_spreadLong_L18 n k w v1 v2 v3 = some o → JW X 0 0 (mW a ad cI cZ w) 18 [(0, .ref a), (1, .int v1), (2, .int v2), (3, .int v3)] [] := by
  intro k
  induction k with
  | zero => intro v1 v2 v3 h; cases h
  | succ k hrec0 =>
    intro v1 v2 v3 h
    have hrec := fun (_ : MW) => hrec0
    unfold fX7_spreadLong_L18 at h
    refine jw_iload_n hX dX7_spreadLong_18 rfl 3 rfl ?_
    refine jw_bipush (v := (16 : Int32)) hX dX7_spreadLong_19 (by decide) ?_
    refine jw_iload_n hX dX7_spreadLong_21 rfl 1 rfl ?_
    refine jw_imul hX dX7_spreadLong_22 ?_
    refine jw_aload_n hX dX7_spreadLong_23 rfl 0 rfl ?_
    refine jw_mgetA hX hT inX7_spreadLong 9 (by decide) lkX7_spreadLong_29 rfl dX7_spreadLong_24 ?_
    refine jw_iload_n hX dX7_spreadLong_27 rfl 1 rfl ?_
    obtain ⟨hb28, h⟩ := chk_some h
    refine jw_miald hX hT 6 9 rfl rfl hb28 dX7_spreadLong_28 ?_
    refine jw_iadd hX dX7_spreadLong_29 ?_
    refine jw_icmp_ge (tgt := 60) hX dX7_spreadLong_30 (by decide) (fun hc => ?_) (fun hc => ?_)
    · rw [if_pos hc] at h
      refine jw_sub [2] [(2, .int v2)] rfl ?_
      exact hex _ (Option.some.inj h).symm
    · rw [if_neg hc] at h
      refine jw_iload_n hX dX7_spreadLong_33 rfl 2 rfl ?_
      refine jw_aload_n hX dX7_spreadLong_34 rfl 0 rfl ?_
      refine jw_mgetA hX hT inX7_spreadLong 13 (by decide) lkX7_spreadLong_41 rfl dX7_spreadLong_35 ?_
      refine jw_iload_n hX dX7_spreadLong_38 rfl 3 rfl ?_
      obtain ⟨hb39, h⟩ := chk_some h
      refine jw_miald hX hT 10 13 rfl rfl hb39 dX7_spreadLong_39 ?_
      refine jw_iconst (v := (3 : Int32)) hX dX7_spreadLong_40 (by decide) ?_
      refine jw_aload_n hX dX7_spreadLong_41 rfl 0 rfl ?_
      refine jw_mgetA hX hT inX7_spreadLong 12 (by decide) lkX7_spreadLong_38 rfl dX7_spreadLong_42 ?_
      refine jw_iload_n hX dX7_spreadLong_45 rfl 3 rfl ?_
      obtain ⟨hb46, h⟩ := chk_some h
      refine jw_miald hX hT 9 12 rfl rfl hb46 dX7_spreadLong_46 ?_
      obtain ⟨r47, hc47, h⟩ := bP_some h
      refine jw_cSi (As := [.int (w.2 12 (v3).toNatClampNeg)]) hX jG0_ok hGX 1 (kX7_numberLong hT hc47) gX7_spreadLong_X7_numberLong rfl hdX7_numberLong ⟨by decide, by decide⟩ rfl (Nat.le_of_ble_eq_true rfl) dX7_spreadLong_47 rfl rfl ⟨by decide, by decide⟩ ?_
      refine jw_iadd hX dX7_spreadLong_50 ?_
      refine jw_imul hX dX7_spreadLong_51 ?_
      refine jw_iadd hX dX7_spreadLong_52 ?_
      refine jw_topi (fun y53 e53 => ?_)
      replace h := bnd_some h y53 e53
      clear e53
      refine jw_istore_n hX [(2, .int y53), (0, .ref a), (1, .int v1), (3, .int v3)] dX7_spreadLong_53 rfl (by decide) rfl ?_
      refine jw_iinc (v := (v3 + (1 : Int32))) hX [(3, .int (v3 + (1 : Int32))), (2, .int y53), (0, .ref a), (1, .int v1)] dX7_spreadLong_54 3 rfl (by first | rfl | (congr 1; decide)) (by decide) rfl ?_
      refine jw_goto (tgt := 18) hX dX7_spreadLong_57 (by decide) ?_
      refine jw_sub [2, 3, 1, 0] [(0, .ref a), (1, .int v1), (2, .int y53), (3, .int (v3 + (1 : Int32)))] rfl ?_
      exact hrec w _ _ _ h
set_option maxRecDepth 100000 in
set_option maxHeartbeats 4000000 in
theorem sX7_spreadLong {X : JX} {a : Nat} {ad : Nat → Nat} {cI cZ cO cJ : ClassId} {n : Nat} {w : MW} {post : Option Value → va_W → Prop} (hX : jOK X cX7_spreadLong 4 wsX7_spreadLong RX7 rmX7_spreadLong) (hT : jT X = jTy cI cZ cO cJ) (hGX : jG X jG0) (hret : jRI X cX7_spreadLong rmX7_spreadLong post) {o : Int32} (hro : ∀ v9 : Int32, o = v9 → post (some (.int v9)) (mW a ad cI cZ w)) {v1 : Int32} (h : fX7_spreadLong n w v1 = some o) : JW X 0 0 (mW a ad cI cZ w) 0 [(0, .ref a), (1, .int v1)] [] := by
  unfold fX7_spreadLong at h
  refine jw_aload_n hX dX7_spreadLong_0 rfl 0 rfl ?_
  refine jw_mgetA hX hT inX7_spreadLong 4 (by decide) lkX7_spreadLong_13 rfl dX7_spreadLong_1 ?_
  refine jw_iload_n hX dX7_spreadLong_4 rfl 1 rfl ?_
  obtain ⟨hb5, h⟩ := chk_some h
  refine jw_mzald hX hT 1 4 rfl rfl hb5 dX7_spreadLong_5 ?_
  refine jw_if_eq (tgt := 11) hX dX7_spreadLong_6 (by decide) (fun hc => ?_) (fun hc => ?_)
  · rw [if_pos hc] at h
    refine jw_iconst (v := (-1 : Int32)) hX dX7_spreadLong_11 (by decide) ?_
    refine jw_istore_n hX [(2, .int (-1 : Int32)), (0, .ref a), (1, .int v1)] dX7_spreadLong_12 rfl (by decide) rfl ?_
    refine jw_bipush (v := (16 : Int32)) hX dX7_spreadLong_13 (by decide) ?_
    refine jw_iload_n hX dX7_spreadLong_15 rfl 2 rfl ?_
    refine jw_imul hX dX7_spreadLong_16 ?_
    refine jw_topi (fun y17 e17 => ?_)
    replace h := bnd_some h y17 e17
    clear e17
    refine jw_istore_n hX [(3, .int y17), (2, .int (-1 : Int32)), (0, .ref a), (1, .int v1)] dX7_spreadLong_17 rfl (by decide) rfl ?_
    refine jw_sub [2, 3, 1, 0] [(0, .ref a), (1, .int v1), (2, .int (-1 : Int32)), (3, .int y17)] rfl ?_
    obtain ⟨x2_18, hl18, h⟩ := bL1_some h
    refine sX7_spreadLong_L18 hX hT hGX hret (o := x2_18) (fun q0 e9 => ?_) n _ _ _ hl18
    cases e9
    refine jw_iload_n hX dX7_spreadLong_60 rfl 0 rfl ?_
    exact hret _ _ _ _ _ _ (Nat.zero_le _) (Nat.zero_le _) dX7_spreadLong_61 (hro _ (Option.some.inj h).symm)
  · rw [if_neg hc] at h
    refine jw_iconst (v := (1 : Int32)) hX dX7_spreadLong_9 (by decide) ?_
    exact hret _ _ _ _ _ _ (Nat.zero_le _) (Nat.zero_le _) dX7_spreadLong_10 (hro _ (Option.some.inj h).symm)
set_option maxRecDepth 100000 in
set_option maxHeartbeats 4000000 in
theorem kX7_spreadLong {l : Launch} {D : va_G} {tys : List (ClassId × FieldType)} {a : Nat} {ad : Nat → Nat} {cI cZ cO cJ : ClassId} {n : Nat} {w : MW} {v1 : Int32} {r : Int32} (hT : tys = jTy cI cZ cO cJ) (h : fX7_spreadLong n w v1 = some r) : CC l jG0 D tys yX7_spreadLong wsX7_spreadLong rmX7_spreadLong [.ref a, .int v1] (mW a ad cI cZ w) (fun ov w2 => ov = some (.int r) ∧ w2 = (mW a ad cI cZ w)) := by
  refine CC_of (cc := cX7_spreadLong) (maxL := 4) (ret := (some .int)) (by decide) rfl (Nat.le_of_ble_eq_true rfl) ?_
  intro X hD hL hT0 hGX hX rI rZ rV rA
  exact sX7_spreadLong (post := fun ov w2 => ov = some (.int r) ∧ w2 = (mW a ad cI cZ w)) hX (hT0.trans hT) hGX (fun cells slots w9 pc lv v => rI cells slots w9 pc lv v rfl) (o := r) (fun v9 e9 => by cases e9; exact ⟨rfl, rfl⟩) h
/-! X7_spreadAt -/
abbrev rmX7_spreadAt : Room := { frames := 1, cells := 0, slots := 0, locals := 20 }
theorem hdX7_spreadAt : yX7_spreadAt.cls = RX7 ∧ yX7_spreadAt.cls ≠ "java/lang/invoke/MethodHandle" ∧ yX7_spreadAt.cls ≠ "java/lang/invoke/VarHandle" ∧ (parseMethodDescriptor yX7_spreadAt.desc).map (fun d => d.parameters.length) = some 2 := by decide +kernel
theorem inX7_spreadAt : ∀ w ∈ wsX70, w ∈ wsX7_spreadAt := fun _ h => List.mem_cons_of_mem _ (List.mem_append_right _ h)
theorem lkX7_spreadAt_13 : Cond.fieldLink RX7 13 "PostlintModel" (TX7 4).2.1 (TX7 4).2.2.1 ∈ wsX7_spreadAt := by decide +kernel
theorem lkX7_spreadAt_32 : Cond.fieldLink RX7 32 "PostlintModel" (TX7 10).2.1 (TX7 10).2.2.1 ∈ wsX7_spreadAt := by decide +kernel
theorem lkX7_spreadAt_35 : Cond.fieldLink RX7 35 "PostlintModel" (TX7 11).2.1 (TX7 11).2.2.1 ∈ wsX7_spreadAt := by decide +kernel
theorem lkX7_spreadAt_38 : Cond.fieldLink RX7 38 "PostlintModel" (TX7 12).2.1 (TX7 12).2.2.1 ∈ wsX7_spreadAt := by decide +kernel
theorem lkX7_spreadAt_41 : Cond.fieldLink RX7 41 "PostlintModel" (TX7 13).2.1 (TX7 13).2.2.1 ∈ wsX7_spreadAt := by decide +kernel
def fX7_spreadAt_L20 (n : Nat) : Nat → MW → Int32 → Int32 → Option (Int32 × Int32)
  | 0, _, _, _ => none
  | k + 1, w, v3, v4 => chk (inB v4 (mLen 13)) (chk (inB v4 (mLen 12)) (bP (fX7_numberLong (w.2 12 (v4).toNatClampNeg)) (fun r36 => (if v3 < ((w.2 13 (v4).toNatClampNeg) * ((3 : Int32) + r36)) then some (v3, v4) else chk (inB v4 (mLen 13)) (chk (inB v4 (mLen 12)) (bP (fX7_numberLong (w.2 12 (v4).toNatClampNeg)) (fun r60 => bnd ((v3 - ((w.2 13 (v4).toNatClampNeg) * ((3 : Int32) + r60)))) (fun y66 => fX7_spreadAt_L20 n k w y66 ((v4 + (1 : Int32)))))))))))
def fX7_spreadAt_L156 (n : Nat) : Nat → MW → Int32 → Int32 → Int32 → Option (Int32)
  | 0, _, _, _, _ => none
  | k + 1, w, v3, v6, v7 => (if v7 ≤ (v3 - (2 : Int32)) then some (v6) else chk (nz (10 : Int32)) (bnd ((v6 / (10 : Int32))) (fun y169 => fX7_spreadAt_L156 n k w v3 y169 ((v7 + (-1 : Int32))))))
def fX7_spreadAt (n : Nat) (w : MW) (v1 v2 : Int32) : Option Int32 := chk (inB v1 (mLen 4)) ((if (w.2 4 (v1).toNatClampNeg) = 0 then bnd (((16 : Int32) * v1)) (fun y18 => bL2 (fX7_spreadAt_L20 n n w v2 y18) (fun x3_20 x4_20 => chk (inB x4_20 (mLen 12)) (bP (fX7_numberLong (w.2 12 (x4_20).toNatClampNeg)) (fun r80 => chk (nz ((3 : Int32) + r80)) (bnd ((x3_20 - x3_20 / ((3 : Int32) + r80) * ((3 : Int32) + r80))) (fun y91 => (if y91 = 0 then chk (inB x4_20 (mLen 10)) (some ((97 : Int32) + (w.2 10 (x4_20).toNatClampNeg))) else (if y91 = (1 : Int32) then chk (inB x4_20 (mLen 11)) ((if (w.2 11 (x4_20).toNatClampNeg) = 0 then some (43 : Int32) else some (45 : Int32))) else (if y91 = ((2 : Int32) + r80) then some (32 : Int32) else chk (inB x4_20 (mLen 12)) (bnd ((w.2 12 (x4_20).toNatClampNeg)) (fun y148 => bnd ((r80 - (1 : Int32))) (fun y154 => bL1 (fX7_spreadAt_L156 n n w y91 y148 y154) (fun x6_156 => chk (nz (10 : Int32)) (some ((48 : Int32) + (x6_156 - x6_156 / (10 : Int32) * (10 : Int32))))))))))))))))) else some (45 : Int32)))
set_option maxRecDepth 100000 in
set_option maxHeartbeats 4000000 in
theorem sX7_spreadAt_L20 {X : JX} {a : Nat} {ad : Nat → Nat} {cI cZ cO cJ : ClassId} {n : Nat} {w : MW} {post : Option Value → va_W → Prop} (hX : jOK X cX7_spreadAt 8 wsX7_spreadAt RX7 rmX7_spreadAt) (hT : jT X = jTy cI cZ cO cJ) (hGX : jG X jG0) (hret : jRI X cX7_spreadAt rmX7_spreadAt post) {o : (Int32 × Int32)} (hex : ∀ (x3 x4 : Int32), o = (x3, x4) → JW X 0 0 (mW a ad cI cZ w) 73 [(0, .ref a), (3, .int x3), (4, .int x4)] [])  : ∀ (k : Nat) (v3 v4 : Int32), fX7_spreadAt_L20 n k w v3 v4 = some o → JW X 0 0 (mW a ad cI cZ w) 20 [(0, .ref a), (3, .int v3), (4, .int v4)] [] := by
  intro k
  induction k with
  | zero => intro v3 v4 h; cases h
  | succ k hrec0 =>
    intro v3 v4 h
    have hrec := fun (_ : MW) => hrec0
    unfold fX7_spreadAt_L20 at h
    refine jw_iload_n hX dX7_spreadAt_20 rfl 1 rfl ?_
    refine jw_aload_n hX dX7_spreadAt_21 rfl 0 rfl ?_
    refine jw_mgetA hX hT inX7_spreadAt 13 (by decide) lkX7_spreadAt_41 rfl dX7_spreadAt_22 ?_
    refine jw_iload hX dX7_spreadAt_25 2 rfl ?_
    obtain ⟨hb27, h⟩ := chk_some h
    refine jw_miald hX hT 10 13 rfl rfl hb27 dX7_spreadAt_27 ?_
    refine jw_iconst (v := (3 : Int32)) hX dX7_spreadAt_28 (by decide) ?_
    refine jw_aload_n hX dX7_spreadAt_29 rfl 0 rfl ?_
    refine jw_mgetA hX hT inX7_spreadAt 12 (by decide) lkX7_spreadAt_38 rfl dX7_spreadAt_30 ?_
    refine jw_iload hX dX7_spreadAt_33 2 rfl ?_
    obtain ⟨hb35, h⟩ := chk_some h
    refine jw_miald hX hT 9 12 rfl rfl hb35 dX7_spreadAt_35 ?_
    obtain ⟨r36, hc36, h⟩ := bP_some h
    refine jw_cSi (As := [.int (w.2 12 (v4).toNatClampNeg)]) hX jG0_ok hGX 1 (kX7_numberLong hT hc36) gX7_spreadAt_X7_numberLong rfl hdX7_numberLong ⟨by decide, by decide⟩ rfl (Nat.le_of_ble_eq_true rfl) dX7_spreadAt_36 rfl rfl ⟨by decide, by decide⟩ ?_
    refine jw_iadd hX dX7_spreadAt_39 ?_
    refine jw_imul hX dX7_spreadAt_40 ?_
    refine jw_icmp_lt (tgt := 73) hX dX7_spreadAt_41 (by decide) (fun hc => ?_) (fun hc => ?_)
    · rw [if_pos hc] at h
      exact hex _ _ (Option.some.inj h).symm
    · rw [if_neg hc] at h
      refine jw_iload_n hX dX7_spreadAt_44 rfl 1 rfl ?_
      refine jw_aload_n hX dX7_spreadAt_45 rfl 0 rfl ?_
      refine jw_mgetA hX hT inX7_spreadAt 13 (by decide) lkX7_spreadAt_41 rfl dX7_spreadAt_46 ?_
      refine jw_iload hX dX7_spreadAt_49 2 rfl ?_
      obtain ⟨hb51, h⟩ := chk_some h
      refine jw_miald hX hT 10 13 rfl rfl hb51 dX7_spreadAt_51 ?_
      refine jw_iconst (v := (3 : Int32)) hX dX7_spreadAt_52 (by decide) ?_
      refine jw_aload_n hX dX7_spreadAt_53 rfl 0 rfl ?_
      refine jw_mgetA hX hT inX7_spreadAt 12 (by decide) lkX7_spreadAt_38 rfl dX7_spreadAt_54 ?_
      refine jw_iload hX dX7_spreadAt_57 2 rfl ?_
      obtain ⟨hb59, h⟩ := chk_some h
      refine jw_miald hX hT 9 12 rfl rfl hb59 dX7_spreadAt_59 ?_
      obtain ⟨r60, hc60, h⟩ := bP_some h
      refine jw_cSi (As := [.int (w.2 12 (v4).toNatClampNeg)]) hX jG0_ok hGX 1 (kX7_numberLong hT hc60) gX7_spreadAt_X7_numberLong rfl hdX7_numberLong ⟨by decide, by decide⟩ rfl (Nat.le_of_ble_eq_true rfl) dX7_spreadAt_60 rfl rfl ⟨by decide, by decide⟩ ?_
      refine jw_iadd hX dX7_spreadAt_63 ?_
      refine jw_imul hX dX7_spreadAt_64 ?_
      refine jw_isub hX dX7_spreadAt_65 ?_
      refine jw_topi (fun y66 e66 => ?_)
      replace h := bnd_some h y66 e66
      clear e66
      refine jw_istore_n hX [(3, .int y66), (0, .ref a), (4, .int v4)] dX7_spreadAt_66 rfl (by decide) rfl ?_
      refine jw_iinc (v := (v4 + (1 : Int32))) hX [(4, .int (v4 + (1 : Int32))), (3, .int y66), (0, .ref a)] dX7_spreadAt_67 2 rfl (by first | rfl | (congr 1; decide)) (by decide) rfl ?_
      refine jw_goto (tgt := 20) hX dX7_spreadAt_70 (by decide) ?_
      refine jw_sub [2, 1, 0] [(0, .ref a), (3, .int y66), (4, .int (v4 + (1 : Int32)))] rfl ?_
      exact hrec w _ _ h
set_option maxRecDepth 100000 in
set_option maxHeartbeats 4000000 in
theorem sX7_spreadAt_L156 {X : JX} {a : Nat} {ad : Nat → Nat} {cI cZ cO cJ : ClassId} {n : Nat} {w : MW} {post : Option Value → va_W → Prop} (hX : jOK X cX7_spreadAt 8 wsX7_spreadAt RX7 rmX7_spreadAt) (hT : jT X = jTy cI cZ cO cJ) (hGX : jG X jG0) (hret : jRI X cX7_spreadAt rmX7_spreadAt post) {o : (Int32)} (hex : ∀ (x6 : Int32), o = x6 → JW X 0 0 (mW a ad cI cZ w) 177 [(6, .int x6)] [])  : ∀ (k : Nat) (v3 v6 v7 : Int32), fX7_spreadAt_L156 n k w v3 v6 v7 = some o → JW X 0 0 (mW a ad cI cZ w) 156 [(3, .int v3), (6, .int v6), (7, .int v7)] [] := by
  intro k
  induction k with
  | zero => intro v3 v6 v7 h; cases h
  | succ k hrec0 =>
    intro v3 v6 v7 h
    have hrec := fun (_ : MW) => hrec0
    unfold fX7_spreadAt_L156 at h
    refine jw_iload hX dX7_spreadAt_156 2 rfl ?_
    refine jw_iload_n hX dX7_spreadAt_158 rfl 0 rfl ?_
    refine jw_iconst (v := (2 : Int32)) hX dX7_spreadAt_159 (by decide) ?_
    refine jw_isub hX dX7_spreadAt_160 ?_
    refine jw_icmp_le (tgt := 177) hX dX7_spreadAt_161 (by decide) (fun hc => ?_) (fun hc => ?_)
    · rw [if_pos hc] at h
      refine jw_sub [1] [(6, .int v6)] rfl ?_
      exact hex _ (Option.some.inj h).symm
    · rw [if_neg hc] at h
      refine jw_iload hX dX7_spreadAt_164 1 rfl ?_
      refine jw_bipush (v := (10 : Int32)) hX dX7_spreadAt_166 (by decide) ?_
      obtain ⟨hz168, h⟩ := chk_some h
      refine jw_idiv hX dX7_spreadAt_168 (nz_ne hz168) ?_
      refine jw_topi (fun y169 e169 => ?_)
      replace h := bnd_some h y169 e169
      clear e169
      refine jw_istore hX [(6, .int y169), (3, .int v3), (7, .int v7)] dX7_spreadAt_169 (by decide) rfl ?_
      refine jw_iinc (v := (v7 + (-1 : Int32))) hX [(7, .int (v7 + (-1 : Int32))), (6, .int y169), (3, .int v3)] dX7_spreadAt_171 2 rfl (by first | rfl | (congr 1; decide)) (by decide) rfl ?_
      refine jw_goto (tgt := 156) hX dX7_spreadAt_174 (by decide) ?_
      refine jw_sub [2, 1, 0] [(3, .int v3), (6, .int y169), (7, .int (v7 + (-1 : Int32)))] rfl ?_
      exact hrec w _ _ _ h
set_option maxRecDepth 100000 in
set_option maxHeartbeats 4000000 in
theorem sX7_spreadAt {X : JX} {a : Nat} {ad : Nat → Nat} {cI cZ cO cJ : ClassId} {n : Nat} {w : MW} {post : Option Value → va_W → Prop} (hX : jOK X cX7_spreadAt 8 wsX7_spreadAt RX7 rmX7_spreadAt) (hT : jT X = jTy cI cZ cO cJ) (hGX : jG X jG0) (hret : jRI X cX7_spreadAt rmX7_spreadAt post) {o : Int32} (hro : ∀ v9 : Int32, o = v9 → post (some (.int v9)) (mW a ad cI cZ w)) {v1 v2 : Int32} (h : fX7_spreadAt n w v1 v2 = some o) : JW X 0 0 (mW a ad cI cZ w) 0 [(0, .ref a), (1, .int v1), (2, .int v2)] [] := by
  unfold fX7_spreadAt at h
  refine jw_aload_n hX dX7_spreadAt_0 rfl 0 rfl ?_
  refine jw_mgetA hX hT inX7_spreadAt 4 (by decide) lkX7_spreadAt_13 rfl dX7_spreadAt_1 ?_
  refine jw_iload_n hX dX7_spreadAt_4 rfl 1 rfl ?_
  obtain ⟨hb5, h⟩ := chk_some h
  refine jw_mzald hX hT 1 4 rfl rfl hb5 dX7_spreadAt_5 ?_
  refine jw_if_eq (tgt := 12) hX dX7_spreadAt_6 (by decide) (fun hc => ?_) (fun hc => ?_)
  · rw [if_pos hc] at h
    refine jw_iload_n hX dX7_spreadAt_12 rfl 2 rfl ?_
    refine jw_istore_n hX [(3, .int v2), (0, .ref a), (1, .int v1), (2, .int v2)] dX7_spreadAt_13 rfl (by decide) rfl ?_
    refine jw_bipush (v := (16 : Int32)) hX dX7_spreadAt_14 (by decide) ?_
    refine jw_iload_n hX dX7_spreadAt_16 rfl 2 rfl ?_
    refine jw_imul hX dX7_spreadAt_17 ?_
    refine jw_topi (fun y18 e18 => ?_)
    replace h := bnd_some h y18 e18
    clear e18
    refine jw_istore hX [(4, .int y18), (3, .int v2), (0, .ref a), (1, .int v1), (2, .int v2)] dX7_spreadAt_18 (by decide) rfl ?_
    refine jw_sub [2, 1, 0] [(0, .ref a), (3, .int v2), (4, .int y18)] rfl ?_
    obtain ⟨x3_20, x4_20, hl20, h⟩ := bL2_some h
    refine sX7_spreadAt_L20 hX hT hGX hret (o := (x3_20, x4_20)) (fun q0 q1 e9 => ?_) n _ _ hl20
    cases e9
    refine jw_aload_n hX dX7_spreadAt_73 rfl 0 rfl ?_
    refine jw_mgetA hX hT inX7_spreadAt 12 (by decide) lkX7_spreadAt_38 rfl dX7_spreadAt_74 ?_
    refine jw_iload hX dX7_spreadAt_77 2 rfl ?_
    obtain ⟨hb79, h⟩ := chk_some h
    refine jw_miald hX hT 9 12 rfl rfl hb79 dX7_spreadAt_79 ?_
    obtain ⟨r80, hc80, h⟩ := bP_some h
    refine jw_cSi (As := [.int (w.2 12 (x4_20).toNatClampNeg)]) hX jG0_ok hGX 1 (kX7_numberLong hT hc80) gX7_spreadAt_X7_numberLong rfl hdX7_numberLong ⟨by decide, by decide⟩ rfl (Nat.le_of_ble_eq_true rfl) dX7_spreadAt_80 rfl rfl ⟨by decide, by decide⟩ ?_
    refine jw_istore hX [(5, .int r80), (0, .ref a), (3, .int x3_20), (4, .int x4_20)] dX7_spreadAt_83 (by decide) rfl ?_
    refine jw_iload_n hX dX7_spreadAt_85 rfl 2 rfl ?_
    refine jw_iconst (v := (3 : Int32)) hX dX7_spreadAt_86 (by decide) ?_
    refine jw_iload hX dX7_spreadAt_87 0 rfl ?_
    refine jw_iadd hX dX7_spreadAt_89 ?_
    obtain ⟨hz90, h⟩ := chk_some h
    refine jw_irem hX dX7_spreadAt_90 (nz_ne hz90) ?_
    refine jw_topi (fun y91 e91 => ?_)
    replace h := bnd_some h y91 e91
    clear e91
    refine jw_istore_n hX [(3, .int y91), (5, .int r80), (0, .ref a), (4, .int x4_20)] dX7_spreadAt_91 rfl (by decide) rfl ?_
    refine jw_iload_n hX dX7_spreadAt_92 rfl 0 rfl ?_
    refine jw_if_ne (tgt := 107) hX dX7_spreadAt_93 (by decide) (fun hc => ?_) (fun hc => ?_)
    · rw [if_neg hc] at h
      refine jw_iload_n hX dX7_spreadAt_107 rfl 0 rfl ?_
      refine jw_iconst (v := (1 : Int32)) hX dX7_spreadAt_108 (by decide) ?_
      refine jw_icmp_ne (tgt := 130) hX dX7_spreadAt_109 (by decide) (fun hc => ?_) (fun hc => ?_)
      · rw [if_neg hc] at h
        refine jw_iload_n hX dX7_spreadAt_130 rfl 0 rfl ?_
        refine jw_iconst (v := (2 : Int32)) hX dX7_spreadAt_131 (by decide) ?_
        refine jw_iload hX dX7_spreadAt_132 1 rfl ?_
        refine jw_iadd hX dX7_spreadAt_134 ?_
        refine jw_icmp_ne (tgt := 141) hX dX7_spreadAt_135 (by decide) (fun hc => ?_) (fun hc => ?_)
        · rw [if_neg hc] at h
          refine jw_aload_n hX dX7_spreadAt_141 rfl 2 rfl ?_
          refine jw_mgetA hX hT inX7_spreadAt 12 (by decide) lkX7_spreadAt_38 rfl dX7_spreadAt_142 ?_
          refine jw_iload hX dX7_spreadAt_145 3 rfl ?_
          obtain ⟨hb147, h⟩ := chk_some h
          refine jw_miald hX hT 9 12 rfl rfl hb147 dX7_spreadAt_147 ?_
          refine jw_topi (fun y148 e148 => ?_)
          replace h := bnd_some h y148 e148
          clear e148
          refine jw_istore hX [(6, .int y148), (3, .int y91), (5, .int r80), (0, .ref a), (4, .int x4_20)] dX7_spreadAt_148 (by decide) rfl ?_
          refine jw_iload hX dX7_spreadAt_150 2 rfl ?_
          refine jw_iconst (v := (1 : Int32)) hX dX7_spreadAt_152 (by decide) ?_
          refine jw_isub hX dX7_spreadAt_153 ?_
          refine jw_topi (fun y154 e154 => ?_)
          replace h := bnd_some h y154 e154
          clear e154
          refine jw_istore hX [(7, .int y154), (6, .int y148), (3, .int y91), (5, .int r80), (0, .ref a), (4, .int x4_20)] dX7_spreadAt_154 (by decide) rfl ?_
          refine jw_sub [2, 1, 0] [(3, .int y91), (6, .int y148), (7, .int y154)] rfl ?_
          obtain ⟨x6_156, hl156, h⟩ := bL1_some h
          refine sX7_spreadAt_L156 hX hT hGX hret (o := x6_156) (fun q0 e9 => ?_) n _ _ _ hl156
          cases e9
          refine jw_bipush (v := (48 : Int32)) hX dX7_spreadAt_177 (by decide) ?_
          refine jw_iload hX dX7_spreadAt_179 0 rfl ?_
          refine jw_bipush (v := (10 : Int32)) hX dX7_spreadAt_181 (by decide) ?_
          obtain ⟨hz183, h⟩ := chk_some h
          refine jw_irem hX dX7_spreadAt_183 (nz_ne hz183) ?_
          refine jw_iadd hX dX7_spreadAt_184 ?_
          exact hret _ _ _ _ _ _ (Nat.zero_le _) (Nat.zero_le _) dX7_spreadAt_185 (hro _ (Option.some.inj h).symm)
        · rw [if_pos hc] at h
          refine jw_bipush (v := (32 : Int32)) hX dX7_spreadAt_138 (by decide) ?_
          exact hret _ _ _ _ _ _ (Nat.zero_le _) (Nat.zero_le _) dX7_spreadAt_140 (hro _ (Option.some.inj h).symm)
      · rw [if_pos hc] at h
        refine jw_aload_n hX dX7_spreadAt_112 rfl 2 rfl ?_
        refine jw_mgetA hX hT inX7_spreadAt 11 (by decide) lkX7_spreadAt_35 rfl dX7_spreadAt_113 ?_
        refine jw_iload hX dX7_spreadAt_116 3 rfl ?_
        obtain ⟨hb118, h⟩ := chk_some h
        refine jw_mzald hX hT 8 11 rfl rfl hb118 dX7_spreadAt_118 ?_
        refine jw_if_eq (tgt := 127) hX dX7_spreadAt_119 (by decide) (fun hc => ?_) (fun hc => ?_)
        · rw [if_pos hc] at h
          refine jw_bipush (v := (43 : Int32)) hX dX7_spreadAt_127 (by decide) ?_
          exact hret _ _ _ _ _ _ (Nat.zero_le _) (Nat.zero_le _) dX7_spreadAt_129 (hro _ (Option.some.inj h).symm)
        · rw [if_neg hc] at h
          refine jw_bipush (v := (45 : Int32)) hX dX7_spreadAt_122 (by decide) ?_
          refine jw_goto (tgt := 129) hX dX7_spreadAt_124 (by decide) ?_
          exact hret _ _ _ _ _ _ (Nat.zero_le _) (Nat.zero_le _) dX7_spreadAt_129 (hro _ (Option.some.inj h).symm)
    · rw [if_pos hc] at h
      refine jw_bipush (v := (97 : Int32)) hX dX7_spreadAt_96 (by decide) ?_
      refine jw_aload_n hX dX7_spreadAt_98 rfl 2 rfl ?_
      refine jw_mgetA hX hT inX7_spreadAt 10 (by decide) lkX7_spreadAt_32 rfl dX7_spreadAt_99 ?_
      refine jw_iload hX dX7_spreadAt_102 3 rfl ?_
      obtain ⟨hb104, h⟩ := chk_some h
      refine jw_miald hX hT 7 10 rfl rfl hb104 dX7_spreadAt_104 ?_
      refine jw_iadd hX dX7_spreadAt_105 ?_
      exact hret _ _ _ _ _ _ (Nat.zero_le _) (Nat.zero_le _) dX7_spreadAt_106 (hro _ (Option.some.inj h).symm)
  · rw [if_neg hc] at h
    refine jw_bipush (v := (45 : Int32)) hX dX7_spreadAt_9 (by decide) ?_
    exact hret _ _ _ _ _ _ (Nat.zero_le _) (Nat.zero_le _) dX7_spreadAt_11 (hro _ (Option.some.inj h).symm)
set_option maxRecDepth 100000 in
set_option maxHeartbeats 4000000 in
theorem kX7_spreadAt {l : Launch} {D : va_G} {tys : List (ClassId × FieldType)} {a : Nat} {ad : Nat → Nat} {cI cZ cO cJ : ClassId} {n : Nat} {w : MW} {v1 v2 : Int32} {r : Int32} (hT : tys = jTy cI cZ cO cJ) (h : fX7_spreadAt n w v1 v2 = some r) : CC l jG0 D tys yX7_spreadAt wsX7_spreadAt rmX7_spreadAt [.ref a, .int v1, .int v2] (mW a ad cI cZ w) (fun ov w2 => ov = some (.int r) ∧ w2 = (mW a ad cI cZ w)) := by
  refine CC_of (cc := cX7_spreadAt) (maxL := 8) (ret := (some .int)) (by decide) rfl (Nat.le_of_ble_eq_true rfl) ?_
  intro X hD hL hT0 hGX hX rI rZ rV rA
  exact sX7_spreadAt (post := fun ov w2 => ov = some (.int r) ∧ w2 = (mW a ad cI cZ w)) hX (hT0.trans hT) hGX (fun cells slots w9 pc lv v => rI cells slots w9 pc lv v rfl) (o := r) (fun v9 e9 => by cases e9; exact ⟨rfl, rfl⟩) h
/-! X7_longOf -/
abbrev rmX7_longOf : Room := { frames := 2, cells := 0, slots := 0, locals := 43 }
theorem hdX7_longOf : yX7_longOf.cls = RX7 ∧ yX7_longOf.cls ≠ "java/lang/invoke/MethodHandle" ∧ yX7_longOf.cls ≠ "java/lang/invoke/VarHandle" ∧ (parseMethodDescriptor yX7_longOf.desc).map (fun d => d.parameters.length) = some 2 := by decide +kernel
theorem inX7_longOf : ∀ w ∈ wsX70, w ∈ wsX7_longOf := fun _ h => List.mem_cons_of_mem _ (List.mem_append_right _ h)
theorem lkX7_longOf_17 : Cond.fieldLink RX7 17 "PostlintModel" (TX7 5).2.1 (TX7 5).2.2.1 ∈ wsX7_longOf := by decide +kernel
theorem lkX7_longOf_23 : Cond.fieldLink RX7 23 "PostlintModel" (TX7 7).2.1 (TX7 7).2.2.1 ∈ wsX7_longOf := by decide +kernel
def fX7_longOf (n : Nat) (w : MW) (v1 v2 : Int32) : Option Int32 := (if v2 = 0 then chk (inB v1 (mLen 5)) (some (w.2 5 (v1).toNatClampNeg)) else (if v2 = (1 : Int32) then chk (inB v1 (mLen 7)) (some (w.2 7 (v1).toNatClampNeg)) else bP (fX7_spreadLong n w v1) (fun r29 => some r29)))
set_option maxRecDepth 100000 in
set_option maxHeartbeats 4000000 in
theorem sX7_longOf {X : JX} {a : Nat} {ad : Nat → Nat} {cI cZ cO cJ : ClassId} {n : Nat} {w : MW} {post : Option Value → va_W → Prop} (hX : jOK X cX7_longOf 3 wsX7_longOf RX7 rmX7_longOf) (hT : jT X = jTy cI cZ cO cJ) (hGX : jG X jG0) (hret : jRI X cX7_longOf rmX7_longOf post) {o : Int32} (hro : ∀ v9 : Int32, o = v9 → post (some (.int v9)) (mW a ad cI cZ w)) {v1 v2 : Int32} (h : fX7_longOf n w v1 v2 = some o) : JW X 0 0 (mW a ad cI cZ w) 0 [(0, .ref a), (1, .int v1), (2, .int v2)] [] := by
  unfold fX7_longOf at h
  refine jw_iload_n hX dX7_longOf_0 rfl 2 rfl ?_
  refine jw_if_ne (tgt := 13) hX dX7_longOf_1 (by decide) (fun hc => ?_) (fun hc => ?_)
  · rw [if_neg hc] at h
    refine jw_iload_n hX dX7_longOf_13 rfl 2 rfl ?_
    refine jw_iconst (v := (1 : Int32)) hX dX7_longOf_14 (by decide) ?_
    refine jw_icmp_ne (tgt := 27) hX dX7_longOf_15 (by decide) (fun hc => ?_) (fun hc => ?_)
    · rw [if_neg hc] at h
      refine jw_aload_n hX dX7_longOf_27 rfl 0 rfl ?_
      refine jw_iload_n hX dX7_longOf_28 rfl 1 rfl ?_
      obtain ⟨r29, hc29, h⟩ := bP_some h
      refine jw_cVi (As := [.int v1]) hX jG0_ok hGX 1 (kX7_spreadLong hT hc29) gX7_longOf_X7_spreadLong rfl hdX7_spreadLong ⟨by decide, by decide⟩ 0 7 rfl rfl rfl (Nat.le_of_ble_eq_true rfl) dX7_longOf_29 rfl rfl ⟨by decide, by decide⟩ ?_
      exact hret _ _ _ _ _ _ (Nat.zero_le _) (Nat.zero_le _) dX7_longOf_32 (hro _ (Option.some.inj h).symm)
    · rw [if_pos hc] at h
      refine jw_aload_n hX dX7_longOf_18 rfl 0 rfl ?_
      refine jw_mgetA hX hT inX7_longOf 7 (by decide) lkX7_longOf_23 rfl dX7_longOf_19 ?_
      refine jw_iload_n hX dX7_longOf_22 rfl 1 rfl ?_
      obtain ⟨hb23, h⟩ := chk_some h
      refine jw_miald hX hT 4 7 rfl rfl hb23 dX7_longOf_23 ?_
      refine jw_goto (tgt := 32) hX dX7_longOf_24 (by decide) ?_
      exact hret _ _ _ _ _ _ (Nat.zero_le _) (Nat.zero_le _) dX7_longOf_32 (hro _ (Option.some.inj h).symm)
  · rw [if_pos hc] at h
    refine jw_aload_n hX dX7_longOf_4 rfl 0 rfl ?_
    refine jw_mgetA hX hT inX7_longOf 5 (by decide) lkX7_longOf_17 rfl dX7_longOf_5 ?_
    refine jw_iload_n hX dX7_longOf_8 rfl 1 rfl ?_
    obtain ⟨hb9, h⟩ := chk_some h
    refine jw_miald hX hT 2 5 rfl rfl hb9 dX7_longOf_9 ?_
    refine jw_goto (tgt := 32) hX dX7_longOf_10 (by decide) ?_
    exact hret _ _ _ _ _ _ (Nat.zero_le _) (Nat.zero_le _) dX7_longOf_32 (hro _ (Option.some.inj h).symm)
set_option maxRecDepth 100000 in
set_option maxHeartbeats 4000000 in
theorem kX7_longOf {l : Launch} {D : va_G} {tys : List (ClassId × FieldType)} {a : Nat} {ad : Nat → Nat} {cI cZ cO cJ : ClassId} {n : Nat} {w : MW} {v1 v2 : Int32} {r : Int32} (hT : tys = jTy cI cZ cO cJ) (h : fX7_longOf n w v1 v2 = some r) : CC l jG0 D tys yX7_longOf wsX7_longOf rmX7_longOf [.ref a, .int v1, .int v2] (mW a ad cI cZ w) (fun ov w2 => ov = some (.int r) ∧ w2 = (mW a ad cI cZ w)) := by
  refine CC_of (cc := cX7_longOf) (maxL := 3) (ret := (some .int)) (by decide) rfl (Nat.le_of_ble_eq_true rfl) ?_
  intro X hD hL hT0 hGX hX rI rZ rV rA
  exact sX7_longOf (post := fun ov w2 => ov = some (.int r) ∧ w2 = (mW a ad cI cZ w)) hX (hT0.trans hT) hGX (fun cells slots w9 pc lv v => rI cells slots w9 pc lv v rfl) (o := r) (fun v9 e9 => by cases e9; exact ⟨rfl, rfl⟩) h
