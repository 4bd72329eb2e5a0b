/-! X7_signAt -/
abbrev rmX7_signAt : Room := { frames := 3, cells := 0, slots := 0, locals := 65 }
theorem hdX7_signAt : yX7_signAt.cls = RX7 ∧ yX7_signAt.cls ≠ "java/lang/invoke/MethodHandle" ∧ yX7_signAt.cls ≠ "java/lang/invoke/VarHandle" ∧ (parseMethodDescriptor yX7_signAt.desc).map (fun d => d.parameters.length) = some 3 := by decide +kernel
theorem inX7_signAt : ∀ w ∈ wsX70, w ∈ wsX7_signAt := fun _ h => List.mem_cons_of_mem _ (List.mem_append_right _ h)
theorem lkX7_signAt_20 : Cond.fieldLink RX7 20 "PostlintModel" (TX7 6).2.1 (TX7 6).2.2.1 ∈ wsX7_signAt := by decide +kernel
theorem lkX7_signAt_26 : Cond.fieldLink RX7 26 "PostlintModel" (TX7 8).2.1 (TX7 8).2.2.1 ∈ wsX7_signAt := by decide +kernel
def fX7_signAt_J31 (n : Nat) (w : MW) (v1 v2 v3 t0 : Int32) : Option (Int32 × MW) := b2 (fX7_isOf w t0) (fun r31 w31 => (if r31 = 0 then some ((0 : Int32), w31) else bP (fX7_longOf n w31 v1 v2) (fun r43 => (if v3 < r43 then (if v2 = 0 then chk (inB (((60 : Int32) * v1) + v3) (mLen 6)) (some ((w31.2 6 ((((60 : Int32) * v1) + v3)).toNatClampNeg), w31)) else (if v2 = (1 : Int32) then chk (inB (((60 : Int32) * v1) + v3) (mLen 8)) (some ((w31.2 8 ((((60 : Int32) * v1) + v3)).toNatClampNeg), w31)) else bP (fX7_spreadAt n w31 v1 v3) (fun r91 => some (r91, w31)))) else some ((-1 : Int32), w31)))))
def fX7_signAt_J13 (n : Nat) (w : MW) (v1 v2 v3 : Int32) : Option (Int32 × MW) := fX7_signAt_J31 n w v1 v2 v3 (1 : Int32)
def fX7_signAt (n : Nat) (w : MW) (v1 v2 v3 : Int32) : Option (Int32 × MW) := bP (fX7_isEntry w v1) (fun r3 => (if r3 = 0 then fX7_signAt_J13 n w v1 v2 v3 else (if 0 ≤ v3 then bP (fX7_isIn v2 (0 : Int32) (2 : Int32)) (fun r20 => (if r20 = 0 then fX7_signAt_J31 n w v1 v2 v3 (2 : Int32) else fX7_signAt_J31 n w v1 v2 v3 (0 : Int32))) else fX7_signAt_J13 n w v1 v2 v3)))
set_option maxRecDepth 100000 in
set_option maxHeartbeats 4000000 in
theorem sX7_signAt_J31 {X : JX} {a : Nat} {ad : Nat → Nat} {cI cZ cO cJ : ClassId} {n : Nat} {post : Option Value → va_W → Prop} (hX : jOK X cX7_signAt 4 wsX7_signAt RX7 rmX7_signAt) (hT : jT X = jTy cI cZ cO cJ) (hGX : jG X jG0) (hret : jRI X cX7_signAt rmX7_signAt post) {o : (Int32 × MW)}   (hro : ∀ (v9 : Int32) (w9 : MW), o = (v9, w9) → post (some (.int v9)) (mW a ad cI cZ w9)) {w : MW} {v1 v2 v3 t0 : Int32} (h : fX7_signAt_J31 n w v1 v2 v3 t0 = some o) : JW X 0 0 (mW a ad cI cZ w) 31 [(0, .ref a), (1, .int v1), (2, .int v2), (3, .int v3)] [.int t0, .ref a] := by
  unfold fX7_signAt_J31 at h
  obtain ⟨r31, w31, hc31, h⟩ := b2_some h
  refine jw_cVi (As := [.int t0]) hX jG0_ok hGX 1 (kX7_isOf hT hc31) gX7_signAt_X7_isOf rfl hdX7_isOf ⟨by decide, by decide⟩ 0 7 rfl rfl rfl (Nat.le_of_ble_eq_true rfl) dX7_signAt_31 rfl rfl ⟨by decide, by decide⟩ ?_
  refine jw_if_ne (tgt := 39) hX dX7_signAt_34 (by decide) (fun hc => ?_) (fun hc => ?_)
  · rw [if_neg hc] at h
    refine jw_iload_n hX dX7_signAt_39 rfl 3 rfl ?_
    refine jw_aload_n hX dX7_signAt_40 rfl 0 rfl ?_
    refine jw_iload_n hX dX7_signAt_41 rfl 1 rfl ?_
    refine jw_iload_n hX dX7_signAt_42 rfl 2 rfl ?_
    obtain ⟨r43, hc43, h⟩ := bP_some h
    refine jw_cVi (As := [.int v1, .int v2]) hX jG0_ok hGX 2 (kX7_longOf hT hc43) gX7_signAt_X7_longOf rfl hdX7_longOf ⟨by decide, by decide⟩ 0 7 rfl rfl rfl (Nat.le_of_ble_eq_true rfl) dX7_signAt_43 rfl rfl ⟨by decide, by decide⟩ ?_
    refine jw_icmp_lt (tgt := 51) hX dX7_signAt_46 (by decide) (fun hc => ?_) (fun hc => ?_)
    · rw [if_pos hc] at h
      refine jw_iload_n hX dX7_signAt_51 rfl 2 rfl ?_
      refine jw_if_ne (tgt := 69) hX dX7_signAt_52 (by decide) (fun hc => ?_) (fun hc => ?_)
      · rw [if_neg hc] at h
        refine jw_iload_n hX dX7_signAt_69 rfl 2 rfl ?_
        refine jw_iconst (v := (1 : Int32)) hX dX7_signAt_70 (by decide) ?_
        refine jw_icmp_ne (tgt := 88) hX dX7_signAt_71 (by decide) (fun hc => ?_) (fun hc => ?_)
        · rw [if_neg hc] at h
          refine jw_aload_n hX dX7_signAt_88 rfl 0 rfl ?_
          refine jw_iload_n hX dX7_signAt_89 rfl 1 rfl ?_
          refine jw_iload_n hX dX7_signAt_90 rfl 3 rfl ?_
          obtain ⟨r91, hc91, h⟩ := bP_some h
          refine jw_cVi (As := [.int v1, .int v3]) hX jG0_ok hGX 2 (kX7_spreadAt hT hc91) gX7_signAt_X7_spreadAt rfl hdX7_spreadAt ⟨by decide, by decide⟩ 0 7 rfl rfl rfl (Nat.le_of_ble_eq_true rfl) dX7_signAt_91 rfl rfl ⟨by decide, by decide⟩ ?_
          exact hret _ _ _ _ _ _ (Nat.zero_le _) (Nat.zero_le _) dX7_signAt_94 (hro _ _ (Option.some.inj h).symm)
        · rw [if_pos hc] at h
          refine jw_aload_n hX dX7_signAt_74 rfl 0 rfl ?_
          refine jw_mgetA hX hT inX7_signAt 8 (by decide) lkX7_signAt_26 rfl dX7_signAt_75 ?_
          refine jw_bipush (v := (60 : Int32)) hX dX7_signAt_78 (by decide) ?_
          refine jw_iload_n hX dX7_signAt_80 rfl 1 rfl ?_
          refine jw_imul hX dX7_signAt_81 ?_
          refine jw_iload_n hX dX7_signAt_82 rfl 3 rfl ?_
          refine jw_iadd hX dX7_signAt_83 ?_
          obtain ⟨hb84, h⟩ := chk_some h
          refine jw_miald hX hT 5 8 rfl rfl hb84 dX7_signAt_84 ?_
          refine jw_goto (tgt := 94) hX dX7_signAt_85 (by decide) ?_
          exact hret _ _ _ _ _ _ (Nat.zero_le _) (Nat.zero_le _) dX7_signAt_94 (hro _ _ (Option.some.inj h).symm)
      · rw [if_pos hc] at h
        refine jw_aload_n hX dX7_signAt_55 rfl 0 rfl ?_
        refine jw_mgetA hX hT inX7_signAt 6 (by decide) lkX7_signAt_20 rfl dX7_signAt_56 ?_
        refine jw_bipush (v := (60 : Int32)) hX dX7_signAt_59 (by decide) ?_
        refine jw_iload_n hX dX7_signAt_61 rfl 1 rfl ?_
        refine jw_imul hX dX7_signAt_62 ?_
        refine jw_iload_n hX dX7_signAt_63 rfl 3 rfl ?_
        refine jw_iadd hX dX7_signAt_64 ?_
        obtain ⟨hb65, h⟩ := chk_some h
        refine jw_miald hX hT 3 6 rfl rfl hb65 dX7_signAt_65 ?_
        refine jw_goto (tgt := 94) hX dX7_signAt_66 (by decide) ?_
        exact hret _ _ _ _ _ _ (Nat.zero_le _) (Nat.zero_le _) dX7_signAt_94 (hro _ _ (Option.some.inj h).symm)
    · rw [if_neg hc] at h
      refine jw_iconst (v := (-1 : Int32)) hX dX7_signAt_49 (by decide) ?_
      exact hret _ _ _ _ _ _ (Nat.zero_le _) (Nat.zero_le _) dX7_signAt_50 (hro _ _ (Option.some.inj h).symm)
  · rw [if_pos hc] at h
    refine jw_iconst (v := (0 : Int32)) hX dX7_signAt_37 (by decide) ?_
    exact hret _ _ _ _ _ _ (Nat.zero_le _) (Nat.zero_le _) dX7_signAt_38 (hro _ _ (Option.some.inj h).symm)
set_option maxRecDepth 100000 in
set_option maxHeartbeats 4000000 in
theorem sX7_signAt_J13 {X : JX} {a : Nat} {ad : Nat → Nat} {cI cZ cO cJ : ClassId} {n : Nat} {post : Option Value → va_W → Prop} (hX : jOK X cX7_signAt 4 wsX7_signAt RX7 rmX7_signAt) (hT : jT X = jTy cI cZ cO cJ) (hGX : jG X jG0) (hret : jRI X cX7_signAt rmX7_signAt post) {o : (Int32 × MW)}   (hro : ∀ (v9 : Int32) (w9 : MW), o = (v9, w9) → post (some (.int v9)) (mW a ad cI cZ w9)) {w : MW} {v1 v2 v3 : Int32} (h : fX7_signAt_J13 n w v1 v2 v3 = some o) : JW X 0 0 (mW a ad cI cZ w) 13 [(0, .ref a), (1, .int v1), (2, .int v2), (3, .int v3)] [.ref a] := by
  unfold fX7_signAt_J13 at h
  refine jw_iconst (v := (1 : Int32)) hX dX7_signAt_13 (by decide) ?_
  refine jw_goto (tgt := 31) hX dX7_signAt_14 (by decide) ?_
  exact sX7_signAt_J31 hX hT hGX hret hro h
set_option maxRecDepth 100000 in
set_option maxHeartbeats 4000000 in
theorem sX7_signAt {X : JX} {a : Nat} {ad : Nat → Nat} {cI cZ cO cJ : ClassId} {n : Nat} {post : Option Value → va_W → Prop} (hX : jOK X cX7_signAt 4 wsX7_signAt RX7 rmX7_signAt) (hT : jT X = jTy cI cZ cO cJ) (hGX : jG X jG0) (hret : jRI X cX7_signAt rmX7_signAt post) {o : (Int32 × MW)} (hro : ∀ (v9 : Int32) (w9 : MW), o = (v9, w9) → post (some (.int v9)) (mW a ad cI cZ w9)) {w : MW} {v1 v2 v3 : Int32} (h : fX7_signAt n w v1 v2 v3 = some o) : JW X 0 0 (mW a ad cI cZ w) 0 [(0, .ref a), (1, .int v1), (2, .int v2), (3, .int v3)] [] := by
  unfold fX7_signAt at h
  refine jw_aload_n hX dX7_signAt_0 rfl 0 rfl ?_
  refine jw_aload_n hX dX7_signAt_1 rfl 0 rfl ?_
  refine jw_iload_n hX dX7_signAt_2 rfl 1 rfl ?_
  obtain ⟨r3, hc3, h⟩ := bP_some h
  refine jw_cVi (As := [.int v1]) hX jG0_ok hGX 1 (kX7_isEntry hT hc3) gX7_signAt_X7_isEntry rfl hdX7_isEntry ⟨by decide, by decide⟩ 0 7 rfl rfl rfl (Nat.le_of_ble_eq_true rfl) dX7_signAt_3 rfl rfl ⟨by decide, by decide⟩ ?_
  refine jw_if_eq (tgt := 13) hX dX7_signAt_6 (by decide) (fun hc => ?_) (fun hc => ?_)
  · rw [if_pos hc] at h
    exact sX7_signAt_J13 hX hT hGX hret hro h
  · rw [if_neg hc] at h
    refine jw_iload_n hX dX7_signAt_9 rfl 3 rfl ?_
    refine jw_if_ge (tgt := 17) hX dX7_signAt_10 (by decide) (fun hc => ?_) (fun hc => ?_)
    · rw [if_pos hc] at h
      refine jw_iload_n hX dX7_signAt_17 rfl 2 rfl ?_
      refine jw_iconst (v := (0 : Int32)) hX dX7_signAt_18 (by decide) ?_
      refine jw_iconst (v := (2 : Int32)) hX dX7_signAt_19 (by decide) ?_
      obtain ⟨r20, hc20, h⟩ := bP_some h
      refine jw_cSi (As := [.int v2, .int (0 : Int32), .int (2 : Int32)]) hX jG0_ok hGX 3 (kX7_isIn hT hc20) gX7_signAt_X7_isIn rfl hdX7_isIn ⟨by decide, by decide⟩ rfl (Nat.le_of_ble_eq_true rfl) dX7_signAt_20 rfl rfl ⟨by decide, by decide⟩ ?_
      refine jw_if_eq (tgt := 30) hX dX7_signAt_23 (by decide) (fun hc => ?_) (fun hc => ?_)
      · rw [if_pos hc] at h
        refine jw_iconst (v := (2 : Int32)) hX dX7_signAt_30 (by decide) ?_
        exact sX7_signAt_J31 hX hT hGX hret hro h
      · rw [if_neg hc] at h
        refine jw_iconst (v := (0 : Int32)) hX dX7_signAt_26 (by decide) ?_
        refine jw_goto (tgt := 31) hX dX7_signAt_27 (by decide) ?_
        exact sX7_signAt_J31 hX hT hGX hret hro h
    · rw [if_neg hc] at h
      exact sX7_signAt_J13 hX hT hGX hret hro h
set_option maxRecDepth 100000 in
set_option maxHeartbeats 4000000 in
theorem kX7_signAt {l : Launch} {D : va_G} {tys : List (ClassId × FieldType)} {a : Nat} {ad : Nat → Nat} {cI cZ cO cJ : ClassId} {n : Nat} {w : MW} {v1 v2 v3 : Int32} {r : Int32} {w1 : MW} (hT : tys = jTy cI cZ cO cJ) (h : fX7_signAt n w v1 v2 v3 = some (r, w1)) : CC l jG0 D tys yX7_signAt wsX7_signAt rmX7_signAt [.ref a, .int v1, .int v2, .int v3] (mW a ad cI cZ w) (fun ov w2 => ov = some (.int r) ∧ w2 = (mW a ad cI cZ w1)) := by
  refine CC_of (cc := cX7_signAt) (maxL := 4) (ret := (some .int)) (by decide) rfl (Nat.le_of_ble_eq_true rfl) ?_
  intro X hD hL hT0 hGX hX rI rZ rV rA
  exact sX7_signAt (post := fun ov w2 => ov = some (.int r) ∧ w2 = (mW a ad cI cZ w1)) hX (hT0.trans hT) hGX (fun cells slots w9 pc lv v => rI cells slots w9 pc lv v rfl) (o := (r, w1)) (fun v9 w9 e9 => by cases e9; exact ⟨rfl, rfl⟩) h
/-! X7_length -/
abbrev rmX7_length : Room := { frames := 3, cells := 0, slots := 0, locals := 65 }
theorem hdX7_length : yX7_length.cls = RX7 ∧ yX7_length.cls ≠ "java/lang/invoke/MethodHandle" ∧ yX7_length.cls ≠ "java/lang/invoke/VarHandle" ∧ (parseMethodDescriptor yX7_length.desc).map (fun d => d.parameters.length) = some 2 := by decide +kernel
def fX7_length_J27 (n : Nat) (w : MW) (v1 v2 t0 : Int32) : Option (Int32 × MW) := b2 (fX7_isOf w t0) (fun r27 w27 => (if r27 = 0 then some ((0 : Int32), w27) else bP (fX7_longOf n w27 v1 v2) (fun r36 => some (r36, w27))))
def fX7_length (n : Nat) (w : MW) (v1 v2 : Int32) : Option (Int32 × MW) := bP (fX7_isEntry w v1) (fun r3 => (if r3 = 0 then fX7_length_J27 n w v1 v2 (1 : Int32) else bP (fX7_isIn v2 (0 : Int32) (2 : Int32)) (fun r16 => (if r16 = 0 then fX7_length_J27 n w v1 v2 (2 : Int32) else fX7_length_J27 n w v1 v2 (0 : Int32)))))
set_option maxRecDepth 100000 in
set_option maxHeartbeats 4000000 in
theorem sX7_length_J27 {X : JX} {a : Nat} {ad : Nat → Nat} {cI cZ cO cJ : ClassId} {n : Nat} {post : Option Value → va_W → Prop} (hX : jOK X cX7_length 3 wsX7_length RX7 rmX7_length) (hT : jT X = jTy cI cZ cO cJ) (hGX : jG X jG0) (hret : jRI X cX7_length rmX7_length post) {o : (Int32 × MW)}   (hro : ∀ (v9 : Int32) (w9 : MW), o = (v9, w9) → post (some (.int v9)) (mW a ad cI cZ w9)) {w : MW} {v1 v2 t0 : Int32} (h : fX7_length_J27 n w v1 v2 t0 = some o) : JW X 0 0 (mW a ad cI cZ w) 27 [(0, .ref a), (1, .int v1), (2, .int v2)] [.int t0, .ref a] := by
  unfold fX7_length_J27 at h
  obtain ⟨r27, w27, hc27, h⟩ := b2_some h
  refine jw_cVi (As := [.int t0]) hX jG0_ok hGX 1 (kX7_isOf hT hc27) gX7_length_X7_isOf rfl hdX7_isOf ⟨by decide, by decide⟩ 0 7 rfl rfl rfl (Nat.le_of_ble_eq_true rfl) dX7_length_27 rfl rfl ⟨by decide, by decide⟩ ?_
  refine jw_if_eq (tgt := 42) hX dX7_length_30 (by decide) (fun hc => ?_) (fun hc => ?_)
  · rw [if_pos hc] at h
    refine jw_iconst (v := (0 : Int32)) hX dX7_length_42 (by decide) ?_
    exact hret _ _ _ _ _ _ (Nat.zero_le _) (Nat.zero_le _) dX7_length_43 (hro _ _ (Option.some.inj h).symm)
  · rw [if_neg hc] at h
    refine jw_aload_n hX dX7_length_33 rfl 0 rfl ?_
    refine jw_iload_n hX dX7_length_34 rfl 1 rfl ?_
    refine jw_iload_n hX dX7_length_35 rfl 2 rfl ?_
    obtain ⟨r36, hc36, h⟩ := bP_some h
    refine jw_cVi (As := [.int v1, .int v2]) hX jG0_ok hGX 2 (kX7_longOf hT hc36) gX7_length_X7_longOf rfl hdX7_longOf ⟨by decide, by decide⟩ 0 7 rfl rfl rfl (Nat.le_of_ble_eq_true rfl) dX7_length_36 rfl rfl ⟨by decide, by decide⟩ ?_
    refine jw_goto (tgt := 43) hX dX7_length_39 (by decide) ?_
    exact hret _ _ _ _ _ _ (Nat.zero_le _) (Nat.zero_le _) dX7_length_43 (hro _ _ (Option.some.inj h).symm)
set_option maxRecDepth 100000 in
set_option maxHeartbeats 4000000 in
theorem sX7_length {X : JX} {a : Nat} {ad : Nat → Nat} {cI cZ cO cJ : ClassId} {n : Nat} {post : Option Value → va_W → Prop} (hX : jOK X cX7_length 3 wsX7_length RX7 rmX7_length) (hT : jT X = jTy cI cZ cO cJ) (hGX : jG X jG0) (hret : jRI X cX7_length rmX7_length post) {o : (Int32 × MW)} (hro : ∀ (v9 : Int32) (w9 : MW), o = (v9, w9) → post (some (.int v9)) (mW a ad cI cZ w9)) {w : MW} {v1 v2 : Int32} (h : fX7_length n w v1 v2 = some o) : JW X 0 0 (mW a ad cI cZ w) 0 [(0, .ref a), (1, .int v1), (2, .int v2)] [] := by
  unfold fX7_length at h
  refine jw_aload_n hX dX7_length_0 rfl 0 rfl ?_
  refine jw_aload_n hX dX7_length_1 rfl 0 rfl ?_
  refine jw_iload_n hX dX7_length_2 rfl 1 rfl ?_
  obtain ⟨r3, hc3, h⟩ := bP_some h
  refine jw_cVi (As := [.int v1]) hX jG0_ok hGX 1 (kX7_isEntry hT hc3) gX7_length_X7_isEntry rfl hdX7_isEntry ⟨by decide, by decide⟩ 0 7 rfl rfl rfl (Nat.le_of_ble_eq_true rfl) dX7_length_3 rfl rfl ⟨by decide, by decide⟩ ?_
  refine jw_if_ne (tgt := 13) hX dX7_length_6 (by decide) (fun hc => ?_) (fun hc => ?_)
  · rw [if_neg hc] at h
    refine jw_iload_n hX dX7_length_13 rfl 2 rfl ?_
    refine jw_iconst (v := (0 : Int32)) hX dX7_length_14 (by decide) ?_
    refine jw_iconst (v := (2 : Int32)) hX dX7_length_15 (by decide) ?_
    obtain ⟨r16, hc16, h⟩ := bP_some h
    refine jw_cSi (As := [.int v2, .int (0 : Int32), .int (2 : Int32)]) hX jG0_ok hGX 3 (kX7_isIn hT hc16) gX7_length_X7_isIn rfl hdX7_isIn ⟨by decide, by decide⟩ rfl (Nat.le_of_ble_eq_true rfl) dX7_length_16 rfl rfl ⟨by decide, by decide⟩ ?_
    refine jw_if_eq (tgt := 26) hX dX7_length_19 (by decide) (fun hc => ?_) (fun hc => ?_)
    · rw [if_pos hc] at h
      refine jw_iconst (v := (2 : Int32)) hX dX7_length_26 (by decide) ?_
      exact sX7_length_J27 hX hT hGX hret hro h
    · rw [if_neg hc] at h
      refine jw_iconst (v := (0 : Int32)) hX dX7_length_22 (by decide) ?_
      refine jw_goto (tgt := 27) hX dX7_length_23 (by decide) ?_
      exact sX7_length_J27 hX hT hGX hret hro h
  · rw [if_pos hc] at h
    refine jw_iconst (v := (1 : Int32)) hX dX7_length_9 (by decide) ?_
    refine jw_goto (tgt := 27) hX dX7_length_10 (by decide) ?_
    exact sX7_length_J27 hX hT hGX hret hro h
set_option maxRecDepth 100000 in
set_option maxHeartbeats 4000000 in
theorem kX7_length {l : Launch} {D : va_G} {tys : List (ClassId × FieldType)} {a : Nat} {ad : Nat → Nat} {cI cZ cO cJ : ClassId} {n : Nat} {w : MW} {v1 v2 : Int32} {r : Int32} {w1 : MW} (hT : tys = jTy cI cZ cO cJ) (h : fX7_length n w v1 v2 = some (r, w1)) : CC l jG0 D tys yX7_length wsX7_length rmX7_length [.ref a, .int v1, .int v2] (mW a ad cI cZ w) (fun ov w2 => ov = some (.int r) ∧ w2 = (mW a ad cI cZ w1)) := by
  refine CC_of (cc := cX7_length) (maxL := 3) (ret := (some .int)) (by decide) rfl (Nat.le_of_ble_eq_true rfl) ?_
  intro X hD hL hT0 hGX hX rI rZ rV rA
  exact sX7_length (post := fun ov w2 => ov = some (.int r) ∧ w2 = (mW a ad cI cZ w1)) hX (hT0.trans hT) hGX (fun cells slots w9 pc lv v => rI cells slots w9 pc lv v rfl) (o := (r, w1)) (fun v9 w9 e9 => by cases e9; exact ⟨rfl, rfl⟩) h
/-! X7_proof -/
abbrev rmX7_proof : Room := { frames := 2, cells := 0, slots := 0, locals := 43 }
theorem hdX7_proof : yX7_proof.cls = RX7 ∧ yX7_proof.cls ≠ "java/lang/invoke/MethodHandle" ∧ yX7_proof.cls ≠ "java/lang/invoke/VarHandle" ∧ (parseMethodDescriptor yX7_proof.desc).map (fun d => d.parameters.length) = some 1 := by decide +kernel
theorem inX7_proof : ∀ w ∈ wsX70, w ∈ wsX7_proof := fun _ h => List.mem_cons_of_mem _ (List.mem_append_right _ h)
theorem lkX7_proof_44 : Cond.fieldLink RX7 44 "PostlintModel" (TX7 14).2.1 (TX7 14).2.2.1 ∈ wsX7_proof := by decide +kernel
def fX7_proof_J14 (w : MW) (v1 t0 : Int32) : Option (Int32 × MW) := b2 (fX7_isOf w t0) (fun r14 w14 => (if r14 = 0 then some ((0 : Int32), w14) else chk (inB v1 (mLen 14)) (some ((w14.2 14 (v1).toNatClampNeg), w14))))
def fX7_proof (w : MW) (v1 : Int32) : Option (Int32 × MW) := bP (fX7_isEntry w v1) (fun r3 => (if r3 = 0 then fX7_proof_J14 w v1 (1 : Int32) else fX7_proof_J14 w v1 (0 : Int32)))
set_option maxRecDepth 100000 in
set_option maxHeartbeats 4000000 in
theorem sX7_proof_J14 {X : JX} {a : Nat} {ad : Nat → Nat} {cI cZ cO cJ : ClassId} {post : Option Value → va_W → Prop} (hX : jOK X cX7_proof 2 wsX7_proof RX7 rmX7_proof) (hT : jT X = jTy cI cZ cO cJ) (hGX : jG X jG0) (hret : jRI X cX7_proof rmX7_proof post) {o : (Int32 × MW)}   (hro : ∀ (v9 : Int32) (w9 : MW), o = (v9, w9) → post (some (.int v9)) (mW a ad cI cZ w9)) {w : MW} {v1 t0 : Int32} (h : fX7_proof_J14 w v1 t0 = some o) : JW X 0 0 (mW a ad cI cZ w) 14 [(0, .ref a), (1, .int v1)] [.int t0, .ref a] := by
  unfold fX7_proof_J14 at h
  obtain ⟨r14, w14, hc14, h⟩ := b2_some h
  refine jw_cVi (As := [.int t0]) hX jG0_ok hGX 1 (kX7_isOf hT hc14) gX7_proof_X7_isOf rfl hdX7_isOf ⟨by decide, by decide⟩ 0 7 rfl rfl rfl (Nat.le_of_ble_eq_true rfl) dX7_proof_14 rfl rfl ⟨by decide, by decide⟩ ?_
  refine jw_if_eq (tgt := 29) hX dX7_proof_17 (by decide) (fun hc => ?_) (fun hc => ?_)
  · rw [if_pos hc] at h
    refine jw_iconst (v := (0 : Int32)) hX dX7_proof_29 (by decide) ?_
    exact hret _ _ _ _ _ _ (Nat.zero_le _) (Nat.zero_le _) dX7_proof_30 (hro _ _ (Option.some.inj h).symm)
  · rw [if_neg hc] at h
    refine jw_aload_n hX dX7_proof_20 rfl 0 rfl ?_
    refine jw_mgetA hX hT inX7_proof 14 (by decide) lkX7_proof_44 rfl dX7_proof_21 ?_
    refine jw_iload_n hX dX7_proof_24 rfl 1 rfl ?_
    obtain ⟨hb25, h⟩ := chk_some h
    refine jw_miald hX hT 11 14 rfl rfl hb25 dX7_proof_25 ?_
    refine jw_goto (tgt := 30) hX dX7_proof_26 (by decide) ?_
    exact hret _ _ _ _ _ _ (Nat.zero_le _) (Nat.zero_le _) dX7_proof_30 (hro _ _ (Option.some.inj h).symm)
set_option maxRecDepth 100000 in
set_option maxHeartbeats 4000000 in
theorem sX7_proof {X : JX} {a : Nat} {ad : Nat → Nat} {cI cZ cO cJ : ClassId} {post : Option Value → va_W → Prop} (hX : jOK X cX7_proof 2 wsX7_proof RX7 rmX7_proof) (hT : jT X = jTy cI cZ cO cJ) (hGX : jG X jG0) (hret : jRI X cX7_proof rmX7_proof post) {o : (Int32 × MW)} (hro : ∀ (v9 : Int32) (w9 : MW), o = (v9, w9) → post (some (.int v9)) (mW a ad cI cZ w9)) {w : MW} {v1 : Int32} (h : fX7_proof w v1 = some o) : JW X 0 0 (mW a ad cI cZ w) 0 [(0, .ref a), (1, .int v1)] [] := by
  unfold fX7_proof at h
  refine jw_aload_n hX dX7_proof_0 rfl 0 rfl ?_
  refine jw_aload_n hX dX7_proof_1 rfl 0 rfl ?_
  refine jw_iload_n hX dX7_proof_2 rfl 1 rfl ?_
  obtain ⟨r3, hc3, h⟩ := bP_some h
  refine jw_cVi (As := [.int v1]) hX jG0_ok hGX 1 (kX7_isEntry hT hc3) gX7_proof_X7_isEntry rfl hdX7_isEntry ⟨by decide, by decide⟩ 0 7 rfl rfl rfl (Nat.le_of_ble_eq_true rfl) dX7_proof_3 rfl rfl ⟨by decide, by decide⟩ ?_
  refine jw_if_eq (tgt := 13) hX dX7_proof_6 (by decide) (fun hc => ?_) (fun hc => ?_)
  · rw [if_pos hc] at h
    refine jw_iconst (v := (1 : Int32)) hX dX7_proof_13 (by decide) ?_
    exact sX7_proof_J14 hX hT hGX hret hro h
  · rw [if_neg hc] at h
    refine jw_iconst (v := (0 : Int32)) hX dX7_proof_9 (by decide) ?_
    refine jw_goto (tgt := 14) hX dX7_proof_10 (by decide) ?_
    exact sX7_proof_J14 hX hT hGX hret hro h
set_option maxRecDepth 100000 in
set_option maxHeartbeats 4000000 in
theorem kX7_proof {l : Launch} {D : va_G} {tys : List (ClassId × FieldType)} {a : Nat} {ad : Nat → Nat} {cI cZ cO cJ : ClassId} {w : MW} {v1 : Int32} {r : Int32} {w1 : MW} (hT : tys = jTy cI cZ cO cJ) (h : fX7_proof w v1 = some (r, w1)) : CC l jG0 D tys yX7_proof wsX7_proof rmX7_proof [.ref a, .int v1] (mW a ad cI cZ w) (fun ov w2 => ov = some (.int r) ∧ w2 = (mW a ad cI cZ w1)) := by
  refine CC_of (cc := cX7_proof) (maxL := 2) (ret := (some .int)) (by decide) rfl (Nat.le_of_ble_eq_true rfl) ?_
  intro X hD hL hT0 hGX hX rI rZ rV rA
  exact sX7_proof (post := fun ov w2 => ov = some (.int r) ∧ w2 = (mW a ad cI cZ w1)) hX (hT0.trans hT) hGX (fun cells slots w9 pc lv v => rI cells slots w9 pc lv v rfl) (o := (r, w1)) (fun v9 w9 e9 => by cases e9; exact ⟨rfl, rfl⟩) h
/-! X7_proofAnew -/
abbrev rmX7_proofAnew : Room := { frames := 3, cells := 0, slots := 0, locals := 64 }
theorem hdX7_proofAnew : yX7_proofAnew.cls = RX7 ∧ yX7_proofAnew.cls ≠ "java/lang/invoke/MethodHandle" ∧ yX7_proofAnew.cls ≠ "java/lang/invoke/VarHandle" ∧ (parseMethodDescriptor yX7_proofAnew.desc).map (fun d => d.parameters.length) = some 1 := by decide +kernel
def fX7_proofAnew (w : MW) (v1 : Int32) : Option (Int32 × MW) := b2 (fX7_proof w v1) (fun r2 w2 => some (r2, w2))
set_option maxRecDepth 100000 in
set_option maxHeartbeats 4000000 in
theorem sX7_proofAnew {X : JX} {a : Nat} {ad : Nat → Nat} {cI cZ cO cJ : ClassId} {post : Option Value → va_W → Prop} (hX : jOK X cX7_proofAnew 2 wsX7_proofAnew RX7 rmX7_proofAnew) (hT : jT X = jTy cI cZ cO cJ) (hGX : jG X jG0) (hret : jRI X cX7_proofAnew rmX7_proofAnew post) {o : (Int32 × MW)} (hro : ∀ (v9 : Int32) (w9 : MW), o = (v9, w9) → post (some (.int v9)) (mW a ad cI cZ w9)) {w : MW} {v1 : Int32} (h : fX7_proofAnew w v1 = some o) : JW X 0 0 (mW a ad cI cZ w) 0 [(0, .ref a), (1, .int v1)] [] := by
  unfold fX7_proofAnew at h
  refine jw_aload_n hX dX7_proofAnew_0 rfl 0 rfl ?_
  refine jw_iload_n hX dX7_proofAnew_1 rfl 1 rfl ?_
  obtain ⟨r2, w2, hc2, h⟩ := b2_some h
  refine jw_cVi (As := [.int v1]) hX jG0_ok hGX 1 (kX7_proof hT hc2) gX7_proofAnew_X7_proof rfl hdX7_proof ⟨by decide, by decide⟩ 0 7 rfl rfl rfl (Nat.le_of_ble_eq_true rfl) dX7_proofAnew_2 rfl rfl ⟨by decide, by decide⟩ ?_
  exact hret _ _ _ _ _ _ (Nat.zero_le _) (Nat.zero_le _) dX7_proofAnew_5 (hro _ _ (Option.some.inj h).symm)
set_option maxRecDepth 100000 in
set_option maxHeartbeats 4000000 in
theorem kX7_proofAnew {l : Launch} {D : va_G} {tys : List (ClassId × FieldType)} {a : Nat} {ad : Nat → Nat} {cI cZ cO cJ : ClassId} {w : MW} {v1 : Int32} {r : Int32} {w1 : MW} (hT : tys = jTy cI cZ cO cJ) (h : fX7_proofAnew w v1 = some (r, w1)) : CC l jG0 D tys yX7_proofAnew wsX7_proofAnew rmX7_proofAnew [.ref a, .int v1] (mW a ad cI cZ w) (fun ov w2 => ov = some (.int r) ∧ w2 = (mW a ad cI cZ w1)) := by
  refine CC_of (cc := cX7_proofAnew) (maxL := 2) (ret := (some .int)) (by decide) rfl (Nat.le_of_ble_eq_true rfl) ?_
  intro X hD hL hT0 hGX hX rI rZ rV rA
  exact sX7_proofAnew (post := fun ov w2 => ov = some (.int r) ∧ w2 = (mW a ad cI cZ w1)) hX (hT0.trans hT) hGX (fun cells slots w9 pc lv v => rI cells slots w9 pc lv v rfl) (o := (r, w1)) (fun v9 w9 e9 => by cases e9; exact ⟨rfl, rfl⟩) h
/-! X7_gets -/
abbrev rmX7_gets : Room := { frames := 2, cells := 0, slots := 0, locals := 45 }
theorem hdX7_gets : yX7_gets.cls = RX7 ∧ yX7_gets.cls ≠ "java/lang/invoke/MethodHandle" ∧ yX7_gets.cls ≠ "java/lang/invoke/VarHandle" ∧ (parseMethodDescriptor yX7_gets.desc).map (fun d => d.parameters.length) = some 2 := by decide +kernel
def fX7_gets_J28 (n : Nat) (w : MW) (v1 v2 t0 : Int32) : Option (Int32 × MW) := b2 (fX7_isOf w t0) (fun r28 w28 => (if r28 = 0 then some ((0 : Int32), w28) else bP (fX7_got n w28 v1 v2) (fun r37 => some (r37, w28))))
def fX7_gets (n : Nat) (w : MW) (v1 v2 : Int32) : Option (Int32 × MW) := bP (fX7_isEntry w v1) (fun r3 => (if r3 = 0 then fX7_gets_J28 n w v1 v2 (1 : Int32) else bP (fX7_isIn v2 (0 : Int32) (7 : Int32)) (fun r17 => (if r17 = 0 then fX7_gets_J28 n w v1 v2 (2 : Int32) else fX7_gets_J28 n w v1 v2 (0 : Int32)))))
set_option maxRecDepth 100000 in
set_option maxHeartbeats 4000000 in
theorem sX7_gets_J28 {X : JX} {a : Nat} {ad : Nat → Nat} {cI cZ cO cJ : ClassId} {n : Nat} {post : Option Value → va_W → Prop} (hX : jOK X cX7_gets 3 wsX7_gets RX7 rmX7_gets) (hT : jT X = jTy cI cZ cO cJ) (hGX : jG X jG0) (hret : jRI X cX7_gets rmX7_gets post) {o : (Int32 × MW)}   (hro : ∀ (v9 : Int32) (w9 : MW), o = (v9, w9) → post (some (.int v9)) (mW a ad cI cZ w9)) {w : MW} {v1 v2 t0 : Int32} (h : fX7_gets_J28 n w v1 v2 t0 = some o) : JW X 0 0 (mW a ad cI cZ w) 28 [(0, .ref a), (1, .int v1), (2, .int v2)] [.int t0, .ref a] := by
  unfold fX7_gets_J28 at h
  obtain ⟨r28, w28, hc28, h⟩ := b2_some h
  refine jw_cVi (As := [.int t0]) hX jG0_ok hGX 1 (kX7_isOf hT hc28) gX7_gets_X7_isOf rfl hdX7_isOf ⟨by decide, by decide⟩ 0 7 rfl rfl rfl (Nat.le_of_ble_eq_true rfl) dX7_gets_28 rfl rfl ⟨by decide, by decide⟩ ?_
  refine jw_if_eq (tgt := 43) hX dX7_gets_31 (by decide) (fun hc => ?_) (fun hc => ?_)
  · rw [if_pos hc] at h
    refine jw_iconst (v := (0 : Int32)) hX dX7_gets_43 (by decide) ?_
    exact hret _ _ _ _ _ _ (Nat.zero_le _) (Nat.zero_le _) dX7_gets_44 (hro _ _ (Option.some.inj h).symm)
  · rw [if_neg hc] at h
    refine jw_aload_n hX dX7_gets_34 rfl 0 rfl ?_
    refine jw_iload_n hX dX7_gets_35 rfl 1 rfl ?_
    refine jw_iload_n hX dX7_gets_36 rfl 2 rfl ?_
    obtain ⟨r37, hc37, h⟩ := bP_some h
    refine jw_cVi (As := [.int v1, .int v2]) hX jG0_ok hGX 2 (kX7_got hT hc37) gX7_gets_X7_got rfl hdX7_got ⟨by decide, by decide⟩ 0 7 rfl rfl rfl (Nat.le_of_ble_eq_true rfl) dX7_gets_37 rfl rfl ⟨by decide, by decide⟩ ?_
    refine jw_goto (tgt := 44) hX dX7_gets_40 (by decide) ?_
    exact hret _ _ _ _ _ _ (Nat.zero_le _) (Nat.zero_le _) dX7_gets_44 (hro _ _ (Option.some.inj h).symm)
set_option maxRecDepth 100000 in
set_option maxHeartbeats 4000000 in
theorem sX7_gets {X : JX} {a : Nat} {ad : Nat → Nat} {cI cZ cO cJ : ClassId} {n : Nat} {post : Option Value → va_W → Prop} (hX : jOK X cX7_gets 3 wsX7_gets RX7 rmX7_gets) (hT : jT X = jTy cI cZ cO cJ) (hGX : jG X jG0) (hret : jRI X cX7_gets rmX7_gets post) {o : (Int32 × MW)} (hro : ∀ (v9 : Int32) (w9 : MW), o = (v9, w9) → post (some (.int v9)) (mW a ad cI cZ w9)) {w : MW} {v1 v2 : Int32} (h : fX7_gets n w v1 v2 = some o) : JW X 0 0 (mW a ad cI cZ w) 0 [(0, .ref a), (1, .int v1), (2, .int v2)] [] := by
  unfold fX7_gets at h
  refine jw_aload_n hX dX7_gets_0 rfl 0 rfl ?_
  refine jw_aload_n hX dX7_gets_1 rfl 0 rfl ?_
  refine jw_iload_n hX dX7_gets_2 rfl 1 rfl ?_
  obtain ⟨r3, hc3, h⟩ := bP_some h
  refine jw_cVi (As := [.int v1]) hX jG0_ok hGX 1 (kX7_isEntry hT hc3) gX7_gets_X7_isEntry rfl hdX7_isEntry ⟨by decide, by decide⟩ 0 7 rfl rfl rfl (Nat.le_of_ble_eq_true rfl) dX7_gets_3 rfl rfl ⟨by decide, by decide⟩ ?_
  refine jw_if_ne (tgt := 13) hX dX7_gets_6 (by decide) (fun hc => ?_) (fun hc => ?_)
  · rw [if_neg hc] at h
    refine jw_iload_n hX dX7_gets_13 rfl 2 rfl ?_
    refine jw_iconst (v := (0 : Int32)) hX dX7_gets_14 (by decide) ?_
    refine jw_bipush (v := (7 : Int32)) hX dX7_gets_15 (by decide) ?_
    obtain ⟨r17, hc17, h⟩ := bP_some h
    refine jw_cSi (As := [.int v2, .int (0 : Int32), .int (7 : Int32)]) hX jG0_ok hGX 3 (kX7_isIn hT hc17) gX7_gets_X7_isIn rfl hdX7_isIn ⟨by decide, by decide⟩ rfl (Nat.le_of_ble_eq_true rfl) dX7_gets_17 rfl rfl ⟨by decide, by decide⟩ ?_
    refine jw_if_eq (tgt := 27) hX dX7_gets_20 (by decide) (fun hc => ?_) (fun hc => ?_)
    · rw [if_pos hc] at h
      refine jw_iconst (v := (2 : Int32)) hX dX7_gets_27 (by decide) ?_
      exact sX7_gets_J28 hX hT hGX hret hro h
    · rw [if_neg hc] at h
      refine jw_iconst (v := (0 : Int32)) hX dX7_gets_23 (by decide) ?_
      refine jw_goto (tgt := 28) hX dX7_gets_24 (by decide) ?_
      exact sX7_gets_J28 hX hT hGX hret hro h
  · rw [if_pos hc] at h
    refine jw_iconst (v := (1 : Int32)) hX dX7_gets_9 (by decide) ?_
    refine jw_goto (tgt := 28) hX dX7_gets_10 (by decide) ?_
    exact sX7_gets_J28 hX hT hGX hret hro h
set_option maxRecDepth 100000 in
set_option maxHeartbeats 4000000 in
theorem kX7_gets {l : Launch} {D : va_G} {tys : List (ClassId × FieldType)} {a : Nat} {ad : Nat → Nat} {cI cZ cO cJ : ClassId} {n : Nat} {w : MW} {v1 v2 : Int32} {r : Int32} {w1 : MW} (hT : tys = jTy cI cZ cO cJ) (h : fX7_gets n w v1 v2 = some (r, w1)) : CC l jG0 D tys yX7_gets wsX7_gets rmX7_gets [.ref a, .int v1, .int v2] (mW a ad cI cZ w) (fun ov w2 => ov = some (.int r) ∧ w2 = (mW a ad cI cZ w1)) := by
  refine CC_of (cc := cX7_gets) (maxL := 3) (ret := (some .int)) (by decide) rfl (Nat.le_of_ble_eq_true rfl) ?_
  intro X hD hL hT0 hGX hX rI rZ rV rA
  exact sX7_gets (post := fun ov w2 => ov = some (.int r) ∧ w2 = (mW a ad cI cZ w1)) hX (hT0.trans hT) hGX (fun cells slots w9 pc lv v => rI cells slots w9 pc lv v rfl) (o := (r, w1)) (fun v9 w9 e9 => by cases e9; exact ⟨rfl, rfl⟩) h
/-! X7_sum -/
abbrev rmX7_sum : Room := { frames := 3, cells := 0, slots := 0, locals := 69 }
theorem hdX7_sum : yX7_sum.cls = RX7 ∧ yX7_sum.cls ≠ "java/lang/invoke/MethodHandle" ∧ yX7_sum.cls ≠ "java/lang/invoke/VarHandle" ∧ (parseMethodDescriptor yX7_sum.desc).map (fun d => d.parameters.length) = some 2 := by decide +kernel
def fX7_sum_J33 (n : Nat) (w : MW) (v1 v2 t0 : Int32) : Option (Int32 × MW) := b2 (fX7_isOf w t0) (fun r33 w33 => (if r33 = 0 then some ((0 : Int32), w33) else bP (fX7_upTo n w33 v1 v2) (fun r42 => some (r42, w33))))
def fX7_sum_J18 (n : Nat) (w : MW) (v1 v2 : Int32) : Option (Int32 × MW) := bP (fX7_isIn v2 (0 : Int32) (7 : Int32)) (fun r22 => (if r22 = 0 then fX7_sum_J33 n w v1 v2 (2 : Int32) else fX7_sum_J33 n w v1 v2 (0 : Int32)))
def fX7_sum (n : Nat) (w : MW) (v1 v2 : Int32) : Option (Int32 × MW) := (if v1 = (-1 : Int32) then fX7_sum_J18 n w v1 v2 else bP (fX7_isEntry w v1) (fun r8 => (if r8 = 0 then fX7_sum_J33 n w v1 v2 (1 : Int32) else fX7_sum_J18 n w v1 v2)))
set_option maxRecDepth 100000 in
set_option maxHeartbeats 4000000 in
theorem sX7_sum_J33 {X : JX} {a : Nat} {ad : Nat → Nat} {cI cZ cO cJ : ClassId} {n : Nat} {post : Option Value → va_W → Prop} (hX : jOK X cX7_sum 3 wsX7_sum RX7 rmX7_sum) (hT : jT X = jTy cI cZ cO cJ) (hGX : jG X jG0) (hret : jRI X cX7_sum rmX7_sum post) {o : (Int32 × MW)}   (hro : ∀ (v9 : Int32) (w9 : MW), o = (v9, w9) → post (some (.int v9)) (mW a ad cI cZ w9)) {w : MW} {v1 v2 t0 : Int32} (h : fX7_sum_J33 n w v1 v2 t0 = some o) : JW X 0 0 (mW a ad cI cZ w) 33 [(0, .ref a), (1, .int v1), (2, .int v2)] [.int t0, .ref a] := by
  unfold fX7_sum_J33 at h
  obtain ⟨r33, w33, hc33, h⟩ := b2_some h
  refine jw_cVi (As := [.int t0]) hX jG0_ok hGX 1 (kX7_isOf hT hc33) gX7_sum_X7_isOf rfl hdX7_isOf ⟨by decide, by decide⟩ 0 7 rfl rfl rfl (Nat.le_of_ble_eq_true rfl) dX7_sum_33 rfl rfl ⟨by decide, by decide⟩ ?_
  refine jw_if_eq (tgt := 48) hX dX7_sum_36 (by decide) (fun hc => ?_) (fun hc => ?_)
  · rw [if_pos hc] at h
    refine jw_iconst (v := (0 : Int32)) hX dX7_sum_48 (by decide) ?_
    exact hret _ _ _ _ _ _ (Nat.zero_le _) (Nat.zero_le _) dX7_sum_49 (hro _ _ (Option.some.inj h).symm)
  · rw [if_neg hc] at h
    refine jw_aload_n hX dX7_sum_39 rfl 0 rfl ?_
    refine jw_iload_n hX dX7_sum_40 rfl 1 rfl ?_
    refine jw_iload_n hX dX7_sum_41 rfl 2 rfl ?_
    obtain ⟨r42, hc42, h⟩ := bP_some h
    refine jw_cVi (As := [.int v1, .int v2]) hX jG0_ok hGX 2 (kX7_upTo hT hc42) gX7_sum_X7_upTo rfl hdX7_upTo ⟨by decide, by decide⟩ 0 7 rfl rfl rfl (Nat.le_of_ble_eq_true rfl) dX7_sum_42 rfl rfl ⟨by decide, by decide⟩ ?_
    refine jw_goto (tgt := 49) hX dX7_sum_45 (by decide) ?_
    exact hret _ _ _ _ _ _ (Nat.zero_le _) (Nat.zero_le _) dX7_sum_49 (hro _ _ (Option.some.inj h).symm)
set_option maxRecDepth 100000 in
set_option maxHeartbeats 4000000 in
theorem sX7_sum_J18 {X : JX} {a : Nat} {ad : Nat → Nat} {cI cZ cO cJ : ClassId} {n : Nat} {post : Option Value → va_W → Prop} (hX : jOK X cX7_sum 3 wsX7_sum RX7 rmX7_sum) (hT : jT X = jTy cI cZ cO cJ) (hGX : jG X jG0) (hret : jRI X cX7_sum rmX7_sum post) {o : (Int32 × MW)}   (hro : ∀ (v9 : Int32) (w9 : MW), o = (v9, w9) → post (some (.int v9)) (mW a ad cI cZ w9)) {w : MW} {v1 v2 : Int32} (h : fX7_sum_J18 n w v1 v2 = some o) : JW X 0 0 (mW a ad cI cZ w) 18 [(0, .ref a), (1, .int v1), (2, .int v2)] [.ref a] := by
  unfold fX7_sum_J18 at h
  refine jw_iload_n hX dX7_sum_18 rfl 2 rfl ?_
  refine jw_iconst (v := (0 : Int32)) hX dX7_sum_19 (by decide) ?_
  refine jw_bipush (v := (7 : Int32)) hX dX7_sum_20 (by decide) ?_
  obtain ⟨r22, hc22, h⟩ := bP_some h
  refine jw_cSi (As := [.int v2, .int (0 : Int32), .int (7 : Int32)]) hX jG0_ok hGX 3 (kX7_isIn hT hc22) gX7_sum_X7_isIn rfl hdX7_isIn ⟨by decide, by decide⟩ rfl (Nat.le_of_ble_eq_true rfl) dX7_sum_22 rfl rfl ⟨by decide, by decide⟩ ?_
  refine jw_if_eq (tgt := 32) hX dX7_sum_25 (by decide) (fun hc => ?_) (fun hc => ?_)
  · rw [if_pos hc] at h
    refine jw_iconst (v := (2 : Int32)) hX dX7_sum_32 (by decide) ?_
    exact sX7_sum_J33 hX hT hGX hret hro h
  · rw [if_neg hc] at h
    refine jw_iconst (v := (0 : Int32)) hX dX7_sum_28 (by decide) ?_
    refine jw_goto (tgt := 33) hX dX7_sum_29 (by decide) ?_
    exact sX7_sum_J33 hX hT hGX hret hro h
set_option maxRecDepth 100000 in
set_option maxHeartbeats 4000000 in
theorem sX7_sum {X : JX} {a : Nat} {ad : Nat → Nat} {cI cZ cO cJ : ClassId} {n : Nat} {post : Option Value → va_W → Prop} (hX : jOK X cX7_sum 3 wsX7_sum RX7 rmX7_sum) (hT : jT X = jTy cI cZ cO cJ) (hGX : jG X jG0) (hret : jRI X cX7_sum rmX7_sum post) {o : (Int32 × MW)} (hro : ∀ (v9 : Int32) (w9 : MW), o = (v9, w9) → post (some (.int v9)) (mW a ad cI cZ w9)) {w : MW} {v1 v2 : Int32} (h : fX7_sum n w v1 v2 = some o) : JW X 0 0 (mW a ad cI cZ w) 0 [(0, .ref a), (1, .int v1), (2, .int v2)] [] := by
  unfold fX7_sum at h
  refine jw_aload_n hX dX7_sum_0 rfl 0 rfl ?_
  refine jw_iload_n hX dX7_sum_1 rfl 1 rfl ?_
  refine jw_iconst (v := (-1 : Int32)) hX dX7_sum_2 (by decide) ?_
  refine jw_icmp_eq (tgt := 18) hX dX7_sum_3 (by decide) (fun hc => ?_) (fun hc => ?_)
  · rw [if_pos hc] at h
    exact sX7_sum_J18 hX hT hGX hret hro h
  · rw [if_neg hc] at h
    refine jw_aload_n hX dX7_sum_6 rfl 0 rfl ?_
    refine jw_iload_n hX dX7_sum_7 rfl 1 rfl ?_
    obtain ⟨r8, hc8, h⟩ := bP_some h
    refine jw_cVi (As := [.int v1]) hX jG0_ok hGX 1 (kX7_isEntry hT hc8) gX7_sum_X7_isEntry rfl hdX7_isEntry ⟨by decide, by decide⟩ 0 7 rfl rfl rfl (Nat.le_of_ble_eq_true rfl) dX7_sum_8 rfl rfl ⟨by decide, by decide⟩ ?_
    refine jw_if_ne (tgt := 18) hX dX7_sum_11 (by decide) (fun hc => ?_) (fun hc => ?_)
    · rw [if_neg hc] at h
      exact sX7_sum_J18 hX hT hGX hret hro h
    · rw [if_pos hc] at h
      refine jw_iconst (v := (1 : Int32)) hX dX7_sum_14 (by decide) ?_
      refine jw_goto (tgt := 33) hX dX7_sum_15 (by decide) ?_
      exact sX7_sum_J33 hX hT hGX hret hro h
set_option maxRecDepth 100000 in
set_option maxHeartbeats 4000000 in
theorem kX7_sum {l : Launch} {D : va_G} {tys : List (ClassId × FieldType)} {a : Nat} {ad : Nat → Nat} {cI cZ cO cJ : ClassId} {n : Nat} {w : MW} {v1 v2 : Int32} {r : Int32} {w1 : MW} (hT : tys = jTy cI cZ cO cJ) (h : fX7_sum n w v1 v2 = some (r, w1)) : CC l jG0 D tys yX7_sum wsX7_sum rmX7_sum [.ref a, .int v1, .int v2] (mW a ad cI cZ w) (fun ov w2 => ov = some (.int r) ∧ w2 = (mW a ad cI cZ w1)) := by
  refine CC_of (cc := cX7_sum) (maxL := 3) (ret := (some .int)) (by decide) rfl (Nat.le_of_ble_eq_true rfl) ?_
  intro X hD hL hT0 hGX hX rI rZ rV rA
  exact sX7_sum (post := fun ov w2 => ov = some (.int r) ∧ w2 = (mW a ad cI cZ w1)) hX (hT0.trans hT) hGX (fun cells slots w9 pc lv v => rI cells slots w9 pc lv v rfl) (o := (r, w1)) (fun v9 w9 e9 => by cases e9; exact ⟨rfl, rfl⟩) h
/-! X7_doubts -/
abbrev rmX7_doubts : Room := { frames := 4, cells := 0, slots := 0, locals := 93 }
theorem hdX7_doubts : yX7_doubts.cls = RX7 ∧ yX7_doubts.cls ≠ "java/lang/invoke/MethodHandle" ∧ yX7_doubts.cls ≠ "java/lang/invoke/VarHandle" ∧ (parseMethodDescriptor yX7_doubts.desc).map (fun d => d.parameters.length) = some 1 := by decide +kernel
theorem inX7_doubts : ∀ w ∈ wsX70, w ∈ wsX7_doubts := fun _ h => List.mem_cons_of_mem _ (List.mem_append_right _ h)
theorem lkX7_doubts_215 : Cond.fieldLink RX7 215 "PostlintModel" (TX7 15).2.1 (TX7 15).2.2.1 ∈ wsX7_doubts := by decide +kernel
def fX7_doubts_L26 (n : Nat) : Nat → MW → Int32 → Int32 → Int32 → Option (Int32)
  | 0, _, _, _, _ => none
  | k + 1, w, v1, v2, v3 => (if (w.1 15) ≤ v3 then some (v2) else bP (fX7_isDoubted n w v1 v3) (fun r38 => (if r38 = 0 then bnd ((v2 ||| (0 : Int32))) (fun y52 => fX7_doubts_L26 n k w v1 y52 ((v3 + (1 : Int32)))) else bnd ((v2 ||| ((1 : Int32) <<< (v3 &&& 31)))) (fun y52 => fX7_doubts_L26 n k w v1 y52 ((v3 + (1 : Int32)))))))
def fX7_doubts_J14 (n : Nat) (w : MW) (v1 t0 : Int32) : Option (Int32 × MW) := b2 (fX7_isOf w t0) (fun r14 w14 => (if r14 = 0 then some ((0 : Int32), w14) else bL1 (fX7_doubts_L26 n n w14 v1 (0 : Int32) (0 : Int32)) (fun x2_26 => some (x2_26, w14))))
def fX7_doubts (n : Nat) (w : MW) (v1 : Int32) : Option (Int32 × MW) := bP (fX7_isEntry w v1) (fun r3 => (if r3 = 0 then fX7_doubts_J14 n w v1 (1 : Int32) else fX7_doubts_J14 n w v1 (0 : Int32)))
set_option maxRecDepth 100000 in
set_option maxHeartbeats 4000000 in
theorem sX7_doubts_L26 {X : JX} {a : Nat} {ad : Nat → Nat} {cI cZ cO cJ : ClassId} {n : Nat} {post : Option Value → va_W → Prop} (hX : jOK X cX7_doubts 4 wsX7_doubts RX7 rmX7_doubts) (hT : jT X = jTy cI cZ cO cJ) (hGX : jG X jG0) (hret : jRI X cX7_doubts rmX7_doubts post) {w : MW} {o : (Int32)} (hex : ∀ (x2 : Int32), o = x2 → JW X 0 0 (mW a ad cI cZ w) 59 [(2, .int x2)] [])  : ∀ (k : Nat) (v1 v2 v3 : Int32), fX7_doubts_L26 n k w v1 v2 v3 = some o → JW X 0 0 (mW a ad cI cZ w) 26 [(0, .ref a), (1, .int v1), (2, .int v2), (3, .int v3)] [] := by
  intro k
  induction k with
  | zero => intro v1 v2 v3 h; cases h
  | succ k hrec0 =>
    intro v1 v2 v3 h
    have hrec := fun (_ : MW) => hrec0
    unfold fX7_doubts_L26 at h
    refine jw_iload_n hX dX7_doubts_26 rfl 3 rfl ?_
    refine jw_aload_n hX dX7_doubts_27 rfl 0 rfl ?_
    refine jw_mgetI hX hT inX7_doubts 15 (by decide) lkX7_doubts_215 rfl dX7_doubts_28 ?_
    refine jw_icmp_ge (tgt := 59) hX dX7_doubts_31 (by decide) (fun hc => ?_) (fun hc => ?_)
    · rw [if_pos hc] at h
      refine jw_sub [2] [(2, .int v2)] rfl ?_
      exact hex _ (Option.some.inj h).symm
    · rw [if_neg hc] at h
      refine jw_iload_n hX dX7_doubts_34 rfl 2 rfl ?_
      refine jw_aload_n hX dX7_doubts_35 rfl 0 rfl ?_
      refine jw_iload_n hX dX7_doubts_36 rfl 1 rfl ?_
      refine jw_iload_n hX dX7_doubts_37 rfl 3 rfl ?_
      obtain ⟨r38, hc38, h⟩ := bP_some h
      refine jw_cVi (As := [.int v1, .int v3]) hX jG0_ok hGX 2 (kX7_isDoubted hT hc38) gX7_doubts_X7_isDoubted rfl hdX7_isDoubted ⟨by decide, by decide⟩ 0 7 rfl rfl rfl (Nat.le_of_ble_eq_true rfl) dX7_doubts_38 rfl rfl ⟨by decide, by decide⟩ ?_
      refine jw_if_eq (tgt := 50) hX dX7_doubts_41 (by decide) (fun hc => ?_) (fun hc => ?_)
      · rw [if_pos hc] at h
        refine jw_iconst (v := (0 : Int32)) hX dX7_doubts_50 (by decide) ?_
        refine jw_ior hX dX7_doubts_51 ?_
        refine jw_topi (fun y52 e52 => ?_)
        replace h := bnd_some h y52 e52
        clear e52
        refine jw_istore_n hX [(2, .int y52), (0, .ref a), (1, .int v1), (3, .int v3)] dX7_doubts_52 rfl (by decide) rfl ?_
        refine jw_iinc (v := (v3 + (1 : Int32))) hX [(3, .int (v3 + (1 : Int32))), (2, .int y52), (0, .ref a), (1, .int v1)] dX7_doubts_53 3 rfl (by first | rfl | (congr 1; decide)) (by decide) rfl ?_
        refine jw_goto (tgt := 26) hX dX7_doubts_56 (by decide) ?_
        refine jw_sub [2, 3, 1, 0] [(0, .ref a), (1, .int v1), (2, .int y52), (3, .int (v3 + (1 : Int32)))] rfl ?_
        exact hrec w _ _ _ h
      · rw [if_neg hc] at h
        refine jw_iconst (v := (1 : Int32)) hX dX7_doubts_44 (by decide) ?_
        refine jw_iload_n hX dX7_doubts_45 rfl 3 rfl ?_
        refine jw_ishl hX dX7_doubts_46 ?_
        refine jw_goto (tgt := 51) hX dX7_doubts_47 (by decide) ?_
        refine jw_ior hX dX7_doubts_51 ?_
        refine jw_topi (fun y52 e52 => ?_)
        replace h := bnd_some h y52 e52
        clear e52
        refine jw_istore_n hX [(2, .int y52), (0, .ref a), (1, .int v1), (3, .int v3)] dX7_doubts_52 rfl (by decide) rfl ?_
        refine jw_iinc (v := (v3 + (1 : Int32))) hX [(3, .int (v3 + (1 : Int32))), (2, .int y52), (0, .ref a), (1, .int v1)] dX7_doubts_53 3 rfl (by first | rfl | (congr 1; decide)) (by decide) rfl ?_
        refine jw_goto (tgt := 26) hX dX7_doubts_56 (by decide) ?_
        refine jw_sub [2, 3, 1, 0] [(0, .ref a), (1, .int v1), (2, .int y52), (3, .int (v3 + (1 : Int32)))] rfl ?_
        exact hrec w _ _ _ h
set_option maxRecDepth 100000 in
set_option maxHeartbeats 4000000 in
theorem sX7_doubts_J14 {X : JX} {a : Nat} {ad : Nat → Nat} {cI cZ cO cJ : ClassId} {n : Nat} {post : Option Value → va_W → Prop} (hX : jOK X cX7_doubts 4 wsX7_doubts RX7 rmX7_doubts) (hT : jT X = jTy cI cZ cO cJ) (hGX : jG X jG0) (hret : jRI X cX7_doubts rmX7_doubts post) {o : (Int32 × MW)}   (hro : ∀ (v9 : Int32) (w9 : MW), o = (v9, w9) → post (some (.int v9)) (mW a ad cI cZ w9)) {w : MW} {v1 t0 : Int32} (h : fX7_doubts_J14 n w v1 t0 = some o) : JW X 0 0 (mW a ad cI cZ w) 14 [(0, .ref a), (1, .int v1)] [.int t0, .ref a] := by
  unfold fX7_doubts_J14 at h
  obtain ⟨r14, w14, hc14, h⟩ := b2_some h
  refine jw_cVi (As := [.int t0]) hX jG0_ok hGX 1 (kX7_isOf hT hc14) gX7_doubts_X7_isOf rfl hdX7_isOf ⟨by decide, by decide⟩ 0 7 rfl rfl rfl (Nat.le_of_ble_eq_true rfl) dX7_doubts_14 rfl rfl ⟨by decide, by decide⟩ ?_
  refine jw_if_ne (tgt := 22) hX dX7_doubts_17 (by decide) (fun hc => ?_) (fun hc => ?_)
  · rw [if_neg hc] at h
    refine jw_iconst (v := (0 : Int32)) hX dX7_doubts_22 (by decide) ?_
    refine jw_istore_n hX [(2, .int (0 : Int32)), (0, .ref a), (1, .int v1)] dX7_doubts_23 rfl (by decide) rfl ?_
    refine jw_iconst (v := (0 : Int32)) hX dX7_doubts_24 (by decide) ?_
    refine jw_istore_n hX [(3, .int (0 : Int32)), (2, .int (0 : Int32)), (0, .ref a), (1, .int v1)] dX7_doubts_25 rfl (by decide) rfl ?_
    refine jw_sub [2, 3, 1, 0] [(0, .ref a), (1, .int v1), (2, .int (0 : Int32)), (3, .int (0 : Int32))] rfl ?_
    obtain ⟨x2_26, hl26, h⟩ := bL1_some h
    refine sX7_doubts_L26 hX hT hGX hret (o := x2_26) (fun q0 e9 => ?_) n _ _ _ hl26
    cases e9
    refine jw_iload_n hX dX7_doubts_59 rfl 0 rfl ?_
    exact hret _ _ _ _ _ _ (Nat.zero_le _) (Nat.zero_le _) dX7_doubts_60 (hro _ _ (Option.some.inj h).symm)
  · rw [if_pos hc] at h
    refine jw_iconst (v := (0 : Int32)) hX dX7_doubts_20 (by decide) ?_
    exact hret _ _ _ _ _ _ (Nat.zero_le _) (Nat.zero_le _) dX7_doubts_21 (hro _ _ (Option.some.inj h).symm)
set_option maxRecDepth 100000 in
set_option maxHeartbeats 4000000 in
theorem sX7_doubts {X : JX} {a : Nat} {ad : Nat → Nat} {cI cZ cO cJ : ClassId} {n : Nat} {post : Option Value → va_W → Prop} (hX : jOK X cX7_doubts 4 wsX7_doubts RX7 rmX7_doubts) (hT : jT X = jTy cI cZ cO cJ) (hGX : jG X jG0) (hret : jRI X cX7_doubts rmX7_doubts post) {o : (Int32 × MW)} (hro : ∀ (v9 : Int32) (w9 : MW), o = (v9, w9) → post (some (.int v9)) (mW a ad cI cZ w9)) {w : MW} {v1 : Int32} (h : fX7_doubts n w v1 = some o) : JW X 0 0 (mW a ad cI cZ w) 0 [(0, .ref a), (1, .int v1)] [] := by
  unfold fX7_doubts at h
  refine jw_aload_n hX dX7_doubts_0 rfl 0 rfl ?_
  refine jw_aload_n hX dX7_doubts_1 rfl 0 rfl ?_
  refine jw_iload_n hX dX7_doubts_2 rfl 1 rfl ?_
  obtain ⟨r3, hc3, h⟩ := bP_some h
  refine jw_cVi (As := [.int v1]) hX jG0_ok hGX 1 (kX7_isEntry hT hc3) gX7_doubts_X7_isEntry rfl hdX7_isEntry ⟨by decide, by decide⟩ 0 7 rfl rfl rfl (Nat.le_of_ble_eq_true rfl) dX7_doubts_3 rfl rfl ⟨by decide, by decide⟩ ?_
  refine jw_if_eq (tgt := 13) hX dX7_doubts_6 (by decide) (fun hc => ?_) (fun hc => ?_)
  · rw [if_pos hc] at h
    refine jw_iconst (v := (1 : Int32)) hX dX7_doubts_13 (by decide) ?_
    exact sX7_doubts_J14 hX hT hGX hret hro h
  · rw [if_neg hc] at h
    refine jw_iconst (v := (0 : Int32)) hX dX7_doubts_9 (by decide) ?_
    refine jw_goto (tgt := 14) hX dX7_doubts_10 (by decide) ?_
    exact sX7_doubts_J14 hX hT hGX hret hro h
set_option maxRecDepth 100000 in
set_option maxHeartbeats 4000000 in
theorem kX7_doubts {l : Launch} {D : va_G} {tys : List (ClassId × FieldType)} {a : Nat} {ad : Nat → Nat} {cI cZ cO cJ : ClassId} {n : Nat} {w : MW} {v1 : Int32} {r : Int32} {w1 : MW} (hT : tys = jTy cI cZ cO cJ) (h : fX7_doubts n w v1 = some (r, w1)) : CC l jG0 D tys yX7_doubts wsX7_doubts rmX7_doubts [.ref a, .int v1] (mW a ad cI cZ w) (fun ov w2 => ov = some (.int r) ∧ w2 = (mW a ad cI cZ w1)) := by
  refine CC_of (cc := cX7_doubts) (maxL := 4) (ret := (some .int)) (by decide) rfl (Nat.le_of_ble_eq_true rfl) ?_
  intro X hD hL hT0 hGX hX rI rZ rV rA
  exact sX7_doubts (post := fun ov w2 => ov = some (.int r) ∧ w2 = (mW a ad cI cZ w1)) hX (hT0.trans hT) hGX (fun cells slots w9 pc lv v => rI cells slots w9 pc lv v rfl) (o := (r, w1)) (fun v9 w9 e9 => by cases e9; exact ⟨rfl, rfl⟩) h
/-! X7_doubted -/
abbrev rmX7_doubted : Room := { frames := 5, cells := 0, slots := 0, locals := 116 }
theorem hdX7_doubted : yX7_doubted.cls = RX7 ∧ yX7_doubted.cls ≠ "java/lang/invoke/MethodHandle" ∧ yX7_doubted.cls ≠ "java/lang/invoke/VarHandle" ∧ (parseMethodDescriptor yX7_doubted.desc).map (fun d => d.parameters.length) = some 1 := by decide +kernel
def fX7_doubted_J14 (n : Nat) (w : MW) (v1 t0 : Int32) : Option (Int32 × MW) := b2 (fX7_isOf w t0) (fun r14 w14 => (if r14 = 0 then some ((0 : Int32), w14) else bP (fX7_doubtedBy n w14 v1) (fun r22 => some (r22, w14))))
def fX7_doubted (n : Nat) (w : MW) (v1 : Int32) : Option (Int32 × MW) := bP (fX7_isRule w v1) (fun r3 => (if r3 = 0 then fX7_doubted_J14 n w v1 (1 : Int32) else fX7_doubted_J14 n w v1 (0 : Int32)))
set_option maxRecDepth 100000 in
set_option maxHeartbeats 4000000 in
theorem sX7_doubted_J14 {X : JX} {a : Nat} {ad : Nat → Nat} {cI cZ cO cJ : ClassId} {n : Nat} {post : Option Value → va_W → Prop} (hX : jOK X cX7_doubted 2 wsX7_doubted RX7 rmX7_doubted) (hT : jT X = jTy cI cZ cO cJ) (hGX : jG X jG0) (hret : jRI X cX7_doubted rmX7_doubted post) {o : (Int32 × MW)}   (hro : ∀ (v9 : Int32) (w9 : MW), o = (v9, w9) → post (some (.int v9)) (mW a ad cI cZ w9)) {w : MW} {v1 t0 : Int32} (h : fX7_doubted_J14 n w v1 t0 = some o) : JW X 0 0 (mW a ad cI cZ w) 14 [(0, .ref a), (1, .int v1)] [.int t0, .ref a] := by
  unfold fX7_doubted_J14 at h
  obtain ⟨r14, w14, hc14, h⟩ := b2_some h
  refine jw_cVi (As := [.int t0]) hX jG0_ok hGX 1 (kX7_isOf hT hc14) gX7_doubted_X7_isOf rfl hdX7_isOf ⟨by decide, by decide⟩ 0 7 rfl rfl rfl (Nat.le_of_ble_eq_true rfl) dX7_doubted_14 rfl rfl ⟨by decide, by decide⟩ ?_
  refine jw_if_eq (tgt := 28) hX dX7_doubted_17 (by decide) (fun hc => ?_) (fun hc => ?_)
  · rw [if_pos hc] at h
    refine jw_iconst (v := (0 : Int32)) hX dX7_doubted_28 (by decide) ?_
    exact hret _ _ _ _ _ _ (Nat.zero_le _) (Nat.zero_le _) dX7_doubted_29 (hro _ _ (Option.some.inj h).symm)
  · rw [if_neg hc] at h
    refine jw_aload_n hX dX7_doubted_20 rfl 0 rfl ?_
    refine jw_iload_n hX dX7_doubted_21 rfl 1 rfl ?_
    obtain ⟨r22, hc22, h⟩ := bP_some h
    refine jw_cVi (As := [.int v1]) hX jG0_ok hGX 1 (kX7_doubtedBy hT hc22) gX7_doubted_X7_doubtedBy rfl hdX7_doubtedBy ⟨by decide, by decide⟩ 0 7 rfl rfl rfl (Nat.le_of_ble_eq_true rfl) dX7_doubted_22 rfl rfl ⟨by decide, by decide⟩ ?_
    refine jw_goto (tgt := 29) hX dX7_doubted_25 (by decide) ?_
    exact hret _ _ _ _ _ _ (Nat.zero_le _) (Nat.zero_le _) dX7_doubted_29 (hro _ _ (Option.some.inj h).symm)
set_option maxRecDepth 100000 in
set_option maxHeartbeats 4000000 in
theorem sX7_doubted {X : JX} {a : Nat} {ad : Nat → Nat} {cI cZ cO cJ : ClassId} {n : Nat} {post : Option Value → va_W → Prop} (hX : jOK X cX7_doubted 2 wsX7_doubted RX7 rmX7_doubted) (hT : jT X = jTy cI cZ cO cJ) (hGX : jG X jG0) (hret : jRI X cX7_doubted rmX7_doubted post) {o : (Int32 × MW)} (hro : ∀ (v9 : Int32) (w9 : MW), o = (v9, w9) → post (some (.int v9)) (mW a ad cI cZ w9)) {w : MW} {v1 : Int32} (h : fX7_doubted n w v1 = some o) : JW X 0 0 (mW a ad cI cZ w) 0 [(0, .ref a), (1, .int v1)] [] := by
  unfold fX7_doubted at h
  refine jw_aload_n hX dX7_doubted_0 rfl 0 rfl ?_
  refine jw_aload_n hX dX7_doubted_1 rfl 0 rfl ?_
  refine jw_iload_n hX dX7_doubted_2 rfl 1 rfl ?_
  obtain ⟨r3, hc3, h⟩ := bP_some h
  refine jw_cVi (As := [.int v1]) hX jG0_ok hGX 1 (kX7_isRule hT hc3) gX7_doubted_X7_isRule rfl hdX7_isRule ⟨by decide, by decide⟩ 0 7 rfl rfl rfl (Nat.le_of_ble_eq_true rfl) dX7_doubted_3 rfl rfl ⟨by decide, by decide⟩ ?_
  refine jw_if_eq (tgt := 13) hX dX7_doubted_6 (by decide) (fun hc => ?_) (fun hc => ?_)
  · rw [if_pos hc] at h
    refine jw_iconst (v := (1 : Int32)) hX dX7_doubted_13 (by decide) ?_
    exact sX7_doubted_J14 hX hT hGX hret hro h
  · rw [if_neg hc] at h
    refine jw_iconst (v := (0 : Int32)) hX dX7_doubted_9 (by decide) ?_
    refine jw_goto (tgt := 14) hX dX7_doubted_10 (by decide) ?_
    exact sX7_doubted_J14 hX hT hGX hret hro h
set_option maxRecDepth 100000 in
set_option maxHeartbeats 4000000 in
theorem kX7_doubted {l : Launch} {D : va_G} {tys : List (ClassId × FieldType)} {a : Nat} {ad : Nat → Nat} {cI cZ cO cJ : ClassId} {n : Nat} {w : MW} {v1 : Int32} {r : Int32} {w1 : MW} (hT : tys = jTy cI cZ cO cJ) (h : fX7_doubted n w v1 = some (r, w1)) : CC l jG0 D tys yX7_doubted wsX7_doubted rmX7_doubted [.ref a, .int v1] (mW a ad cI cZ w) (fun ov w2 => ov = some (.int r) ∧ w2 = (mW a ad cI cZ w1)) := by
  refine CC_of (cc := cX7_doubted) (maxL := 2) (ret := (some .int)) (by decide) rfl (Nat.le_of_ble_eq_true rfl) ?_
  intro X hD hL hT0 hGX hX rI rZ rV rA
  exact sX7_doubted (post := fun ov w2 => ov = some (.int r) ∧ w2 = (mW a ad cI cZ w1)) hX (hT0.trans hT) hGX (fun cells slots w9 pc lv v => rI cells slots w9 pc lv v rfl) (o := (r, w1)) (fun v9 w9 e9 => by cases e9; exact ⟨rfl, rfl⟩) h
/-! X7_isFrozen -/
abbrev rmX7_isFrozen : Room := { frames := 2, cells := 0, slots := 0, locals := 45 }
theorem hdX7_isFrozen : yX7_isFrozen.cls = RX7 ∧ yX7_isFrozen.cls ≠ "java/lang/invoke/MethodHandle" ∧ yX7_isFrozen.cls ≠ "java/lang/invoke/VarHandle" ∧ (parseMethodDescriptor yX7_isFrozen.desc).map (fun d => d.parameters.length) = some 1 := by decide +kernel
def fX7_isFrozen_J14 (n : Nat) (w : MW) (v1 t0 : Int32) : Option (Int32 × MW) := b2 (fX7_isOf w t0) (fun r14 w14 => (if r14 = 0 then chk (b01 (0 : Int32)) (some ((0 : Int32), w14)) else bP (fX7_frozen n w14 v1) (fun r22 => (if r22 = 0 then chk (b01 (0 : Int32)) (some ((0 : Int32), w14)) else chk (b01 (1 : Int32)) (some ((1 : Int32), w14))))))
def fX7_isFrozen (n : Nat) (w : MW) (v1 : Int32) : Option (Int32 × MW) := bP (fX7_isEntry w v1) (fun r3 => (if r3 = 0 then fX7_isFrozen_J14 n w v1 (1 : Int32) else fX7_isFrozen_J14 n w v1 (0 : Int32)))
set_option maxRecDepth 100000 in
set_option maxHeartbeats 4000000 in
theorem sX7_isFrozen_J14 {X : JX} {a : Nat} {ad : Nat → Nat} {cI cZ cO cJ : ClassId} {n : Nat} {post : Option Value → va_W → Prop} (hX : jOK X cX7_isFrozen 2 wsX7_isFrozen RX7 rmX7_isFrozen) (hT : jT X = jTy cI cZ cO cJ) (hGX : jG X jG0) (hret : jRZ X cX7_isFrozen rmX7_isFrozen post) {o : (Int32 × MW)}   (hro : ∀ (v9 : Int32) (w9 : MW), o = (v9, w9) → post (some (.int v9)) (mW a ad cI cZ w9)) {w : MW} {v1 t0 : Int32} (h : fX7_isFrozen_J14 n w v1 t0 = some o) : JW X 0 0 (mW a ad cI cZ w) 14 [(0, .ref a), (1, .int v1)] [.int t0, .ref a] := by
  unfold fX7_isFrozen_J14 at h
  obtain ⟨r14, w14, hc14, h⟩ := b2_some h
  refine jw_cVi (As := [.int t0]) hX jG0_ok hGX 1 (kX7_isOf hT hc14) gX7_isFrozen_X7_isOf rfl hdX7_isOf ⟨by decide, by decide⟩ 0 7 rfl rfl rfl (Nat.le_of_ble_eq_true rfl) dX7_isFrozen_14 rfl rfl ⟨by decide, by decide⟩ ?_
  refine jw_if_eq (tgt := 32) hX dX7_isFrozen_17 (by decide) (fun hc => ?_) (fun hc => ?_)
  · rw [if_pos hc] at h
    refine jw_iconst (v := (0 : Int32)) hX dX7_isFrozen_32 (by decide) ?_
    obtain ⟨hz33, h⟩ := chk_some h
    exact hret _ _ _ _ _ _ (b01_or hz33) (Nat.zero_le _) (Nat.zero_le _) dX7_isFrozen_33 (hro _ _ (Option.some.inj h).symm)
  · rw [if_neg hc] at h
    refine jw_aload_n hX dX7_isFrozen_20 rfl 0 rfl ?_
    refine jw_iload_n hX dX7_isFrozen_21 rfl 1 rfl ?_
    obtain ⟨r22, hc22, h⟩ := bP_some h
    refine jw_cVi (As := [.int v1]) hX jG0_ok hGX 1 (kX7_frozen hT hc22) gX7_isFrozen_X7_frozen rfl hdX7_frozen ⟨by decide, by decide⟩ 0 7 rfl rfl rfl (Nat.le_of_ble_eq_true rfl) dX7_isFrozen_22 rfl rfl ⟨by decide, by decide⟩ ?_
    refine jw_if_eq (tgt := 32) hX dX7_isFrozen_25 (by decide) (fun hc => ?_) (fun hc => ?_)
    · rw [if_pos hc] at h
      refine jw_iconst (v := (0 : Int32)) hX dX7_isFrozen_32 (by decide) ?_
      obtain ⟨hz33, h⟩ := chk_some h
      exact hret _ _ _ _ _ _ (b01_or hz33) (Nat.zero_le _) (Nat.zero_le _) dX7_isFrozen_33 (hro _ _ (Option.some.inj h).symm)
    · rw [if_neg hc] at h
      refine jw_iconst (v := (1 : Int32)) hX dX7_isFrozen_28 (by decide) ?_
      refine jw_goto (tgt := 33) hX dX7_isFrozen_29 (by decide) ?_
      obtain ⟨hz33, h⟩ := chk_some h
      exact hret _ _ _ _ _ _ (b01_or hz33) (Nat.zero_le _) (Nat.zero_le _) dX7_isFrozen_33 (hro _ _ (Option.some.inj h).symm)
set_option maxRecDepth 100000 in
set_option maxHeartbeats 4000000 in
theorem sX7_isFrozen {X : JX} {a : Nat} {ad : Nat → Nat} {cI cZ cO cJ : ClassId} {n : Nat} {post : Option Value → va_W → Prop} (hX : jOK X cX7_isFrozen 2 wsX7_isFrozen RX7 rmX7_isFrozen) (hT : jT X = jTy cI cZ cO cJ) (hGX : jG X jG0) (hret : jRZ X cX7_isFrozen rmX7_isFrozen post) {o : (Int32 × MW)} (hro : ∀ (v9 : Int32) (w9 : MW), o = (v9, w9) → post (some (.int v9)) (mW a ad cI cZ w9)) {w : MW} {v1 : Int32} (h : fX7_isFrozen n w v1 = some o) : JW X 0 0 (mW a ad cI cZ w) 0 [(0, .ref a), (1, .int v1)] [] := by
  unfold fX7_isFrozen at h
  refine jw_aload_n hX dX7_isFrozen_0 rfl 0 rfl ?_
  refine jw_aload_n hX dX7_isFrozen_1 rfl 0 rfl ?_
  refine jw_iload_n hX dX7_isFrozen_2 rfl 1 rfl ?_
  obtain ⟨r3, hc3, h⟩ := bP_some h
  refine jw_cVi (As := [.int v1]) hX jG0_ok hGX 1 (kX7_isEntry hT hc3) gX7_isFrozen_X7_isEntry rfl hdX7_isEntry ⟨by decide, by decide⟩ 0 7 rfl rfl rfl (Nat.le_of_ble_eq_true rfl) dX7_isFrozen_3 rfl rfl ⟨by decide, by decide⟩ ?_
  refine jw_if_eq (tgt := 13) hX dX7_isFrozen_6 (by decide) (fun hc => ?_) (fun hc => ?_)
  · rw [if_pos hc] at h
    refine jw_iconst (v := (1 : Int32)) hX dX7_isFrozen_13 (by decide) ?_
    exact sX7_isFrozen_J14 hX hT hGX hret hro h
  · rw [if_neg hc] at h
    refine jw_iconst (v := (0 : Int32)) hX dX7_isFrozen_9 (by decide) ?_
    refine jw_goto (tgt := 14) hX dX7_isFrozen_10 (by decide) ?_
    exact sX7_isFrozen_J14 hX hT hGX hret hro h
set_option maxRecDepth 100000 in
set_option maxHeartbeats 4000000 in
theorem kX7_isFrozen {l : Launch} {D : va_G} {tys : List (ClassId × FieldType)} {a : Nat} {ad : Nat → Nat} {cI cZ cO cJ : ClassId} {n : Nat} {w : MW} {v1 : Int32} {r : Int32} {w1 : MW} (hT : tys = jTy cI cZ cO cJ) (h : fX7_isFrozen n w v1 = some (r, w1)) : CC l jG0 D tys yX7_isFrozen wsX7_isFrozen rmX7_isFrozen [.ref a, .int v1] (mW a ad cI cZ w) (fun ov w2 => ov = some (.int r) ∧ w2 = (mW a ad cI cZ w1)) := by
  refine CC_of (cc := cX7_isFrozen) (maxL := 2) (ret := (some .boolean)) (by decide) rfl (Nat.le_of_ble_eq_true rfl) ?_
  intro X hD hL hT0 hGX hX rI rZ rV rA
  exact sX7_isFrozen (post := fun ov w2 => ov = some (.int r) ∧ w2 = (mW a ad cI cZ w1)) hX (hT0.trans hT) hGX (fun cells slots w9 pc lv v => rZ cells slots w9 pc lv v rfl) (o := (r, w1)) (fun v9 w9 e9 => by cases e9; exact ⟨rfl, rfl⟩) h
/-! X7_holds -/
abbrev rmX7_holds : Room := { frames := 2, cells := 0, slots := 0, locals := 43 }
theorem hdX7_holds : yX7_holds.cls = RX7 ∧ yX7_holds.cls ≠ "java/lang/invoke/MethodHandle" ∧ yX7_holds.cls ≠ "java/lang/invoke/VarHandle" ∧ (parseMethodDescriptor yX7_holds.desc).map (fun d => d.parameters.length) = some 1 := by decide +kernel
theorem inX7_holds : ∀ w ∈ wsX70, w ∈ wsX7_holds := fun _ h => List.mem_cons_of_mem _ (List.mem_append_right _ h)
theorem lkX7_holds_44 : Cond.fieldLink RX7 44 "PostlintModel" (TX7 14).2.1 (TX7 14).2.2.1 ∈ wsX7_holds := by decide +kernel
theorem lkX7_holds_65 : Cond.fieldLink RX7 65 "PostlintModel" (TX7 23).2.1 (TX7 23).2.2.1 ∈ wsX7_holds := by decide +kernel
theorem lkX7_holds_68 : Cond.fieldLink RX7 68 "PostlintModel" (TX7 24).2.1 (TX7 24).2.2.1 ∈ wsX7_holds := by decide +kernel
def fX7_holds_J14 (w : MW) (v1 t0 : Int32) : Option (Int32 × MW) := b2 (fX7_isOf w t0) (fun r14 w14 => (if r14 = 0 then chk (b01 (0 : Int32)) (some ((0 : Int32), w14)) else chk (inB v1 (mLen 23)) (chk (inB (w14.2 23 (v1).toNatClampNeg) (mLen 14)) (chk (inB v1 (mLen 24)) ((if (w14.2 14 ((w14.2 23 (v1).toNatClampNeg)).toNatClampNeg) = (w14.2 24 (v1).toNatClampNeg) then chk (b01 (1 : Int32)) (some ((1 : Int32), w14)) else chk (b01 (0 : Int32)) (some ((0 : Int32), w14))))))))
def fX7_holds (w : MW) (v1 : Int32) : Option (Int32 × MW) := bP (fX7_isAudit w v1) (fun r3 => (if r3 = 0 then fX7_holds_J14 w v1 (1 : Int32) else fX7_holds_J14 w v1 (0 : Int32)))
set_option maxRecDepth 100000 in
set_option maxHeartbeats 4000000 in
theorem sX7_holds_J14 {X : JX} {a : Nat} {ad : Nat → Nat} {cI cZ cO cJ : ClassId} {post : Option Value → va_W → Prop} (hX : jOK X cX7_holds 2 wsX7_holds RX7 rmX7_holds) (hT : jT X = jTy cI cZ cO cJ) (hGX : jG X jG0) (hret : jRZ X cX7_holds rmX7_holds post) {o : (Int32 × MW)}   (hro : ∀ (v9 : Int32) (w9 : MW), o = (v9, w9) → post (some (.int v9)) (mW a ad cI cZ w9)) {w : MW} {v1 t0 : Int32} (h : fX7_holds_J14 w v1 t0 = some o) : JW X 0 0 (mW a ad cI cZ w) 14 [(0, .ref a), (1, .int v1)] [.int t0, .ref a] := by
  unfold fX7_holds_J14 at h
  obtain ⟨r14, w14, hc14, h⟩ := b2_some h
  refine jw_cVi (As := [.int t0]) hX jG0_ok hGX 1 (kX7_isOf hT hc14) gX7_holds_X7_isOf rfl hdX7_isOf ⟨by decide, by decide⟩ 0 7 rfl rfl rfl (Nat.le_of_ble_eq_true rfl) dX7_holds_14 rfl rfl ⟨by decide, by decide⟩ ?_
  refine jw_if_eq (tgt := 44) hX dX7_holds_17 (by decide) (fun hc => ?_) (fun hc => ?_)
  · rw [if_pos hc] at h
    refine jw_iconst (v := (0 : Int32)) hX dX7_holds_44 (by decide) ?_
    obtain ⟨hz45, h⟩ := chk_some h
    exact hret _ _ _ _ _ _ (b01_or hz45) (Nat.zero_le _) (Nat.zero_le _) dX7_holds_45 (hro _ _ (Option.some.inj h).symm)
  · rw [if_neg hc] at h
    refine jw_aload_n hX dX7_holds_20 rfl 0 rfl ?_
    refine jw_mgetA hX hT inX7_holds 14 (by decide) lkX7_holds_44 rfl dX7_holds_21 ?_
    refine jw_aload_n hX dX7_holds_24 rfl 0 rfl ?_
    refine jw_mgetA hX hT inX7_holds 23 (by decide) lkX7_holds_65 rfl dX7_holds_25 ?_
    refine jw_iload_n hX dX7_holds_28 rfl 1 rfl ?_
    obtain ⟨hb29, h⟩ := chk_some h
    refine jw_miald hX hT 18 23 rfl rfl hb29 dX7_holds_29 ?_
    obtain ⟨hb30, h⟩ := chk_some h
    refine jw_miald hX hT 11 14 rfl rfl hb30 dX7_holds_30 ?_
    refine jw_aload_n hX dX7_holds_31 rfl 0 rfl ?_
    refine jw_mgetA hX hT inX7_holds 24 (by decide) lkX7_holds_68 rfl dX7_holds_32 ?_
    refine jw_iload_n hX dX7_holds_35 rfl 1 rfl ?_
    obtain ⟨hb36, h⟩ := chk_some h
    refine jw_miald hX hT 19 24 rfl rfl hb36 dX7_holds_36 ?_
    refine jw_icmp_ne (tgt := 44) hX dX7_holds_37 (by decide) (fun hc => ?_) (fun hc => ?_)
    · rw [if_neg hc] at h
      refine jw_iconst (v := (0 : Int32)) hX dX7_holds_44 (by decide) ?_
      obtain ⟨hz45, h⟩ := chk_some h
      exact hret _ _ _ _ _ _ (b01_or hz45) (Nat.zero_le _) (Nat.zero_le _) dX7_holds_45 (hro _ _ (Option.some.inj h).symm)
    · rw [if_pos hc] at h
      refine jw_iconst (v := (1 : Int32)) hX dX7_holds_40 (by decide) ?_
      refine jw_goto (tgt := 45) hX dX7_holds_41 (by decide) ?_
      obtain ⟨hz45, h⟩ := chk_some h
      exact hret _ _ _ _ _ _ (b01_or hz45) (Nat.zero_le _) (Nat.zero_le _) dX7_holds_45 (hro _ _ (Option.some.inj h).symm)
set_option maxRecDepth 100000 in
set_option maxHeartbeats 4000000 in
theorem sX7_holds {X : JX} {a : Nat} {ad : Nat → Nat} {cI cZ cO cJ : ClassId} {post : Option Value → va_W → Prop} (hX : jOK X cX7_holds 2 wsX7_holds RX7 rmX7_holds) (hT : jT X = jTy cI cZ cO cJ) (hGX : jG X jG0) (hret : jRZ X cX7_holds rmX7_holds post) {o : (Int32 × MW)} (hro : ∀ (v9 : Int32) (w9 : MW), o = (v9, w9) → post (some (.int v9)) (mW a ad cI cZ w9)) {w : MW} {v1 : Int32} (h : fX7_holds w v1 = some o) : JW X 0 0 (mW a ad cI cZ w) 0 [(0, .ref a), (1, .int v1)] [] := by
  unfold fX7_holds at h
  refine jw_aload_n hX dX7_holds_0 rfl 0 rfl ?_
  refine jw_aload_n hX dX7_holds_1 rfl 0 rfl ?_
  refine jw_iload_n hX dX7_holds_2 rfl 1 rfl ?_
  obtain ⟨r3, hc3, h⟩ := bP_some h
  refine jw_cVi (As := [.int v1]) hX jG0_ok hGX 1 (kX7_isAudit hT hc3) gX7_holds_X7_isAudit rfl hdX7_isAudit ⟨by decide, by decide⟩ 0 7 rfl rfl rfl (Nat.le_of_ble_eq_true rfl) dX7_holds_3 rfl rfl ⟨by decide, by decide⟩ ?_
  refine jw_if_eq (tgt := 13) hX dX7_holds_6 (by decide) (fun hc => ?_) (fun hc => ?_)
  · rw [if_pos hc] at h
    refine jw_iconst (v := (1 : Int32)) hX dX7_holds_13 (by decide) ?_
    exact sX7_holds_J14 hX hT hGX hret hro h
  · rw [if_neg hc] at h
    refine jw_iconst (v := (0 : Int32)) hX dX7_holds_9 (by decide) ?_
    refine jw_goto (tgt := 14) hX dX7_holds_10 (by decide) ?_
    exact sX7_holds_J14 hX hT hGX hret hro h
set_option maxRecDepth 100000 in
set_option maxHeartbeats 4000000 in
theorem kX7_holds {l : Launch} {D : va_G} {tys : List (ClassId × FieldType)} {a : Nat} {ad : Nat → Nat} {cI cZ cO cJ : ClassId} {w : MW} {v1 : Int32} {r : Int32} {w1 : MW} (hT : tys = jTy cI cZ cO cJ) (h : fX7_holds w v1 = some (r, w1)) : CC l jG0 D tys yX7_holds wsX7_holds rmX7_holds [.ref a, .int v1] (mW a ad cI cZ w) (fun ov w2 => ov = some (.int r) ∧ w2 = (mW a ad cI cZ w1)) := by
  refine CC_of (cc := cX7_holds) (maxL := 2) (ret := (some .boolean)) (by decide) rfl (Nat.le_of_ble_eq_true rfl) ?_
  intro X hD hL hT0 hGX hX rI rZ rV rA
  exact sX7_holds (post := fun ov w2 => ov = some (.int r) ∧ w2 = (mW a ad cI cZ w1)) hX (hT0.trans hT) hGX (fun cells slots w9 pc lv v => rZ cells slots w9 pc lv v rfl) (o := (r, w1)) (fun v9 w9 e9 => by cases e9; exact ⟨rfl, rfl⟩) h
