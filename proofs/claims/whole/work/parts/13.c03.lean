/-! X2_stateBehindItem -/
abbrev rmX2_stateBehindItem : Room := { frames := 0, cells := 0, slots := 0, locals := 0 }
theorem hdX2_stateBehindItem : yX2_stateBehindItem.cls = RX2 ∧ yX2_stateBehindItem.cls ≠ "java/lang/invoke/MethodHandle" ∧ yX2_stateBehindItem.cls ≠ "java/lang/invoke/VarHandle" ∧ (parseMethodDescriptor yX2_stateBehindItem.desc).map (fun d => d.parameters.length) = some 1 := by decide +kernel
theorem lkX2_stateBehindItem_15 : Cond.fieldLink RX2 15 RX2 (TX2 1).2.1 (TX2 1).2.2.1 ∈ wsX2_stateBehindItem := by decide +kernel
theorem inX2_stateBehindItem_3 : ∀ w ∈ wsX20, w ∈ wsX2_stateBehindItem := fun _ h => List.mem_cons_of_mem _ (List.mem_append_right _ h)
def fX2_stateBehindItem (S : PS) (v0 : Nat) (v1 : Int32) : Option (Int32 × PS) := (if v1 = (32 : Int32) then some ((9 : Int32), S) else (if v1 = (41 : Int32) then chk (okP S v0 3) ((if (sI S 31 v0) ≤ 0 then some ((-1 : Int32), S) else chk (okP S v0 3) (chk (okP S v0 3) (bnd (pI S 31 v0 ((sI S 31 v0) - (1 : Int32))) (fun w29 => some ((7 : Int32), w29)))))) else some ((-1 : Int32), S)))
set_option maxRecDepth 100000 in
set_option maxHeartbeats 4000000 in
theorem sX2_stateBehindItem {X : JX} {cI cZ cO cJ : ClassId} {gs : JP} {post : Option Value → va_W → Prop} (hX : jOK X cX2_stateBehindItem 2 wsX2_stateBehindItem RX2 rmX2_stateBehindItem) (hT : jT X = jTy cI cZ cO cJ) (hGX : jG X (GP gs)) (hret : jRI X cX2_stateBehindItem rmX2_stateBehindItem post) {o : (Int32 × PS)} (hro : ∀ (v9 : Int32) (w9 : PS), o = (v9, w9) → post (some (.int v9)) (pW cI cO w9))  {S : PS} {v0 : Nat} {v1 : Int32} (h : fX2_stateBehindItem S v0 v1 = some o) : JW X 0 0 (pW cI cO S) 0 [(0, .ref v0), (1, .int v1)] [] := by
  unfold fX2_stateBehindItem at h
  refine jw_iload_n hX dX2_stateBehindItem_0 rfl 1 rfl ?_
  refine jw_bipush (v := (32 : Int32)) hX dX2_stateBehindItem_1 (by decide) ?_
  refine jw_icmp_ne (tgt := 9) hX dX2_stateBehindItem_3 (by decide) (fun hc => ?_) (fun hc => ?_)
  · rw [if_neg hc] at h
    refine jw_iload_n hX dX2_stateBehindItem_9 rfl 1 rfl ?_
    refine jw_bipush (v := (41 : Int32)) hX dX2_stateBehindItem_10 (by decide) ?_
    refine jw_icmp_ne (tgt := 35) hX dX2_stateBehindItem_12 (by decide) (fun hc => ?_) (fun hc => ?_)
    · rw [if_neg hc] at h
      refine jw_iconst (v := (-1 : Int32)) hX dX2_stateBehindItem_35 (by decide) ?_
      exact hret _ _ _ _ _ _ (by decide) (by decide) dX2_stateBehindItem_36 (hro _ _ (Option.some.inj h).symm)
    · rw [if_pos hc] at h
      refine jw_aload_n hX dX2_stateBehindItem_15 rfl 0 rfl ?_
      obtain ⟨ho16_1, h⟩ := chk_some h
      refine jw_pgetI hX hT 3 1 rfl (by decide) (by decide) rfl inX2_stateBehindItem_3 rfl lkX2_stateBehindItem_15 ho16_1 dX2_stateBehindItem_16 ?_
      refine jw_if_le (tgt := 35) hX dX2_stateBehindItem_19 (by decide) (fun hc => ?_) (fun hc => ?_)
      · rw [if_pos hc] at h
        refine jw_iconst (v := (-1 : Int32)) hX dX2_stateBehindItem_35 (by decide) ?_
        exact hret _ _ _ _ _ _ (by decide) (by decide) dX2_stateBehindItem_36 (hro _ _ (Option.some.inj h).symm)
      · rw [if_neg hc] at h
        refine jw_aload_n hX dX2_stateBehindItem_22 rfl 0 rfl ?_
        refine jw_dup hX dX2_stateBehindItem_23 rfl ?_
        obtain ⟨ho24_2, h⟩ := chk_some h
        refine jw_pgetI hX hT 3 1 rfl (by decide) (by decide) rfl inX2_stateBehindItem_3 rfl lkX2_stateBehindItem_15 ho24_2 dX2_stateBehindItem_24 ?_
        refine jw_iconst (v := (1 : Int32)) hX dX2_stateBehindItem_27 (by decide) ?_
        refine jw_isub hX dX2_stateBehindItem_28 ?_
        obtain ⟨ho29_6, h⟩ := chk_some h
        refine jw_pputI hX hT 3 1 rfl (by decide) (by decide) rfl inX2_stateBehindItem_3 rfl lkX2_stateBehindItem_15 tyX2 tyX2_ok nmX2 rfl (by decide +kernel) ho29_6 dX2_stateBehindItem_29 (fun w29 e29 => ?_)
        replace h := bnd_some h w29 e29
        clear e29
        refine jw_bipush (v := (7 : Int32)) hX dX2_stateBehindItem_32 (by decide) ?_
        exact hret _ _ _ _ _ _ (by decide) (by decide) dX2_stateBehindItem_34 (hro _ _ (Option.some.inj h).symm)
  · rw [if_pos hc] at h
    refine jw_bipush (v := (9 : Int32)) hX dX2_stateBehindItem_6 (by decide) ?_
    exact hret _ _ _ _ _ _ (by decide) (by decide) dX2_stateBehindItem_8 (hro _ _ (Option.some.inj h).symm)
set_option maxRecDepth 100000 in
set_option maxHeartbeats 4000000 in
theorem kX2_stateBehindItem {l : Launch} {D : va_G} {tys : List (ClassId × FieldType)} {cI cZ cO cJ : ClassId} {gs : JP} {S : PS} {v0 : Nat} {v1 : Int32} {r : Int32} {w1 : PS} (hT : tys = jTy cI cZ cO cJ) (h : fX2_stateBehindItem S v0 v1 = some (r, w1)) : CC l (GP gs) D tys yX2_stateBehindItem wsX2_stateBehindItem rmX2_stateBehindItem [.ref v0, .int v1] (pW cI cO S) (fun ov w2 => ov = some (.int r) ∧ w2 = (pW cI cO w1)) := by
  refine CC_of (cc := cX2_stateBehindItem) (maxL := 2) (ret := (some .int)) (by decide) rfl (Nat.le_of_ble_eq_true rfl) ?_
  intro X hD hL hT0 hGX hX rI rZ rV rA
  exact sX2_stateBehindItem (post := fun ov w2 => ov = some (.int r) ∧ w2 = (pW cI cO w1)) hX (hT0.trans hT) hGX (fun cells slots w9 pc lv v => rI cells slots w9 pc lv v rfl) (o := (r, w1)) (fun v9 w9 e9 => by cases e9; exact ⟨rfl, rfl⟩) h
/-! X2_stateBehind -/
abbrev rmX2_stateBehind : Room := { frames := 2, cells := 0, slots := 0, locals := 41 }
theorem hdX2_stateBehind : yX2_stateBehind.cls = RX2 ∧ yX2_stateBehind.cls ≠ "java/lang/invoke/MethodHandle" ∧ yX2_stateBehind.cls ≠ "java/lang/invoke/VarHandle" ∧ (parseMethodDescriptor yX2_stateBehind.desc).map (fun d => d.parameters.length) = some 1 := by decide +kernel
theorem lkX2_stateBehind_11 : Cond.fieldLink RX2 11 RX2 (TX2 0).2.1 (TX2 0).2.2.1 ∈ wsX2_stateBehind := by decide +kernel
theorem inX2_stateBehind_3 : ∀ w ∈ wsX20, w ∈ wsX2_stateBehind := fun _ h => List.mem_cons_of_mem _ (List.mem_append_right _ h)
theorem n1X2_stateBehind_X6_isDigit : Cond.static yX6_isDigit ∈ wsX2_stateBehind := by decide +kernel
theorem n2X2_stateBehind_X6_isDigit : Cond.initialized yX6_isDigit.cls ∈ wsX2_stateBehind := by decide +kernel
def fX2_stateBehind (S : PS) (v0 : Nat) (v1 : Int32) : Option (Int32 × PS) := chk (okP S v0 3) ((if (sI S 30 v0) = (0 : Int32) then (if v1 = (32 : Int32) then some ((0 : Int32), S) else chk (okP S v0 3) (b2 (fX2_stateBehindStart S v0 v1) (fun r72 w72 => some (r72, w72)))) else (if (sI S 30 v0) = (1 : Int32) then (if v1 = (43 : Int32) then some ((2 : Int32), S) else (if v1 = (45 : Int32) then some ((2 : Int32), S) else some ((-1 : Int32), S))) else (if (sI S 30 v0) = (2 : Int32) then bP (fX6_isDigit v1) (fun r95 => (if r95 = 0 then some ((-1 : Int32), S) else some ((4 : Int32), S))) else (if (sI S 30 v0) = (3 : Int32) then bP (fX6_isDigit v1) (fun r159 => (if r159 = 0 then some ((-1 : Int32), S) else (if v1 = (48 : Int32) then some ((-1 : Int32), S) else some ((8 : Int32), S)))) else (if (sI S 30 v0) = (4 : Int32) then bP (fX6_isDigit v1) (fun r108 => (if r108 = 0 then chk (okP S v0 3) (b2 (fX2_stateBehindItem S v0 v1) (fun r120 w120 => some (r120, w120))) else some ((5 : Int32), S))) else (if (sI S 30 v0) = (5 : Int32) then bP (fX6_isDigit v1) (fun r125 => (if r125 = 0 then chk (okP S v0 3) (b2 (fX2_stateBehindItem S v0 v1) (fun r138 w138 => some (r138, w138))) else some ((6 : Int32), S))) else (if (sI S 30 v0) = (6 : Int32) then chk (okP S v0 3) (b2 (fX2_stateBehindItem S v0 v1) (fun r206 w206 => some (r206, w206))) else (if (sI S 30 v0) = (7 : Int32) then (if v1 = (120 : Int32) then some ((3 : Int32), S) else chk (okP S v0 3) (b2 (fX2_stateBehindItem S v0 v1) (fun r154 w154 => some (r154, w154)))) else (if (sI S 30 v0) = (8 : Int32) then chk (okP S v0 3) (b2 (fX2_stateBehindItem S v0 v1) (fun r206 w206 => some (r206, w206))) else (if (sI S 30 v0) = (9 : Int32) then (if v1 = (32 : Int32) then chk (okP S v0 3) (b2 (fX2_stateBehindItem S v0 v1) (fun r192 w192 => some (r192, w192))) else (if v1 = (41 : Int32) then chk (okP S v0 3) (b2 (fX2_stateBehindItem S v0 v1) (fun r192 w192 => some (r192, w192))) else chk (okP S v0 3) (b2 (fX2_stateBehindStart S v0 v1) (fun r200 w200 => some (r200, w200))))) else chk (okP S v0 3) (b2 (fX2_stateBehindItem S v0 v1) (fun r206 w206 => some (r206, w206))))))))))))))
set_option maxRecDepth 100000 in
set_option maxHeartbeats 4000000 in
theorem sX2_stateBehind {X : JX} {cI cZ cO cJ : ClassId} {gs : JP} {post : Option Value → va_W → Prop} (hX : jOK X cX2_stateBehind 2 wsX2_stateBehind RX2 rmX2_stateBehind) (hT : jT X = jTy cI cZ cO cJ) (hGX : jG X (GP gs)) (hret : jRI X cX2_stateBehind rmX2_stateBehind post) {o : (Int32 × PS)} (hro : ∀ (v9 : Int32) (w9 : PS), o = (v9, w9) → post (some (.int v9)) (pW cI cO w9))  {S : PS} {v0 : Nat} {v1 : Int32} (h : fX2_stateBehind S v0 v1 = some o) : JW X 0 0 (pW cI cO S) 0 [(0, .ref v0), (1, .int v1)] [] := by
  unfold fX2_stateBehind at h
  refine jw_aload_n hX dX2_stateBehind_0 rfl 0 rfl ?_
  obtain ⟨ho1_1, h⟩ := chk_some h
  refine jw_pgetI hX hT 3 0 rfl (by decide) (by decide) rfl inX2_stateBehind_3 rfl lkX2_stateBehind_11 ho1_1 dX2_stateBehind_1 ?_
  by_cases hc0 : (sI S 30 v0) = (0 : Int32)
  · rw [if_pos hc0] at h
    refine jw_tableIn (tgt := 60) (off := 56) hX 0 dX2_stateBehind_4 hc0 (by decide) (by decide) (by decide) (by decide) ?_
    refine jw_iload_n hX dX2_stateBehind_60 rfl 1 rfl ?_
    refine jw_bipush (v := (32 : Int32)) hX dX2_stateBehind_61 (by decide) ?_
    refine jw_icmp_ne (tgt := 70) hX dX2_stateBehind_63 (by decide) (fun hc => ?_) (fun hc => ?_)
    · rw [if_neg hc] at h
      refine jw_aload_n hX dX2_stateBehind_70 rfl 0 rfl ?_
      refine jw_iload_n hX dX2_stateBehind_71 rfl 1 rfl ?_
      obtain ⟨ho72_2, h⟩ := chk_some h
      obtain ⟨r72, w72, hc72, h⟩ := b2_some h
      refine jw_pVi (As := [.int v1]) hX (GP_ok gs) hGX 1 (kX2_stateBehindStart hT hc72) gX2_stateBehind_X2_stateBehindStart rfl hdX2_stateBehindStart ⟨by decide, by decide⟩ 3 rfl (by decide) ho72_2 rfl (Nat.le_of_ble_eq_true rfl) dX2_stateBehind_72 rfl rfl ⟨by decide, by decide⟩ ?_
      exact hret _ _ _ _ _ _ (by decide) (by decide) dX2_stateBehind_75 (hro _ _ (Option.some.inj h).symm)
    · rw [if_pos hc] at h
      refine jw_iconst (v := (0 : Int32)) hX dX2_stateBehind_66 (by decide) ?_
      refine jw_goto (tgt := 75) hX dX2_stateBehind_67 (by decide) ?_
      exact hret _ _ _ _ _ _ (by decide) (by decide) dX2_stateBehind_75 (hro _ _ (Option.some.inj h).symm)
  · rw [if_neg hc0] at h
    by_cases hc1 : (sI S 30 v0) = (1 : Int32)
    · rw [if_pos hc1] at h
      refine jw_tableIn (tgt := 76) (off := 72) hX 1 dX2_stateBehind_4 hc1 (by decide) (by decide) (by decide) (by decide) ?_
      refine jw_iload_n hX dX2_stateBehind_76 rfl 1 rfl ?_
      refine jw_bipush (v := (43 : Int32)) hX dX2_stateBehind_77 (by decide) ?_
      refine jw_icmp_eq (tgt := 88) hX dX2_stateBehind_79 (by decide) (fun hc => ?_) (fun hc => ?_)
      · rw [if_pos hc] at h
        refine jw_iconst (v := (2 : Int32)) hX dX2_stateBehind_88 (by decide) ?_
        refine jw_goto (tgt := 93) hX dX2_stateBehind_89 (by decide) ?_
        exact hret _ _ _ _ _ _ (by decide) (by decide) dX2_stateBehind_93 (hro _ _ (Option.some.inj h).symm)
      · rw [if_neg hc] at h
        refine jw_iload_n hX dX2_stateBehind_82 rfl 1 rfl ?_
        refine jw_bipush (v := (45 : Int32)) hX dX2_stateBehind_83 (by decide) ?_
        refine jw_icmp_ne (tgt := 92) hX dX2_stateBehind_85 (by decide) (fun hc => ?_) (fun hc => ?_)
        · rw [if_neg hc] at h
          refine jw_iconst (v := (-1 : Int32)) hX dX2_stateBehind_92 (by decide) ?_
          exact hret _ _ _ _ _ _ (by decide) (by decide) dX2_stateBehind_93 (hro _ _ (Option.some.inj h).symm)
        · rw [if_pos hc] at h
          refine jw_iconst (v := (2 : Int32)) hX dX2_stateBehind_88 (by decide) ?_
          refine jw_goto (tgt := 93) hX dX2_stateBehind_89 (by decide) ?_
          exact hret _ _ _ _ _ _ (by decide) (by decide) dX2_stateBehind_93 (hro _ _ (Option.some.inj h).symm)
    · rw [if_neg hc1] at h
      by_cases hc2 : (sI S 30 v0) = (2 : Int32)
      · rw [if_pos hc2] at h
        refine jw_tableIn (tgt := 94) (off := 90) hX 2 dX2_stateBehind_4 hc2 (by decide) (by decide) (by decide) (by decide) ?_
        refine jw_iload_n hX dX2_stateBehind_94 rfl 1 rfl ?_
        obtain ⟨r95, hc95, h⟩ := bP_some h
        refine jw_pSNi (As := [.int v1]) hX (GP_ok gs) hGX 1 (kX6_isDigit hT hc95) gX2_stateBehind_X6_isDigit_n34 rfl (gp_nm hGX (w := .methodLinkNest RX2 34 yX6_isDigit "Postlint") (by decide +kernel)) (Or.inl n1X2_stateBehind_X6_isDigit) (Or.inl n2X2_stateBehind_X6_isDigit) hdX6_isDigit ⟨by decide, by decide⟩ rfl (Nat.le_of_ble_eq_true rfl) dX2_stateBehind_95 rfl rfl ⟨by decide, by decide⟩ ?_
        refine jw_if_eq (tgt := 105) hX dX2_stateBehind_98 (by decide) (fun hc => ?_) (fun hc => ?_)
        · rw [if_pos hc] at h
          refine jw_iconst (v := (-1 : Int32)) hX dX2_stateBehind_105 (by decide) ?_
          exact hret _ _ _ _ _ _ (by decide) (by decide) dX2_stateBehind_106 (hro _ _ (Option.some.inj h).symm)
        · rw [if_neg hc] at h
          refine jw_iconst (v := (4 : Int32)) hX dX2_stateBehind_101 (by decide) ?_
          refine jw_goto (tgt := 106) hX dX2_stateBehind_102 (by decide) ?_
          exact hret _ _ _ _ _ _ (by decide) (by decide) dX2_stateBehind_106 (hro _ _ (Option.some.inj h).symm)
      · rw [if_neg hc2] at h
        by_cases hc3 : (sI S 30 v0) = (3 : Int32)
        · rw [if_pos hc3] at h
          refine jw_tableIn (tgt := 158) (off := 154) hX 3 dX2_stateBehind_4 hc3 (by decide) (by decide) (by decide) (by decide) ?_
          refine jw_iload_n hX dX2_stateBehind_158 rfl 1 rfl ?_
          obtain ⟨r159, hc159, h⟩ := bP_some h
          refine jw_pSNi (As := [.int v1]) hX (GP_ok gs) hGX 1 (kX6_isDigit hT hc159) gX2_stateBehind_X6_isDigit_n34 rfl (gp_nm hGX (w := .methodLinkNest RX2 34 yX6_isDigit "Postlint") (by decide +kernel)) (Or.inl n1X2_stateBehind_X6_isDigit) (Or.inl n2X2_stateBehind_X6_isDigit) hdX6_isDigit ⟨by decide, by decide⟩ rfl (Nat.le_of_ble_eq_true rfl) dX2_stateBehind_159 rfl rfl ⟨by decide, by decide⟩ ?_
          refine jw_if_eq (tgt := 176) hX dX2_stateBehind_162 (by decide) (fun hc => ?_) (fun hc => ?_)
          · rw [if_pos hc] at h
            refine jw_iconst (v := (-1 : Int32)) hX dX2_stateBehind_176 (by decide) ?_
            exact hret _ _ _ _ _ _ (by decide) (by decide) dX2_stateBehind_177 (hro _ _ (Option.some.inj h).symm)
          · rw [if_neg hc] at h
            refine jw_iload_n hX dX2_stateBehind_165 rfl 1 rfl ?_
            refine jw_bipush (v := (48 : Int32)) hX dX2_stateBehind_166 (by decide) ?_
            refine jw_icmp_eq (tgt := 176) hX dX2_stateBehind_168 (by decide) (fun hc => ?_) (fun hc => ?_)
            · rw [if_pos hc] at h
              refine jw_iconst (v := (-1 : Int32)) hX dX2_stateBehind_176 (by decide) ?_
              exact hret _ _ _ _ _ _ (by decide) (by decide) dX2_stateBehind_177 (hro _ _ (Option.some.inj h).symm)
            · rw [if_neg hc] at h
              refine jw_bipush (v := (8 : Int32)) hX dX2_stateBehind_171 (by decide) ?_
              refine jw_goto (tgt := 177) hX dX2_stateBehind_173 (by decide) ?_
              exact hret _ _ _ _ _ _ (by decide) (by decide) dX2_stateBehind_177 (hro _ _ (Option.some.inj h).symm)
        · rw [if_neg hc3] at h
          by_cases hc4 : (sI S 30 v0) = (4 : Int32)
          · rw [if_pos hc4] at h
            refine jw_tableIn (tgt := 107) (off := 103) hX 4 dX2_stateBehind_4 hc4 (by decide) (by decide) (by decide) (by decide) ?_
            refine jw_iload_n hX dX2_stateBehind_107 rfl 1 rfl ?_
            obtain ⟨r108, hc108, h⟩ := bP_some h
            refine jw_pSNi (As := [.int v1]) hX (GP_ok gs) hGX 1 (kX6_isDigit hT hc108) gX2_stateBehind_X6_isDigit_n34 rfl (gp_nm hGX (w := .methodLinkNest RX2 34 yX6_isDigit "Postlint") (by decide +kernel)) (Or.inl n1X2_stateBehind_X6_isDigit) (Or.inl n2X2_stateBehind_X6_isDigit) hdX6_isDigit ⟨by decide, by decide⟩ rfl (Nat.le_of_ble_eq_true rfl) dX2_stateBehind_108 rfl rfl ⟨by decide, by decide⟩ ?_
            refine jw_if_eq (tgt := 118) hX dX2_stateBehind_111 (by decide) (fun hc => ?_) (fun hc => ?_)
            · rw [if_pos hc] at h
              refine jw_aload_n hX dX2_stateBehind_118 rfl 0 rfl ?_
              refine jw_iload_n hX dX2_stateBehind_119 rfl 1 rfl ?_
              obtain ⟨ho120_2, h⟩ := chk_some h
              obtain ⟨r120, w120, hc120, h⟩ := b2_some h
              refine jw_pVi (As := [.int v1]) hX (GP_ok gs) hGX 1 (kX2_stateBehindItem hT hc120) gX2_stateBehind_X2_stateBehindItem rfl hdX2_stateBehindItem ⟨by decide, by decide⟩ 3 rfl (by decide) ho120_2 rfl (Nat.le_of_ble_eq_true rfl) dX2_stateBehind_120 rfl rfl ⟨by decide, by decide⟩ ?_
              exact hret _ _ _ _ _ _ (by decide) (by decide) dX2_stateBehind_123 (hro _ _ (Option.some.inj h).symm)
            · rw [if_neg hc] at h
              refine jw_iconst (v := (5 : Int32)) hX dX2_stateBehind_114 (by decide) ?_
              refine jw_goto (tgt := 123) hX dX2_stateBehind_115 (by decide) ?_
              exact hret _ _ _ _ _ _ (by decide) (by decide) dX2_stateBehind_123 (hro _ _ (Option.some.inj h).symm)
          · rw [if_neg hc4] at h
            by_cases hc5 : (sI S 30 v0) = (5 : Int32)
            · rw [if_pos hc5] at h
              refine jw_tableIn (tgt := 124) (off := 120) hX 5 dX2_stateBehind_4 hc5 (by decide) (by decide) (by decide) (by decide) ?_
              refine jw_iload_n hX dX2_stateBehind_124 rfl 1 rfl ?_
              obtain ⟨r125, hc125, h⟩ := bP_some h
              refine jw_pSNi (As := [.int v1]) hX (GP_ok gs) hGX 1 (kX6_isDigit hT hc125) gX2_stateBehind_X6_isDigit_n34 rfl (gp_nm hGX (w := .methodLinkNest RX2 34 yX6_isDigit "Postlint") (by decide +kernel)) (Or.inl n1X2_stateBehind_X6_isDigit) (Or.inl n2X2_stateBehind_X6_isDigit) hdX6_isDigit ⟨by decide, by decide⟩ rfl (Nat.le_of_ble_eq_true rfl) dX2_stateBehind_125 rfl rfl ⟨by decide, by decide⟩ ?_
              refine jw_if_eq (tgt := 136) hX dX2_stateBehind_128 (by decide) (fun hc => ?_) (fun hc => ?_)
              · rw [if_pos hc] at h
                refine jw_aload_n hX dX2_stateBehind_136 rfl 0 rfl ?_
                refine jw_iload_n hX dX2_stateBehind_137 rfl 1 rfl ?_
                obtain ⟨ho138_2, h⟩ := chk_some h
                obtain ⟨r138, w138, hc138, h⟩ := b2_some h
                refine jw_pVi (As := [.int v1]) hX (GP_ok gs) hGX 1 (kX2_stateBehindItem hT hc138) gX2_stateBehind_X2_stateBehindItem rfl hdX2_stateBehindItem ⟨by decide, by decide⟩ 3 rfl (by decide) ho138_2 rfl (Nat.le_of_ble_eq_true rfl) dX2_stateBehind_138 rfl rfl ⟨by decide, by decide⟩ ?_
                exact hret _ _ _ _ _ _ (by decide) (by decide) dX2_stateBehind_141 (hro _ _ (Option.some.inj h).symm)
              · rw [if_neg hc] at h
                refine jw_bipush (v := (6 : Int32)) hX dX2_stateBehind_131 (by decide) ?_
                refine jw_goto (tgt := 141) hX dX2_stateBehind_133 (by decide) ?_
                exact hret _ _ _ _ _ _ (by decide) (by decide) dX2_stateBehind_141 (hro _ _ (Option.some.inj h).symm)
            · rw [if_neg hc5] at h
              by_cases hc6 : (sI S 30 v0) = (6 : Int32)
              · rw [if_pos hc6] at h
                refine jw_tableIn (tgt := 204) (off := 200) hX 6 dX2_stateBehind_4 hc6 (by decide) (by decide) (by decide) (by decide) ?_
                refine jw_aload_n hX dX2_stateBehind_204 rfl 0 rfl ?_
                refine jw_iload_n hX dX2_stateBehind_205 rfl 1 rfl ?_
                obtain ⟨ho206_2, h⟩ := chk_some h
                obtain ⟨r206, w206, hc206, h⟩ := b2_some h
                refine jw_pVi (As := [.int v1]) hX (GP_ok gs) hGX 1 (kX2_stateBehindItem hT hc206) gX2_stateBehind_X2_stateBehindItem rfl hdX2_stateBehindItem ⟨by decide, by decide⟩ 3 rfl (by decide) ho206_2 rfl (Nat.le_of_ble_eq_true rfl) dX2_stateBehind_206 rfl rfl ⟨by decide, by decide⟩ ?_
                exact hret _ _ _ _ _ _ (by decide) (by decide) dX2_stateBehind_209 (hro _ _ (Option.some.inj h).symm)
              · rw [if_neg hc6] at h
                by_cases hc7 : (sI S 30 v0) = (7 : Int32)
                · rw [if_pos hc7] at h
                  refine jw_tableIn (tgt := 142) (off := 138) hX 7 dX2_stateBehind_4 hc7 (by decide) (by decide) (by decide) (by decide) ?_
                  refine jw_iload_n hX dX2_stateBehind_142 rfl 1 rfl ?_
                  refine jw_bipush (v := (120 : Int32)) hX dX2_stateBehind_143 (by decide) ?_
                  refine jw_icmp_ne (tgt := 152) hX dX2_stateBehind_145 (by decide) (fun hc => ?_) (fun hc => ?_)
                  · rw [if_neg hc] at h
                    refine jw_aload_n hX dX2_stateBehind_152 rfl 0 rfl ?_
                    refine jw_iload_n hX dX2_stateBehind_153 rfl 1 rfl ?_
                    obtain ⟨ho154_2, h⟩ := chk_some h
                    obtain ⟨r154, w154, hc154, h⟩ := b2_some h
                    refine jw_pVi (As := [.int v1]) hX (GP_ok gs) hGX 1 (kX2_stateBehindItem hT hc154) gX2_stateBehind_X2_stateBehindItem rfl hdX2_stateBehindItem ⟨by decide, by decide⟩ 3 rfl (by decide) ho154_2 rfl (Nat.le_of_ble_eq_true rfl) dX2_stateBehind_154 rfl rfl ⟨by decide, by decide⟩ ?_
                    exact hret _ _ _ _ _ _ (by decide) (by decide) dX2_stateBehind_157 (hro _ _ (Option.some.inj h).symm)
                  · rw [if_pos hc] at h
                    refine jw_iconst (v := (3 : Int32)) hX dX2_stateBehind_148 (by decide) ?_
                    refine jw_goto (tgt := 157) hX dX2_stateBehind_149 (by decide) ?_
                    exact hret _ _ _ _ _ _ (by decide) (by decide) dX2_stateBehind_157 (hro _ _ (Option.some.inj h).symm)
                · rw [if_neg hc7] at h
                  by_cases hc8 : (sI S 30 v0) = (8 : Int32)
                  · rw [if_pos hc8] at h
                    refine jw_tableIn (tgt := 204) (off := 200) hX 8 dX2_stateBehind_4 hc8 (by decide) (by decide) (by decide) (by decide) ?_
                    refine jw_aload_n hX dX2_stateBehind_204 rfl 0 rfl ?_
                    refine jw_iload_n hX dX2_stateBehind_205 rfl 1 rfl ?_
                    obtain ⟨ho206_2, h⟩ := chk_some h
                    obtain ⟨r206, w206, hc206, h⟩ := b2_some h
                    refine jw_pVi (As := [.int v1]) hX (GP_ok gs) hGX 1 (kX2_stateBehindItem hT hc206) gX2_stateBehind_X2_stateBehindItem rfl hdX2_stateBehindItem ⟨by decide, by decide⟩ 3 rfl (by decide) ho206_2 rfl (Nat.le_of_ble_eq_true rfl) dX2_stateBehind_206 rfl rfl ⟨by decide, by decide⟩ ?_
                    exact hret _ _ _ _ _ _ (by decide) (by decide) dX2_stateBehind_209 (hro _ _ (Option.some.inj h).symm)
                  · rw [if_neg hc8] at h
                    by_cases hc9 : (sI S 30 v0) = (9 : Int32)
                    · rw [if_pos hc9] at h
                      refine jw_tableIn (tgt := 178) (off := 174) hX 9 dX2_stateBehind_4 hc9 (by decide) (by decide) (by decide) (by decide) ?_
                      refine jw_iload_n hX dX2_stateBehind_178 rfl 1 rfl ?_
                      refine jw_bipush (v := (32 : Int32)) hX dX2_stateBehind_179 (by decide) ?_
                      refine jw_icmp_eq (tgt := 190) hX dX2_stateBehind_181 (by decide) (fun hc => ?_) (fun hc => ?_)
                      · rw [if_pos hc] at h
                        refine jw_aload_n hX dX2_stateBehind_190 rfl 0 rfl ?_
                        refine jw_iload_n hX dX2_stateBehind_191 rfl 1 rfl ?_
                        obtain ⟨ho192_2, h⟩ := chk_some h
                        obtain ⟨r192, w192, hc192, h⟩ := b2_some h
                        refine jw_pVi (As := [.int v1]) hX (GP_ok gs) hGX 1 (kX2_stateBehindItem hT hc192) gX2_stateBehind_X2_stateBehindItem rfl hdX2_stateBehindItem ⟨by decide, by decide⟩ 3 rfl (by decide) ho192_2 rfl (Nat.le_of_ble_eq_true rfl) dX2_stateBehind_192 rfl rfl ⟨by decide, by decide⟩ ?_
                        refine jw_goto (tgt := 203) hX dX2_stateBehind_195 (by decide) ?_
                        exact hret _ _ _ _ _ _ (by decide) (by decide) dX2_stateBehind_203 (hro _ _ (Option.some.inj h).symm)
                      · rw [if_neg hc] at h
                        refine jw_iload_n hX dX2_stateBehind_184 rfl 1 rfl ?_
                        refine jw_bipush (v := (41 : Int32)) hX dX2_stateBehind_185 (by decide) ?_
                        refine jw_icmp_ne (tgt := 198) hX dX2_stateBehind_187 (by decide) (fun hc => ?_) (fun hc => ?_)
                        · rw [if_neg hc] at h
                          refine jw_aload_n hX dX2_stateBehind_198 rfl 0 rfl ?_
                          refine jw_iload_n hX dX2_stateBehind_199 rfl 1 rfl ?_
                          obtain ⟨ho200_2, h⟩ := chk_some h
                          obtain ⟨r200, w200, hc200, h⟩ := b2_some h
                          refine jw_pVi (As := [.int v1]) hX (GP_ok gs) hGX 1 (kX2_stateBehindStart hT hc200) gX2_stateBehind_X2_stateBehindStart rfl hdX2_stateBehindStart ⟨by decide, by decide⟩ 3 rfl (by decide) ho200_2 rfl (Nat.le_of_ble_eq_true rfl) dX2_stateBehind_200 rfl rfl ⟨by decide, by decide⟩ ?_
                          exact hret _ _ _ _ _ _ (by decide) (by decide) dX2_stateBehind_203 (hro _ _ (Option.some.inj h).symm)
                        · rw [if_pos hc] at h
                          refine jw_aload_n hX dX2_stateBehind_190 rfl 0 rfl ?_
                          refine jw_iload_n hX dX2_stateBehind_191 rfl 1 rfl ?_
                          obtain ⟨ho192_2, h⟩ := chk_some h
                          obtain ⟨r192, w192, hc192, h⟩ := b2_some h
                          refine jw_pVi (As := [.int v1]) hX (GP_ok gs) hGX 1 (kX2_stateBehindItem hT hc192) gX2_stateBehind_X2_stateBehindItem rfl hdX2_stateBehindItem ⟨by decide, by decide⟩ 3 rfl (by decide) ho192_2 rfl (Nat.le_of_ble_eq_true rfl) dX2_stateBehind_192 rfl rfl ⟨by decide, by decide⟩ ?_
                          refine jw_goto (tgt := 203) hX dX2_stateBehind_195 (by decide) ?_
                          exact hret _ _ _ _ _ _ (by decide) (by decide) dX2_stateBehind_203 (hro _ _ (Option.some.inj h).symm)
                    · rw [if_neg hc9] at h
                      refine jw_tableOut (tgt := 204) (hi := 9) hX (by decide) dX2_stateBehind_4 (fun j hj e9 => ?_) (by decide) ?_
                      · match j, hj, e9 with
                        | 0, _, e9 => exact hc0 e9
                        | 1, _, e9 => exact hc1 e9
                        | 2, _, e9 => exact hc2 e9
                        | 3, _, e9 => exact hc3 e9
                        | 4, _, e9 => exact hc4 e9
                        | 5, _, e9 => exact hc5 e9
                        | 6, _, e9 => exact hc6 e9
                        | 7, _, e9 => exact hc7 e9
                        | 8, _, e9 => exact hc8 e9
                        | 9, _, e9 => exact hc9 e9
                        | j + 10, hj, _ => exact absurd hj (by omega)
                      · refine jw_aload_n hX dX2_stateBehind_204 rfl 0 rfl ?_
                        refine jw_iload_n hX dX2_stateBehind_205 rfl 1 rfl ?_
                        obtain ⟨ho206_2, h⟩ := chk_some h
                        obtain ⟨r206, w206, hc206, h⟩ := b2_some h
                        refine jw_pVi (As := [.int v1]) hX (GP_ok gs) hGX 1 (kX2_stateBehindItem hT hc206) gX2_stateBehind_X2_stateBehindItem rfl hdX2_stateBehindItem ⟨by decide, by decide⟩ 3 rfl (by decide) ho206_2 rfl (Nat.le_of_ble_eq_true rfl) dX2_stateBehind_206 rfl rfl ⟨by decide, by decide⟩ ?_
                        exact hret _ _ _ _ _ _ (by decide) (by decide) dX2_stateBehind_209 (hro _ _ (Option.some.inj h).symm)
set_option maxRecDepth 100000 in
set_option maxHeartbeats 4000000 in
theorem kX2_stateBehind {l : Launch} {D : va_G} {tys : List (ClassId × FieldType)} {cI cZ cO cJ : ClassId} {gs : JP} {S : PS} {v0 : Nat} {v1 : Int32} {r : Int32} {w1 : PS} (hT : tys = jTy cI cZ cO cJ) (h : fX2_stateBehind S v0 v1 = some (r, w1)) : CC l (GP gs) D tys yX2_stateBehind wsX2_stateBehind rmX2_stateBehind [.ref v0, .int v1] (pW cI cO S) (fun ov w2 => ov = some (.int r) ∧ w2 = (pW cI cO w1)) := by
  refine CC_of (cc := cX2_stateBehind) (maxL := 2) (ret := (some .int)) (by decide) rfl (Nat.le_of_ble_eq_true rfl) ?_
  intro X hD hL hT0 hGX hX rI rZ rV rA
  exact sX2_stateBehind (post := fun ov w2 => ov = some (.int r) ∧ w2 = (pW cI cO w1)) hX (hT0.trans hT) hGX (fun cells slots w9 pc lv v => rI cells slots w9 pc lv v rfl) (o := (r, w1)) (fun v9 w9 e9 => by cases e9; exact ⟨rfl, rfl⟩) h
/-! X2_faultOf -/
abbrev rmX2_faultOf : Room := { frames := 3, cells := 0, slots := 0, locals := 62 }
theorem hdX2_faultOf : yX2_faultOf.cls = RX2 ∧ yX2_faultOf.cls ≠ "java/lang/invoke/MethodHandle" ∧ yX2_faultOf.cls ≠ "java/lang/invoke/VarHandle" ∧ (parseMethodDescriptor yX2_faultOf.desc).map (fun d => d.parameters.length) = some 1 := by decide +kernel
theorem lkX2_faultOf_11 : Cond.fieldLink RX2 11 RX2 (TX2 0).2.1 (TX2 0).2.2.1 ∈ wsX2_faultOf := by decide +kernel
theorem inX2_faultOf_3 : ∀ w ∈ wsX20, w ∈ wsX2_faultOf := fun _ h => List.mem_cons_of_mem _ (List.mem_append_left _ (List.mem_append_right _ h))
theorem lkX2_faultOf_15 : Cond.fieldLink RX2 15 RX2 (TX2 1).2.1 (TX2 1).2.2.1 ∈ wsX2_faultOf := by decide +kernel
def fX2_faultOf_L12 (n : Nat) : Nat → PS → Nat → Nat → Int32 → Option ((Int32 × PS) ⊕ (PS))
  | 0, _, _, _, _ => none
  | k + 1, S, v0, v1, v2 => chk (okP S v1 5) (bP (fX4_size S v1) (fun r14 => (if r14 ≤ v2 then some (Sum.inr (S)) else chk (okP S v1 5) (bP (fX4_at S v1 v2) (fun r24 => chk (okP S v0 3) (b2 (fX2_stateBehind S v0 r24) (fun r27 w27 => chk (okP w27 v0 3) (bnd (pI w27 30 v0 r27) (fun w30 => chk (okP w30 v0 3) ((if (sI w30 30 v0) = (-1 : Int32) then some (Sum.inl (v2, w30)) else fX2_faultOf_L12 n k w30 v0 v1 (v2 + (1 : Int32)))))))))))))
def fX2_faultOf (n : Nat) (S : PS) (v0 : Nat) (v1 : Nat) : Option (Int32 × PS) := chk (okP S v0 3) (bnd (pI S 30 v0 (0 : Int32)) (fun w2 => chk (okP w2 v0 3) (bnd (pI w2 31 v0 (0 : Int32)) (fun w7 => bS1 (fX2_faultOf_L12 n n w7 v0 v1 (0 : Int32)) (fun rr => some rr) (fun wx12 => chk (okP wx12 v0 3) ((if (sI wx12 30 v0) < (4 : Int32) then chk (okP wx12 v1 5) (bP (fX4_size wx12 v1) (fun r69 => some (r69, wx12))) else chk (okP wx12 v0 3) ((if (sI wx12 31 v0) = 0 then some ((-1 : Int32), wx12) else chk (okP wx12 v1 5) (bP (fX4_size wx12 v1) (fun r69 => some (r69, wx12))))))))))))
set_option maxRecDepth 100000 in
set_option maxHeartbeats 4000000 in
theorem sX2_faultOf_L12 {X : JX} {cI cZ cO cJ : ClassId} {gs : JP} {n : Nat} {post : Option Value → va_W → Prop} (hX : jOK X cX2_faultOf 3 wsX2_faultOf RX2 rmX2_faultOf) (hT : jT X = jTy cI cZ cO cJ) (hGX : jG X (GP gs)) (hret : jRI X cX2_faultOf rmX2_faultOf post) {o : ((Int32 × PS) ⊕ (PS))} {v0 : Nat} {v1 : Nat} (hex : ∀ (w9 : PS), o = .inr w9 → JW X 0 0 (pW cI cO w9) 49 [(0, .ref v0), (1, .ref v1)] []) (hro : ∀ (v9 : Int32) (w9 : PS), o = .inl (v9, w9) → post (some (.int v9)) (pW cI cO w9)) : ∀ (k : Nat) (S : PS) (v2 : Int32), fX2_faultOf_L12 n k S v0 v1 v2 = some o → JW X 0 0 (pW cI cO S) 12 [(0, .ref v0), (1, .ref v1), (2, .int v2)] [] := by
  intro k
  induction k with
  | zero => intro S v2 h; cases h
  | succ k hrec0 =>
    intro S v2 h
    unfold fX2_faultOf_L12 at h
    refine jw_iload_n hX dX2_faultOf_12 rfl 2 rfl ?_
    refine jw_aload_n hX dX2_faultOf_13 rfl 1 rfl ?_
    obtain ⟨ho14_2, h⟩ := chk_some h
    obtain ⟨r14, hc14, h⟩ := bP_some h
    refine jw_pVi (As := []) hX (GP_ok gs) hGX 0 (kX4_size hT hc14) gX2_faultOf_X4_size rfl hdX4_size ⟨by decide, by decide⟩ 5 rfl (by decide) ho14_2 rfl (Nat.le_of_ble_eq_true rfl) dX2_faultOf_14 rfl rfl ⟨by decide, by decide⟩ ?_
    refine jw_icmp_ge (tgt := 49) hX dX2_faultOf_17 (by decide) (fun hc => ?_) (fun hc => ?_)
    · rw [if_pos hc] at h
      refine jw_sub [0, 1] [(0, .ref v0), (1, .ref v1)] rfl ?_
      exact hex _ (Option.some.inj h).symm
    · rw [if_neg hc] at h
      refine jw_aload_n hX dX2_faultOf_20 rfl 0 rfl ?_
      refine jw_aload_n hX dX2_faultOf_21 rfl 0 rfl ?_
      refine jw_aload_n hX dX2_faultOf_22 rfl 1 rfl ?_
      refine jw_iload_n hX dX2_faultOf_23 rfl 2 rfl ?_
      obtain ⟨ho24_4, h⟩ := chk_some h
      obtain ⟨r24, hc24, h⟩ := bP_some h
      refine jw_pVi (As := [.int v2]) hX (GP_ok gs) hGX 1 (kX4_at hT hc24) gX2_faultOf_X4_at rfl hdX4_at ⟨by decide, by decide⟩ 5 rfl (by decide) ho24_4 rfl (Nat.le_of_ble_eq_true rfl) dX2_faultOf_24 rfl rfl ⟨by decide, by decide⟩ ?_
      obtain ⟨ho27_7, h⟩ := chk_some h
      obtain ⟨r27, w27, hc27, h⟩ := b2_some h
      refine jw_pVi (As := [.int r24]) hX (GP_ok gs) hGX 1 (kX2_stateBehind hT hc27) gX2_faultOf_X2_stateBehind rfl hdX2_stateBehind ⟨by decide, by decide⟩ 3 rfl (by decide) ho27_7 rfl (Nat.le_of_ble_eq_true rfl) dX2_faultOf_27 rfl rfl ⟨by decide, by decide⟩ ?_
      obtain ⟨ho30_10, h⟩ := chk_some h
      refine jw_pputI hX hT 3 0 rfl (by decide) (by decide) rfl inX2_faultOf_3 rfl lkX2_faultOf_11 tyX2 tyX2_ok nmX2 rfl (by decide +kernel) ho30_10 dX2_faultOf_30 (fun w30 e30 => ?_)
      replace h := bnd_some h w30 e30
      clear e30
      refine jw_aload_n hX dX2_faultOf_33 rfl 0 rfl ?_
      obtain ⟨ho34_15, h⟩ := chk_some h
      refine jw_pgetI hX hT 3 0 rfl (by decide) (by decide) rfl inX2_faultOf_3 rfl lkX2_faultOf_11 ho34_15 dX2_faultOf_34 ?_
      refine jw_iconst (v := (-1 : Int32)) hX dX2_faultOf_37 (by decide) ?_
      refine jw_icmp_ne (tgt := 43) hX dX2_faultOf_38 (by decide) (fun hc => ?_) (fun hc => ?_)
      · rw [if_neg hc] at h
        refine jw_iinc (v := (v2 + (1 : Int32))) hX [(2, .int (v2 + (1 : Int32))), (0, .ref v0), (1, .ref v1)] dX2_faultOf_43 2 rfl (by first | rfl | (congr 1; decide)) (by decide) rfl ?_
        refine jw_goto (tgt := 12) hX dX2_faultOf_46 (by decide) ?_
        refine jw_sub [1, 2, 0] [(0, .ref v0), (1, .ref v1), (2, .int (v2 + (1 : Int32)))] rfl ?_
        exact hrec0 _ _ h
      · rw [if_pos hc] at h
        refine jw_iload_n hX dX2_faultOf_41 rfl 2 rfl ?_
        exact hret _ _ _ _ _ _ (by decide) (by decide) dX2_faultOf_42 (hro _ _ (Option.some.inj h).symm)
set_option maxRecDepth 100000 in
set_option maxHeartbeats 4000000 in
theorem sX2_faultOf {X : JX} {cI cZ cO cJ : ClassId} {gs : JP} {n : Nat} {post : Option Value → va_W → Prop} (hX : jOK X cX2_faultOf 3 wsX2_faultOf RX2 rmX2_faultOf) (hT : jT X = jTy cI cZ cO cJ) (hGX : jG X (GP gs)) (hret : jRI X cX2_faultOf rmX2_faultOf post) {o : (Int32 × PS)} (hro : ∀ (v9 : Int32) (w9 : PS), o = (v9, w9) → post (some (.int v9)) (pW cI cO w9))  {S : PS} {v0 : Nat} {v1 : Nat} (h : fX2_faultOf n S v0 v1 = some o) : JW X 0 0 (pW cI cO S) 0 [(0, .ref v0), (1, .ref v1)] [] := by
  unfold fX2_faultOf at h
  refine jw_aload_n hX dX2_faultOf_0 rfl 0 rfl ?_
  refine jw_iconst (v := (0 : Int32)) hX dX2_faultOf_1 (by decide) ?_
  obtain ⟨ho2_2, h⟩ := chk_some h
  refine jw_pputI hX hT 3 0 rfl (by decide) (by decide) rfl inX2_faultOf_3 rfl lkX2_faultOf_11 tyX2 tyX2_ok nmX2 rfl (by decide +kernel) ho2_2 dX2_faultOf_2 (fun w2 e2 => ?_)
  replace h := bnd_some h w2 e2
  clear e2
  refine jw_aload_n hX dX2_faultOf_5 rfl 0 rfl ?_
  refine jw_iconst (v := (0 : Int32)) hX dX2_faultOf_6 (by decide) ?_
  obtain ⟨ho7_8, h⟩ := chk_some h
  refine jw_pputI hX hT 3 1 rfl (by decide) (by decide) rfl inX2_faultOf_3 rfl lkX2_faultOf_15 tyX2 tyX2_ok nmX2 rfl (by decide +kernel) ho7_8 dX2_faultOf_7 (fun w7 e7 => ?_)
  replace h := bnd_some h w7 e7
  clear e7
  refine jw_iconst (v := (0 : Int32)) hX dX2_faultOf_10 (by decide) ?_
  refine jw_istore_n hX [(2, .int (0 : Int32)), (0, .ref v0), (1, .ref v1)] dX2_faultOf_11 rfl (by decide) rfl ?_
  refine jw_sub [1, 2, 0] [(0, .ref v0), (1, .ref v1), (2, .int (0 : Int32))] rfl ?_
  rcases bS1_some h with ⟨rr, hl12, h⟩ | ⟨wx12, hl12, h⟩
  · refine sX2_faultOf_L12 hX hT hGX hret (o := .inl rr) (fun q0 e9 => nomatch e9) (fun v9 w9 e9 => ?_) n _ _ hl12
    cases e9
    exact hro _ _ (Option.some.inj h).symm
  · refine sX2_faultOf_L12 hX hT hGX hret (o := .inr wx12) (fun q0 e9 => ?_) (fun v9 w9 e9 => nomatch e9) n _ _ hl12
    cases e9
    refine jw_aload_n hX dX2_faultOf_49 rfl 0 rfl ?_
    obtain ⟨ho50_1, h⟩ := chk_some h
    refine jw_pgetI hX hT 3 0 rfl (by decide) (by decide) rfl inX2_faultOf_3 rfl lkX2_faultOf_11 ho50_1 dX2_faultOf_50 ?_
    refine jw_iconst (v := (4 : Int32)) hX dX2_faultOf_53 (by decide) ?_
    refine jw_icmp_lt (tgt := 68) hX dX2_faultOf_54 (by decide) (fun hc => ?_) (fun hc => ?_)
    · rw [if_pos hc] at h
      refine jw_aload_n hX dX2_faultOf_68 rfl 1 rfl ?_
      obtain ⟨ho69_1, h⟩ := chk_some h
      obtain ⟨r69, hc69, h⟩ := bP_some h
      refine jw_pVi (As := []) hX (GP_ok gs) hGX 0 (kX4_size hT hc69) gX2_faultOf_X4_size rfl hdX4_size ⟨by decide, by decide⟩ 5 rfl (by decide) ho69_1 rfl (Nat.le_of_ble_eq_true rfl) dX2_faultOf_69 rfl rfl ⟨by decide, by decide⟩ ?_
      exact hret _ _ _ _ _ _ (by decide) (by decide) dX2_faultOf_72 (hro _ _ (Option.some.inj h).symm)
    · rw [if_neg hc] at h
      refine jw_aload_n hX dX2_faultOf_57 rfl 0 rfl ?_
      obtain ⟨ho58_1, h⟩ := chk_some h
      refine jw_pgetI hX hT 3 1 rfl (by decide) (by decide) rfl inX2_faultOf_3 rfl lkX2_faultOf_15 ho58_1 dX2_faultOf_58 ?_
      refine jw_if_ne (tgt := 68) hX dX2_faultOf_61 (by decide) (fun hc => ?_) (fun hc => ?_)
      · rw [if_neg hc] at h
        refine jw_aload_n hX dX2_faultOf_68 rfl 1 rfl ?_
        obtain ⟨ho69_1, h⟩ := chk_some h
        obtain ⟨r69, hc69, h⟩ := bP_some h
        refine jw_pVi (As := []) hX (GP_ok gs) hGX 0 (kX4_size hT hc69) gX2_faultOf_X4_size rfl hdX4_size ⟨by decide, by decide⟩ 5 rfl (by decide) ho69_1 rfl (Nat.le_of_ble_eq_true rfl) dX2_faultOf_69 rfl rfl ⟨by decide, by decide⟩ ?_
        exact hret _ _ _ _ _ _ (by decide) (by decide) dX2_faultOf_72 (hro _ _ (Option.some.inj h).symm)
      · rw [if_pos hc] at h
        refine jw_iconst (v := (-1 : Int32)) hX dX2_faultOf_64 (by decide) ?_
        refine jw_goto (tgt := 72) hX dX2_faultOf_65 (by decide) ?_
        exact hret _ _ _ _ _ _ (by decide) (by decide) dX2_faultOf_72 (hro _ _ (Option.some.inj h).symm)
set_option maxRecDepth 100000 in
set_option maxHeartbeats 4000000 in
theorem kX2_faultOf {l : Launch} {D : va_G} {tys : List (ClassId × FieldType)} {cI cZ cO cJ : ClassId} {gs : JP} {n : Nat} {S : PS} {v0 : Nat} {v1 : Nat} {r : Int32} {w1 : PS} (hT : tys = jTy cI cZ cO cJ) (h : fX2_faultOf n S v0 v1 = some (r, w1)) : CC l (GP gs) D tys yX2_faultOf wsX2_faultOf rmX2_faultOf [.ref v0, .ref v1] (pW cI cO S) (fun ov w2 => ov = some (.int r) ∧ w2 = (pW cI cO w1)) := by
  refine CC_of (cc := cX2_faultOf) (maxL := 3) (ret := (some .int)) (by decide) rfl (Nat.le_of_ble_eq_true rfl) ?_
  intro X hD hL hT0 hGX hX rI rZ rV rA
  exact sX2_faultOf (post := fun ov w2 => ov = some (.int r) ∧ w2 = (pW cI cO w1)) hX (hT0.trans hT) hGX (fun cells slots w9 pc lv v => rI cells slots w9 pc lv v rfl) (o := (r, w1)) (fun v9 w9 e9 => by cases e9; exact ⟨rfl, rfl⟩) h
/-! X3_doubtsAlone -/
abbrev rmX3_doubtsAlone : Room := { frames := 1, cells := 0, slots := 0, locals := 22 }
theorem hdX3_doubtsAlone : yX3_doubtsAlone.cls = RX3 ∧ yX3_doubtsAlone.cls ≠ "java/lang/invoke/MethodHandle" ∧ yX3_doubtsAlone.cls ≠ "java/lang/invoke/VarHandle" ∧ (parseMethodDescriptor yX3_doubtsAlone.desc).map (fun d => d.parameters.length) = some 1 := by decide +kernel
theorem lkX3_doubtsAlone_9 : Cond.fieldLink RX3 9 RX3 (TX3 0).2.1 (TX3 0).2.2.1 ∈ wsX3_doubtsAlone := by decide +kernel
theorem inX3_doubtsAlone_4 : ∀ w ∈ wsX30, w ∈ wsX3_doubtsAlone := fun _ h => List.mem_cons_of_mem _ (List.mem_append_left _ (List.mem_append_right _ h))
theorem lkX3_doubtsAlone_15 : Cond.fieldLink RX3 15 RX3 (TX3 1).2.1 (TX3 1).2.2.1 ∈ wsX3_doubtsAlone := by decide +kernel
theorem mtX3_doubtsAlone_abs : Cond.methodLink RX3 34 Lib.Math.abs.name ∈ wsX3_doubtsAlone ∧ Cond.static Lib.Math.abs.name ∈ wsX3_doubtsAlone ∧ Cond.initialized "java/lang/Math" ∈ wsX3_doubtsAlone ∧ Cond.code Lib.Math.abs.name Lib.Math.abs.code 1 (some .int) ∈ wsX3_doubtsAlone := by decide +kernel
theorem lkX3_doubtsAlone_21 : Cond.fieldLink RX3 21 RX3 (TX3 3).2.1 (TX3 3).2.2.1 ∈ wsX3_doubtsAlone := by decide +kernel
theorem lkX3_doubtsAlone_18 : Cond.fieldLink RX3 18 RX3 (TX3 2).2.1 (TX3 2).2.2.1 ∈ wsX3_doubtsAlone := by decide +kernel
def fX3_doubtsAlone (n : Nat) (S : PS) (v0 : Nat) (v1 : Nat) : Option Int32 := chk (okP S v0 4) ((if (sI S 40 v0) = (0 : Int32) then chk (okP S v1 2) (bP (fX1_allAmounts n S v1) (fun r33 => (if r33 = 0 then chk (b01 (0 : Int32)) (some (0 : Int32)) else chk (b01 (1 : Int32)) (some (1 : Int32))))) else (if (sI S 40 v0) = (1 : Int32) then chk (okP S v0 4) (chk (okP S v1 2) (bP (fX1_amountOf S v1 (sI S 41 v0)) (fun r50 => chk (okP S v0 4) ((if (if 0 ≤ r50 then r50 else 0 - r50) ≤ (sI S 43 v0) then chk (b01 (0 : Int32)) (some (0 : Int32)) else chk (b01 (1 : Int32)) (some (1 : Int32))))))) else (if (sI S 40 v0) = (2 : Int32) then chk (okP S v0 4) (chk (okP S v1 2) (bP (fX1_has S v1 (sI S 41 v0)) (fun r74 => (if r74 = 0 then chk (b01 (0 : Int32)) (some (0 : Int32)) else chk (okP S v0 4) (chk (okP S v1 2) (bP (fX1_has S v1 (sI S 42 v0)) (fun r85 => (if r85 = 0 then chk (b01 (1 : Int32)) (some (1 : Int32)) else chk (b01 (0 : Int32)) (some (0 : Int32)))))))))) else chk (b01 (0 : Int32)) (some (0 : Int32))))))
set_option maxRecDepth 100000 in
set_option maxHeartbeats 4000000 in
theorem sX3_doubtsAlone {X : JX} {cI cZ cO cJ : ClassId} {gs : JP} {n : Nat} {S : PS} {post : Option Value → va_W → Prop} (hX : jOK X cX3_doubtsAlone 2 wsX3_doubtsAlone RX3 rmX3_doubtsAlone) (hT : jT X = jTy cI cZ cO cJ) (hGX : jG X (GP gs)) (hret : jRZ X cX3_doubtsAlone rmX3_doubtsAlone post) {o : Int32} (hro : ∀ (v9 : Int32), o = v9 → post (some (.int v9)) (pW cI cO S))  {v0 : Nat} {v1 : Nat} (h : fX3_doubtsAlone n S v0 v1 = some o) : JW X 0 0 (pW cI cO S) 0 [(0, .ref v0), (1, .ref v1)] [] := by
  unfold fX3_doubtsAlone at h
  refine jw_aload_n hX dX3_doubtsAlone_0 rfl 0 rfl ?_
  obtain ⟨ho1_1, h⟩ := chk_some h
  refine jw_pgetI hX hT 4 0 rfl (by decide) (by decide) rfl inX3_doubtsAlone_4 rfl lkX3_doubtsAlone_9 ho1_1 dX3_doubtsAlone_1 ?_
  by_cases hc0 : (sI S 40 v0) = (0 : Int32)
  · rw [if_pos hc0] at h
    refine jw_tableIn (tgt := 32) (off := 28) hX 0 dX3_doubtsAlone_4 hc0 (by decide) (by decide) (by decide) (by decide) ?_
    refine jw_aload_n hX dX3_doubtsAlone_32 rfl 1 rfl ?_
    obtain ⟨ho33_1, h⟩ := chk_some h
    obtain ⟨r33, hc33, h⟩ := bP_some h
    refine jw_pVi (As := []) hX (GP_ok gs) hGX 0 (kX1_allAmounts hT hc33) gX3_doubtsAlone_X1_allAmounts rfl hdX1_allAmounts ⟨by decide, by decide⟩ 2 rfl (by decide) ho33_1 rfl (Nat.le_of_ble_eq_true rfl) dX3_doubtsAlone_33 rfl rfl ⟨by decide, by decide⟩ ?_
    refine jw_if_eq (tgt := 43) hX dX3_doubtsAlone_36 (by decide) (fun hc => ?_) (fun hc => ?_)
    · rw [if_pos hc] at h
      refine jw_iconst (v := (0 : Int32)) hX dX3_doubtsAlone_43 (by decide) ?_
      obtain ⟨hz44, h⟩ := chk_some h
      exact hret _ _ _ _ _ _ (b01_or hz44) (by decide) (by decide) dX3_doubtsAlone_44 (hro _ (Option.some.inj h).symm)
    · rw [if_neg hc] at h
      refine jw_iconst (v := (1 : Int32)) hX dX3_doubtsAlone_39 (by decide) ?_
      refine jw_goto (tgt := 44) hX dX3_doubtsAlone_40 (by decide) ?_
      obtain ⟨hz44, h⟩ := chk_some h
      exact hret _ _ _ _ _ _ (b01_or hz44) (by decide) (by decide) dX3_doubtsAlone_44 (hro _ (Option.some.inj h).symm)
  · rw [if_neg hc0] at h
    by_cases hc1 : (sI S 40 v0) = (1 : Int32)
    · rw [if_pos hc1] at h
      refine jw_tableIn (tgt := 45) (off := 41) hX 1 dX3_doubtsAlone_4 hc1 (by decide) (by decide) (by decide) (by decide) ?_
      refine jw_aload_n hX dX3_doubtsAlone_45 rfl 1 rfl ?_
      refine jw_aload_n hX dX3_doubtsAlone_46 rfl 0 rfl ?_
      obtain ⟨ho47_2, h⟩ := chk_some h
      refine jw_pgetI hX hT 4 1 rfl (by decide) (by decide) rfl inX3_doubtsAlone_4 rfl lkX3_doubtsAlone_15 ho47_2 dX3_doubtsAlone_47 ?_
      obtain ⟨ho50_4, h⟩ := chk_some h
      obtain ⟨r50, hc50, h⟩ := bP_some h
      refine jw_pVi (As := [.int (sI S 41 v0)]) hX (GP_ok gs) hGX 1 (kX1_amountOf hT hc50) gX3_doubtsAlone_X1_amountOf rfl hdX1_amountOf ⟨by decide, by decide⟩ 2 rfl (by decide) ho50_4 rfl (Nat.le_of_ble_eq_true rfl) dX3_doubtsAlone_50 rfl rfl ⟨by decide, by decide⟩ ?_
      refine jw_pabs (S := S) hX hT mtX3_doubtsAlone_abs.1 mtX3_doubtsAlone_abs.2.1 mtX3_doubtsAlone_abs.2.2.1 mtX3_doubtsAlone_abs.2.2.2 (by decide) (Nat.le_of_ble_eq_true rfl) ⟨by decide, by decide⟩ dX3_doubtsAlone_53 ?_
      refine jw_aload_n hX dX3_doubtsAlone_56 rfl 0 rfl ?_
      obtain ⟨ho57_9, h⟩ := chk_some h
      refine jw_pgetI hX hT 4 3 rfl (by decide) (by decide) rfl inX3_doubtsAlone_4 rfl lkX3_doubtsAlone_21 ho57_9 dX3_doubtsAlone_57 ?_
      refine jw_icmp_le (tgt := 67) hX dX3_doubtsAlone_60 (by decide) (fun hc => ?_) (fun hc => ?_)
      · rw [if_pos hc] at h
        refine jw_iconst (v := (0 : Int32)) hX dX3_doubtsAlone_67 (by decide) ?_
        obtain ⟨hz68, h⟩ := chk_some h
        exact hret _ _ _ _ _ _ (b01_or hz68) (by decide) (by decide) dX3_doubtsAlone_68 (hro _ (Option.some.inj h).symm)
      · rw [if_neg hc] at h
        refine jw_iconst (v := (1 : Int32)) hX dX3_doubtsAlone_63 (by decide) ?_
        refine jw_goto (tgt := 68) hX dX3_doubtsAlone_64 (by decide) ?_
        obtain ⟨hz68, h⟩ := chk_some h
        exact hret _ _ _ _ _ _ (b01_or hz68) (by decide) (by decide) dX3_doubtsAlone_68 (hro _ (Option.some.inj h).symm)
    · rw [if_neg hc1] at h
      by_cases hc2 : (sI S 40 v0) = (2 : Int32)
      · rw [if_pos hc2] at h
        refine jw_tableIn (tgt := 69) (off := 65) hX 2 dX3_doubtsAlone_4 hc2 (by decide) (by decide) (by decide) (by decide) ?_
        refine jw_aload_n hX dX3_doubtsAlone_69 rfl 1 rfl ?_
        refine jw_aload_n hX dX3_doubtsAlone_70 rfl 0 rfl ?_
        obtain ⟨ho71_2, h⟩ := chk_some h
        refine jw_pgetI hX hT 4 1 rfl (by decide) (by decide) rfl inX3_doubtsAlone_4 rfl lkX3_doubtsAlone_15 ho71_2 dX3_doubtsAlone_71 ?_
        obtain ⟨ho74_4, h⟩ := chk_some h
        obtain ⟨r74, hc74, h⟩ := bP_some h
        refine jw_pVi (As := [.int (sI S 41 v0)]) hX (GP_ok gs) hGX 1 (kX1_has hT hc74) gX3_doubtsAlone_X1_has rfl hdX1_has ⟨by decide, by decide⟩ 2 rfl (by decide) ho74_4 rfl (Nat.le_of_ble_eq_true rfl) dX3_doubtsAlone_74 rfl rfl ⟨by decide, by decide⟩ ?_
        refine jw_if_eq (tgt := 95) hX dX3_doubtsAlone_77 (by decide) (fun hc => ?_) (fun hc => ?_)
        · rw [if_pos hc] at h
          refine jw_iconst (v := (0 : Int32)) hX dX3_doubtsAlone_95 (by decide) ?_
          obtain ⟨hz96, h⟩ := chk_some h
          exact hret _ _ _ _ _ _ (b01_or hz96) (by decide) (by decide) dX3_doubtsAlone_96 (hro _ (Option.some.inj h).symm)
        · rw [if_neg hc] at h
          refine jw_aload_n hX dX3_doubtsAlone_80 rfl 1 rfl ?_
          refine jw_aload_n hX dX3_doubtsAlone_81 rfl 0 rfl ?_
          obtain ⟨ho82_2, h⟩ := chk_some h
          refine jw_pgetI hX hT 4 2 rfl (by decide) (by decide) rfl inX3_doubtsAlone_4 rfl lkX3_doubtsAlone_18 ho82_2 dX3_doubtsAlone_82 ?_
          obtain ⟨ho85_4, h⟩ := chk_some h
          obtain ⟨r85, hc85, h⟩ := bP_some h
          refine jw_pVi (As := [.int (sI S 42 v0)]) hX (GP_ok gs) hGX 1 (kX1_has hT hc85) gX3_doubtsAlone_X1_has rfl hdX1_has ⟨by decide, by decide⟩ 2 rfl (by decide) ho85_4 rfl (Nat.le_of_ble_eq_true rfl) dX3_doubtsAlone_85 rfl rfl ⟨by decide, by decide⟩ ?_
          refine jw_if_ne (tgt := 95) hX dX3_doubtsAlone_88 (by decide) (fun hc => ?_) (fun hc => ?_)
          · rw [if_neg hc] at h
            refine jw_iconst (v := (0 : Int32)) hX dX3_doubtsAlone_95 (by decide) ?_
            obtain ⟨hz96, h⟩ := chk_some h
            exact hret _ _ _ _ _ _ (b01_or hz96) (by decide) (by decide) dX3_doubtsAlone_96 (hro _ (Option.some.inj h).symm)
          · rw [if_pos hc] at h
            refine jw_iconst (v := (1 : Int32)) hX dX3_doubtsAlone_91 (by decide) ?_
            refine jw_goto (tgt := 96) hX dX3_doubtsAlone_92 (by decide) ?_
            obtain ⟨hz96, h⟩ := chk_some h
            exact hret _ _ _ _ _ _ (b01_or hz96) (by decide) (by decide) dX3_doubtsAlone_96 (hro _ (Option.some.inj h).symm)
      · rw [if_neg hc2] at h
        refine jw_tableOut (tgt := 97) (hi := 2) hX (by decide) dX3_doubtsAlone_4 (fun j hj e9 => ?_) (by decide) ?_
        · match j, hj, e9 with
          | 0, _, e9 => exact hc0 e9
          | 1, _, e9 => exact hc1 e9
          | 2, _, e9 => exact hc2 e9
          | j + 3, hj, _ => exact absurd hj (by omega)
        · refine jw_iconst (v := (0 : Int32)) hX dX3_doubtsAlone_97 (by decide) ?_
          obtain ⟨hz98, h⟩ := chk_some h
          exact hret _ _ _ _ _ _ (b01_or hz98) (by decide) (by decide) dX3_doubtsAlone_98 (hro _ (Option.some.inj h).symm)
set_option maxRecDepth 100000 in
set_option maxHeartbeats 4000000 in
theorem kX3_doubtsAlone {l : Launch} {D : va_G} {tys : List (ClassId × FieldType)} {cI cZ cO cJ : ClassId} {gs : JP} {n : Nat} {S : PS} {v0 : Nat} {v1 : Nat} {r : Int32} (hT : tys = jTy cI cZ cO cJ) (h : fX3_doubtsAlone n S v0 v1 = some r) : CC l (GP gs) D tys yX3_doubtsAlone wsX3_doubtsAlone rmX3_doubtsAlone [.ref v0, .ref v1] (pW cI cO S) (fun ov w2 => ov = some (.int r) ∧ w2 = (pW cI cO S)) := by
  refine CC_of (cc := cX3_doubtsAlone) (maxL := 2) (ret := (some .boolean)) (by decide) rfl (Nat.le_of_ble_eq_true rfl) ?_
  intro X hD hL hT0 hGX hX rI rZ rV rA
  exact sX3_doubtsAlone (post := fun ov w2 => ov = some (.int r) ∧ w2 = (pW cI cO S)) hX (hT0.trans hT) hGX (fun cells slots w9 pc lv v => rZ cells slots w9 pc lv v rfl) (o := r) (fun v9 e9 => by cases e9; exact ⟨rfl, rfl⟩) h
/-! X4_isSameAs -/
abbrev rmX4_isSameAs : Room := { frames := 1, cells := 0, slots := 0, locals := 21 }
theorem hdX4_isSameAs : yX4_isSameAs.cls = RX4 ∧ yX4_isSameAs.cls ≠ "java/lang/invoke/MethodHandle" ∧ yX4_isSameAs.cls ≠ "java/lang/invoke/VarHandle" ∧ (parseMethodDescriptor yX4_isSameAs.desc).map (fun d => d.parameters.length) = some 1 := by decide +kernel
theorem lkX4_isSameAs_21 : Cond.fieldLink RX4 21 RX4 (TX4 1).2.1 (TX4 1).2.2.1 ∈ wsX4_isSameAs := by decide +kernel
theorem inX4_isSameAs_5 : ∀ w ∈ wsX40, w ∈ wsX4_isSameAs := fun _ h => List.mem_cons_of_mem _ (List.mem_append_right _ h)
def fX4_isSameAs_L15 (n : Nat) : Nat → PS → Nat → Nat → Int32 → Option (Int32 ⊕ Unit)
  | 0, _, _, _, _ => none
  | k + 1, S, v0, v1, v2 => chk (okP S v0 5) ((if (sI S 51 v0) ≤ v2 then some (Sum.inr ()) else chk (okP S v0 5) (bP (fX4_at S v0 v2) (fun r25 => chk (okP S v1 5) (bP (fX4_at S v1 v2) (fun r30 => (if r25 = r30 then fX4_isSameAs_L15 n k S v0 v1 (v2 + (1 : Int32)) else chk (b01 (0 : Int32)) (some (Sum.inl (0 : Int32))))))))))
def fX4_isSameAs (n : Nat) (S : PS) (v0 : Nat) (v1 : Nat) : Option Int32 := chk (okP S v0 5) (chk (okP S v1 5) (bP (fX4_size S v1) (fun r5 => (if (sI S 51 v0) = r5 then bS0 (fX4_isSameAs_L15 n n S v0 v1 (0 : Int32)) (fun rr => some rr) (fun _ => chk (b01 (1 : Int32)) (some (1 : Int32))) else chk (b01 (0 : Int32)) (some (0 : Int32))))))
set_option maxRecDepth 100000 in
set_option maxHeartbeats 4000000 in
theorem sX4_isSameAs_L15 {X : JX} {cI cZ cO cJ : ClassId} {gs : JP} {n : Nat} {S : PS} {post : Option Value → va_W → Prop} (hX : jOK X cX4_isSameAs 3 wsX4_isSameAs RX4 rmX4_isSameAs) (hT : jT X = jTy cI cZ cO cJ) (hGX : jG X (GP gs)) (hret : jRZ X cX4_isSameAs rmX4_isSameAs post) {o : (Int32 ⊕ Unit)} (hex : o = .inr () → JW X 0 0 (pW cI cO S) 44 [] []) (hro : ∀ (v9 : Int32), o = .inl v9 → post (some (.int v9)) (pW cI cO S)) : ∀ (k : Nat) (v0 : Nat) (v1 : Nat) (v2 : Int32), fX4_isSameAs_L15 n k S v0 v1 v2 = some o → JW X 0 0 (pW cI cO S) 15 [(0, .ref v0), (1, .ref v1), (2, .int v2)] [] := by
  intro k
  induction k with
  | zero => intro v0 v1 v2 h; cases h
  | succ k hrec0 =>
    intro v0 v1 v2 h
    unfold fX4_isSameAs_L15 at h
    refine jw_iload_n hX dX4_isSameAs_15 rfl 2 rfl ?_
    refine jw_aload_n hX dX4_isSameAs_16 rfl 0 rfl ?_
    obtain ⟨ho17_2, h⟩ := chk_some h
    refine jw_pgetI hX hT 5 1 rfl (by decide) (by decide) rfl inX4_isSameAs_5 rfl lkX4_isSameAs_21 ho17_2 dX4_isSameAs_17 ?_
    refine jw_icmp_ge (tgt := 44) hX dX4_isSameAs_20 (by decide) (fun hc => ?_) (fun hc => ?_)
    · rw [if_pos hc] at h
      refine jw_sub [] [] rfl ?_
      exact hex (Option.some.inj h).symm
    · rw [if_neg hc] at h
      refine jw_aload_n hX dX4_isSameAs_23 rfl 0 rfl ?_
      refine jw_iload_n hX dX4_isSameAs_24 rfl 2 rfl ?_
      obtain ⟨ho25_2, h⟩ := chk_some h
      obtain ⟨r25, hc25, h⟩ := bP_some h
      refine jw_pVi (As := [.int v2]) hX (GP_ok gs) hGX 1 (kX4_at hT hc25) gX4_isSameAs_X4_at rfl hdX4_at ⟨by decide, by decide⟩ 5 rfl (by decide) ho25_2 rfl (Nat.le_of_ble_eq_true rfl) dX4_isSameAs_25 rfl rfl ⟨by decide, by decide⟩ ?_
      refine jw_aload_n hX dX4_isSameAs_28 rfl 1 rfl ?_
      refine jw_iload_n hX dX4_isSameAs_29 rfl 2 rfl ?_
      obtain ⟨ho30_7, h⟩ := chk_some h
      obtain ⟨r30, hc30, h⟩ := bP_some h
      refine jw_pVi (As := [.int v2]) hX (GP_ok gs) hGX 1 (kX4_at hT hc30) gX4_isSameAs_X4_at rfl hdX4_at ⟨by decide, by decide⟩ 5 rfl (by decide) ho30_7 rfl (Nat.le_of_ble_eq_true rfl) dX4_isSameAs_30 rfl rfl ⟨by decide, by decide⟩ ?_
      refine jw_icmp_eq (tgt := 38) hX dX4_isSameAs_33 (by decide) (fun hc => ?_) (fun hc => ?_)
      · rw [if_pos hc] at h
        refine jw_iinc (v := (v2 + (1 : Int32))) hX [(2, .int (v2 + (1 : Int32))), (0, .ref v0), (1, .ref v1)] dX4_isSameAs_38 2 rfl (by first | rfl | (congr 1; decide)) (by decide) rfl ?_
        refine jw_goto (tgt := 15) hX dX4_isSameAs_41 (by decide) ?_
        refine jw_sub [1, 2, 0] [(0, .ref v0), (1, .ref v1), (2, .int (v2 + (1 : Int32)))] rfl ?_
        exact hrec0 _ _ _ h
      · rw [if_neg hc] at h
        refine jw_iconst (v := (0 : Int32)) hX dX4_isSameAs_36 (by decide) ?_
        obtain ⟨hz37, h⟩ := chk_some h
        exact hret _ _ _ _ _ _ (b01_or hz37) (by decide) (by decide) dX4_isSameAs_37 (hro _ (Option.some.inj h).symm)
set_option maxRecDepth 100000 in
set_option maxHeartbeats 4000000 in
theorem sX4_isSameAs {X : JX} {cI cZ cO cJ : ClassId} {gs : JP} {n : Nat} {S : PS} {post : Option Value → va_W → Prop} (hX : jOK X cX4_isSameAs 3 wsX4_isSameAs RX4 rmX4_isSameAs) (hT : jT X = jTy cI cZ cO cJ) (hGX : jG X (GP gs)) (hret : jRZ X cX4_isSameAs rmX4_isSameAs post) {o : Int32} (hro : ∀ (v9 : Int32), o = v9 → post (some (.int v9)) (pW cI cO S))  {v0 : Nat} {v1 : Nat} (h : fX4_isSameAs n S v0 v1 = some o) : JW X 0 0 (pW cI cO S) 0 [(0, .ref v0), (1, .ref v1)] [] := by
  unfold fX4_isSameAs at h
  refine jw_aload_n hX dX4_isSameAs_0 rfl 0 rfl ?_
  obtain ⟨ho1_1, h⟩ := chk_some h
  refine jw_pgetI hX hT 5 1 rfl (by decide) (by decide) rfl inX4_isSameAs_5 rfl lkX4_isSameAs_21 ho1_1 dX4_isSameAs_1 ?_
  refine jw_aload_n hX dX4_isSameAs_4 rfl 1 rfl ?_
  obtain ⟨ho5_4, h⟩ := chk_some h
  obtain ⟨r5, hc5, h⟩ := bP_some h
  refine jw_pVi (As := []) hX (GP_ok gs) hGX 0 (kX4_size hT hc5) gX4_isSameAs_X4_size rfl hdX4_size ⟨by decide, by decide⟩ 5 rfl (by decide) ho5_4 rfl (Nat.le_of_ble_eq_true rfl) dX4_isSameAs_5 rfl rfl ⟨by decide, by decide⟩ ?_
  refine jw_icmp_eq (tgt := 13) hX dX4_isSameAs_8 (by decide) (fun hc => ?_) (fun hc => ?_)
  · rw [if_pos hc] at h
    refine jw_iconst (v := (0 : Int32)) hX dX4_isSameAs_13 (by decide) ?_
    refine jw_istore_n hX [(2, .int (0 : Int32)), (0, .ref v0), (1, .ref v1)] dX4_isSameAs_14 rfl (by decide) rfl ?_
    refine jw_sub [1, 2, 0] [(0, .ref v0), (1, .ref v1), (2, .int (0 : Int32))] rfl ?_
    rcases bS0_some h with ⟨rr, hl15, h⟩ | ⟨hl15, h⟩
    · refine sX4_isSameAs_L15 hX hT hGX hret (o := .inl rr) (fun e9 => nomatch e9) (fun v9 e9 => ?_) n _ _ _ hl15
      cases e9
      exact hro _ (Option.some.inj h).symm
    · refine sX4_isSameAs_L15 hX hT hGX hret (o := .inr ()) (fun e9 => ?_) (fun v9 e9 => nomatch e9) n _ _ _ hl15
      cases e9
      refine jw_iconst (v := (1 : Int32)) hX dX4_isSameAs_44 (by decide) ?_
      obtain ⟨hz45, h⟩ := chk_some h
      exact hret _ _ _ _ _ _ (b01_or hz45) (by decide) (by decide) dX4_isSameAs_45 (hro _ (Option.some.inj h).symm)
  · rw [if_neg hc] at h
    refine jw_iconst (v := (0 : Int32)) hX dX4_isSameAs_11 (by decide) ?_
    obtain ⟨hz12, h⟩ := chk_some h
    exact hret _ _ _ _ _ _ (b01_or hz12) (by decide) (by decide) dX4_isSameAs_12 (hro _ (Option.some.inj h).symm)
set_option maxRecDepth 100000 in
set_option maxHeartbeats 4000000 in
theorem kX4_isSameAs {l : Launch} {D : va_G} {tys : List (ClassId × FieldType)} {cI cZ cO cJ : ClassId} {gs : JP} {n : Nat} {S : PS} {v0 : Nat} {v1 : Nat} {r : Int32} (hT : tys = jTy cI cZ cO cJ) (h : fX4_isSameAs n S v0 v1 = some r) : CC l (GP gs) D tys yX4_isSameAs wsX4_isSameAs rmX4_isSameAs [.ref v0, .ref v1] (pW cI cO S) (fun ov w2 => ov = some (.int r) ∧ w2 = (pW cI cO S)) := by
  refine CC_of (cc := cX4_isSameAs) (maxL := 3) (ret := (some .boolean)) (by decide) rfl (Nat.le_of_ble_eq_true rfl) ?_
  intro X hD hL hT0 hGX hX rI rZ rV rA
  exact sX4_isSameAs (post := fun ov w2 => ov = some (.int r) ∧ w2 = (pW cI cO S)) hX (hT0.trans hT) hGX (fun cells slots w9 pc lv v => rZ cells slots w9 pc lv v rfl) (o := r) (fun v9 e9 => by cases e9; exact ⟨rfl, rfl⟩) h
/-! X4_chainedTo -/
abbrev rmX4_chainedTo : Room := { frames := 1, cells := 0, slots := 0, locals := 21 }
theorem hdX4_chainedTo : yX4_chainedTo.cls = RX4 ∧ yX4_chainedTo.cls ≠ "java/lang/invoke/MethodHandle" ∧ yX4_chainedTo.cls ≠ "java/lang/invoke/VarHandle" ∧ (parseMethodDescriptor yX4_chainedTo.desc).map (fun d => d.parameters.length) = some 1 := by decide +kernel
theorem lkX4_chainedTo_21 : Cond.fieldLink RX4 21 RX4 (TX4 1).2.1 (TX4 1).2.2.1 ∈ wsX4_chainedTo := by decide +kernel
theorem inX4_chainedTo_5 : ∀ w ∈ wsX40, w ∈ wsX4_chainedTo := fun _ h => List.mem_cons_of_mem _ (List.mem_append_right _ h)
def fX4_chainedTo_L4 (n : Nat) : Nat → PS → Nat → Int32 → Int32 → Option (Int32)
  | 0, _, _, _, _ => none
  | k + 1, S, v0, v2, v3 => chk (okP S v0 5) ((if (sI S 51 v0) ≤ v3 then some v2 else chk (okP S v0 5) (bP (fX4_at S v0 v3) (fun r18 => bnd ((((31 : Int32) * v2) + r18)) (fun y22 => fX4_chainedTo_L4 n k S v0 y22 (v3 + (1 : Int32)))))))
def fX4_chainedTo (n : Nat) (S : PS) (v0 : Nat) (v1 : Int32) : Option Int32 := bL1 (fX4_chainedTo_L4 n n S v0 v1 (0 : Int32)) (fun x2_4 => some x2_4)
set_option maxRecDepth 100000 in
set_option maxHeartbeats 4000000 in
theorem sX4_chainedTo_L4 {X : JX} {cI cZ cO cJ : ClassId} {gs : JP} {n : Nat} {S : PS} {post : Option Value → va_W → Prop} (hX : jOK X cX4_chainedTo 4 wsX4_chainedTo RX4 rmX4_chainedTo) (hT : jT X = jTy cI cZ cO cJ) (hGX : jG X (GP gs)) (hret : jRI X cX4_chainedTo rmX4_chainedTo post) {o : (Int32)} (hex : ∀ (x2 : Int32), o = x2 → JW X 0 0 (pW cI cO S) 29 [(2, .int x2)] [])  : ∀ (k : Nat) (v0 : Nat) (v2 : Int32) (v3 : Int32), fX4_chainedTo_L4 n k S v0 v2 v3 = some o → JW X 0 0 (pW cI cO S) 4 [(0, .ref v0), (2, .int v2), (3, .int v3)] [] := by
  intro k
  induction k with
  | zero => intro v0 v2 v3 h; cases h
  | succ k hrec0 =>
    intro v0 v2 v3 h
    unfold fX4_chainedTo_L4 at h
    refine jw_iload_n hX dX4_chainedTo_4 rfl 2 rfl ?_
    refine jw_aload_n hX dX4_chainedTo_5 rfl 0 rfl ?_
    obtain ⟨ho6_2, h⟩ := chk_some h
    refine jw_pgetI hX hT 5 1 rfl (by decide) (by decide) rfl inX4_chainedTo_5 rfl lkX4_chainedTo_21 ho6_2 dX4_chainedTo_6 ?_
    refine jw_icmp_ge (tgt := 29) hX dX4_chainedTo_9 (by decide) (fun hc => ?_) (fun hc => ?_)
    · rw [if_pos hc] at h
      refine jw_sub [1] [(2, .int v2)] rfl ?_
      exact hex _ (Option.some.inj h).symm
    · rw [if_neg hc] at h
      refine jw_bipush (v := (31 : Int32)) hX dX4_chainedTo_12 (by decide) ?_
      refine jw_iload_n hX dX4_chainedTo_14 rfl 1 rfl ?_
      refine jw_imul hX dX4_chainedTo_15 ?_
      refine jw_aload_n hX dX4_chainedTo_16 rfl 0 rfl ?_
      refine jw_iload_n hX dX4_chainedTo_17 rfl 2 rfl ?_
      obtain ⟨ho18_5, h⟩ := chk_some h
      obtain ⟨r18, hc18, h⟩ := bP_some h
      refine jw_pVi (As := [.int v3]) hX (GP_ok gs) hGX 1 (kX4_at hT hc18) gX4_chainedTo_X4_at rfl hdX4_at ⟨by decide, by decide⟩ 5 rfl (by decide) ho18_5 rfl (Nat.le_of_ble_eq_true rfl) dX4_chainedTo_18 rfl rfl ⟨by decide, by decide⟩ ?_
      refine jw_iadd hX dX4_chainedTo_21 ?_
      refine jw_topi (fun y22 e22 => ?_)
      replace h := bnd_some h y22 e22
      clear e22
      refine jw_istore_n hX [(2, .int y22), (0, .ref v0), (3, .int v3)] dX4_chainedTo_22 rfl (by decide) rfl ?_
      refine jw_iinc (v := (v3 + (1 : Int32))) hX [(3, .int (v3 + (1 : Int32))), (2, .int y22), (0, .ref v0)] dX4_chainedTo_23 2 rfl (by first | rfl | (congr 1; decide)) (by decide) rfl ?_
      refine jw_goto (tgt := 4) hX dX4_chainedTo_26 (by decide) ?_
      refine jw_sub [2, 1, 0] [(0, .ref v0), (2, .int y22), (3, .int (v3 + (1 : Int32)))] rfl ?_
      exact hrec0 _ _ _ h
set_option maxRecDepth 100000 in
set_option maxHeartbeats 4000000 in
theorem sX4_chainedTo {X : JX} {cI cZ cO cJ : ClassId} {gs : JP} {n : Nat} {S : PS} {post : Option Value → va_W → Prop} (hX : jOK X cX4_chainedTo 4 wsX4_chainedTo RX4 rmX4_chainedTo) (hT : jT X = jTy cI cZ cO cJ) (hGX : jG X (GP gs)) (hret : jRI X cX4_chainedTo rmX4_chainedTo post) {o : Int32} (hro : ∀ (v9 : Int32), o = v9 → post (some (.int v9)) (pW cI cO S))  {v0 : Nat} {v1 : Int32} (h : fX4_chainedTo n S v0 v1 = some o) : JW X 0 0 (pW cI cO S) 0 [(0, .ref v0), (1, .int v1)] [] := by
  unfold fX4_chainedTo at h
  refine jw_iload_n hX dX4_chainedTo_0 rfl 1 rfl ?_
  refine jw_istore_n hX [(2, .int v1), (0, .ref v0), (1, .int v1)] dX4_chainedTo_1 rfl (by decide) rfl ?_
  refine jw_iconst (v := (0 : Int32)) hX dX4_chainedTo_2 (by decide) ?_
  refine jw_istore_n hX [(3, .int (0 : Int32)), (2, .int v1), (0, .ref v0), (1, .int v1)] dX4_chainedTo_3 rfl (by decide) rfl ?_
  refine jw_sub [2, 1, 0] [(0, .ref v0), (2, .int v1), (3, .int (0 : Int32))] rfl ?_
  obtain ⟨x2_4, hl4, h⟩ := bL1_some h
  refine sX4_chainedTo_L4 hX hT hGX hret (o := x2_4) (fun q0 e9 => ?_) n _ _ _ hl4
  cases e9
  refine jw_iload_n hX dX4_chainedTo_29 rfl 0 rfl ?_
  exact hret _ _ _ _ _ _ (by decide) (by decide) dX4_chainedTo_30 (hro _ (Option.some.inj h).symm)
set_option maxRecDepth 100000 in
set_option maxHeartbeats 4000000 in
theorem kX4_chainedTo {l : Launch} {D : va_G} {tys : List (ClassId × FieldType)} {cI cZ cO cJ : ClassId} {gs : JP} {n : Nat} {S : PS} {v0 : Nat} {v1 : Int32} {r : Int32} (hT : tys = jTy cI cZ cO cJ) (h : fX4_chainedTo n S v0 v1 = some r) : CC l (GP gs) D tys yX4_chainedTo wsX4_chainedTo rmX4_chainedTo [.ref v0, .int v1] (pW cI cO S) (fun ov w2 => ov = some (.int r) ∧ w2 = (pW cI cO S)) := by
  refine CC_of (cc := cX4_chainedTo) (maxL := 4) (ret := (some .int)) (by decide) rfl (Nat.le_of_ble_eq_true rfl) ?_
  intro X hD hL hT0 hGX hX rI rZ rV rA
  exact sX4_chainedTo (post := fun ov w2 => ov = some (.int r) ∧ w2 = (pW cI cO S)) hX (hT0.trans hT) hGX (fun cells slots w9 pc lv v => rI cells slots w9 pc lv v rfl) (o := r) (fun v9 e9 => by cases e9; exact ⟨rfl, rfl⟩) h
/-! X6_type -/
abbrev rmX6_type : Room := { frames := 6, cells := 1, slots := 6, locals := 90 }
theorem hdX6_type : yX6_type.cls = RX6 ∧ yX6_type.cls ≠ "java/lang/invoke/MethodHandle" ∧ yX6_type.cls ≠ "java/lang/invoke/VarHandle" ∧ (parseMethodDescriptor yX6_type.desc).map (fun d => d.parameters.length) = some 1 := by decide +kernel
theorem tkX6_type_IA : Cond.classLink "Postlint" 41 "java/lang/IllegalArgumentException" ∈ wsX6_type ∧ Cond.initialized "java/lang/IllegalArgumentException" ∈ wsX6_type := by decide +kernel
theorem taX6_type_IA : ∀ w ∈ (vx_atS "Postlint" 45 "java/lang/IllegalArgumentException" ["java/lang/RuntimeException", "java/lang/Exception"]).filter goodWord, w ∈ wsX6_type := fun _ h => List.mem_cons_of_mem _ (List.mem_append_left _ (List.mem_append_right _ h))
theorem lkX6_type_14 : Cond.fieldLink RX6 14 RX6 (TX6 0).2.1 (TX6 0).2.2.1 ∈ wsX6_type := by decide +kernel
theorem inX6_type_6 : ∀ w ∈ wsX60, w ∈ wsX6_type := fun _ h => List.mem_cons_of_mem _ (List.mem_append_left _ (List.mem_append_left _ (List.mem_append_left _ (List.mem_append_right _ h))))
theorem tkX6_type_IS : Cond.classLink "Postlint" 52 "java/lang/IllegalStateException" ∈ wsX6_type ∧ Cond.initialized "java/lang/IllegalStateException" ∈ wsX6_type := by decide +kernel
theorem taX6_type_IS : ∀ w ∈ (vx_atS "Postlint" 56 "java/lang/IllegalStateException" ["java/lang/RuntimeException", "java/lang/Exception"]).filter goodWord, w ∈ wsX6_type := fun _ h => List.mem_cons_of_mem _ (List.mem_append_right _ h)
def fX6_type (S : PS) (v0 : Nat) (v1 : Int32) : Option ((Nat × PS) ⊕ (Int32 × PS)) := (if v1 < (32 : Int32) then some (Sum.inl (0, S)) else (if v1 ≤ (126 : Int32) then chk (okP S v0 6) (bP (sR S 60 v0) (fun q23 => chk (okP S q23 5) (bP (fX4_size S q23) (fun r26 => (if r26 < (60 : Int32) then chk (okP S v0 6) (bP (sR S 60 v0) (fun q45 => chk (okP S q45 5) (bP (fX4_add S q45 v1) (fun w49 => chk (okP w49 v0 6) (bP (sR w49 60 v0) (fun q53 => chk (okP w49 q53 5) (bP (fX4_size w49 q53) (fun r56 => some (Sum.inr (r56, w49)))))))))) else some (Sum.inl (1, S))))))) else some (Sum.inl (0, S))))
set_option maxRecDepth 100000 in
set_option maxHeartbeats 4000000 in
theorem sX6_type {X : JX} {cI cZ cO cJ : ClassId} {gs : JP} {post : Option Value → va_W → Prop} (hX : jOK X cX6_type 2 wsX6_type RX6 rmX6_type) (hT : jT X = jTy cI cZ cO cJ) (hGX : jG X (GP gs)) (hret : jRI X cX6_type rmX6_type post) {w0 : va_W} {px : String → va_W → Prop} (hQ : jXQ X w0 rmX6_type post px) {o : ((Nat × PS) ⊕ (Int32 × PS))} (hro : ∀ (v9 : Int32) (w9 : PS), o = .inr (v9, w9) → post (some (.int v9)) (pW cI cO w9)) (hrx : ∀ (x9 : Nat) (w9 : PS), o = .inl (x9, w9) → px (exN x9) (pW cI cO w9)) {S : PS} {v0 : Nat} {v1 : Int32} (h : fX6_type S v0 v1 = some o) : JW X 0 0 (pW cI cO S) 0 [(0, .ref v0), (1, .int v1)] [] := by
  unfold fX6_type at h
  refine jw_iload_n hX dX6_type_0 rfl 1 rfl ?_
  refine jw_bipush (v := (32 : Int32)) hX dX6_type_1 (by decide) ?_
  refine jw_icmp_lt (tgt := 12) hX dX6_type_3 (by decide) (fun hc => ?_) (fun hc => ?_)
  · rw [if_pos hc] at h
    exact jw_throwS (is := 43) (text := "the sign is out of range") hX hGX hQ (by decide +kernel) (by decide +kernel) tkX6_type_IA.1 tkX6_type_IA.2 (by decide +kernel) taX6_type_IA tbIA gNc_on tgIA dX6_type_12 dX6_type_15 dX6_type_16 dX6_type_18 dX6_type_21 (Nat.le_of_ble_eq_true rfl) (Nat.le_of_ble_eq_true rfl) (Nat.le_of_ble_eq_true rfl) (Nat.le_of_ble_eq_true rfl) (hrx _ _ (Option.some.inj h).symm)
  · rw [if_neg hc] at h
    refine jw_iload_n hX dX6_type_6 rfl 1 rfl ?_
    refine jw_bipush (v := (126 : Int32)) hX dX6_type_7 (by decide) ?_
    refine jw_icmp_le (tgt := 22) hX dX6_type_9 (by decide) (fun hc => ?_) (fun hc => ?_)
    · rw [if_pos hc] at h
      refine jw_aload_n hX dX6_type_22 rfl 0 rfl ?_
      obtain ⟨ho23_1, h⟩ := chk_some h
      obtain ⟨q23, hr23, h⟩ := bP_some h
      refine jw_pgetR hX hT 6 0 rfl (by decide) (by decide) rfl inX6_type_6 rfl lkX6_type_14 ho23_1 hr23 dX6_type_23 ?_
      obtain ⟨ho26_4, h⟩ := chk_some h
      obtain ⟨r26, hc26, h⟩ := bP_some h
      refine jw_pVi (As := []) hX (GP_ok gs) hGX 0 (kX4_size hT hc26) gX6_type_X4_size rfl hdX4_size ⟨by decide, by decide⟩ 5 rfl (by decide) ho26_4 rfl (Nat.le_of_ble_eq_true rfl) dX6_type_26 rfl rfl ⟨by decide, by decide⟩ ?_
      refine jw_bipush (v := (60 : Int32)) hX dX6_type_29 (by decide) ?_
      refine jw_icmp_lt (tgt := 44) hX dX6_type_31 (by decide) (fun hc => ?_) (fun hc => ?_)
      · rw [if_pos hc] at h
        refine jw_aload_n hX dX6_type_44 rfl 0 rfl ?_
        obtain ⟨ho45_1, h⟩ := chk_some h
        obtain ⟨q45, hr45, h⟩ := bP_some h
        refine jw_pgetR hX hT 6 0 rfl (by decide) (by decide) rfl inX6_type_6 rfl lkX6_type_14 ho45_1 hr45 dX6_type_45 ?_
        refine jw_iload_n hX dX6_type_48 rfl 1 rfl ?_
        obtain ⟨ho49_5, h⟩ := chk_some h
        obtain ⟨w49, hc49, h⟩ := bP_some h
        refine jw_pVv (As := [.int v1]) hX (GP_ok gs) hGX 1 (kX4_add hT hc49) gX6_type_X4_add rfl hdX4_add ⟨by decide, by decide⟩ 5 rfl (by decide) ho49_5 rfl (Nat.le_of_ble_eq_true rfl) dX6_type_49 rfl rfl ⟨by decide, by decide⟩ ?_
        refine jw_aload_n hX dX6_type_52 rfl 0 rfl ?_
        obtain ⟨ho53_9, h⟩ := chk_some h
        obtain ⟨q53, hr53, h⟩ := bP_some h
        refine jw_pgetR hX hT 6 0 rfl (by decide) (by decide) rfl inX6_type_6 rfl lkX6_type_14 ho53_9 hr53 dX6_type_53 ?_
        obtain ⟨ho56_12, h⟩ := chk_some h
        obtain ⟨r56, hc56, h⟩ := bP_some h
        refine jw_pVi (As := []) hX (GP_ok gs) hGX 0 (kX4_size hT hc56) gX6_type_X4_size rfl hdX4_size ⟨by decide, by decide⟩ 5 rfl (by decide) ho56_12 rfl (Nat.le_of_ble_eq_true rfl) dX6_type_56 rfl rfl ⟨by decide, by decide⟩ ?_
        exact hret _ _ _ _ _ _ (by decide) (by decide) dX6_type_59 (hro _ _ (Option.some.inj h).symm)
      · rw [if_neg hc] at h
        exact jw_throwS (is := 54) (text := "the draft is full") hX hGX hQ (by decide +kernel) (by decide +kernel) tkX6_type_IS.1 tkX6_type_IS.2 (by decide +kernel) taX6_type_IS tbIS gNc_on tgIS dX6_type_34 dX6_type_37 dX6_type_38 dX6_type_40 dX6_type_43 (Nat.le_of_ble_eq_true rfl) (Nat.le_of_ble_eq_true rfl) (Nat.le_of_ble_eq_true rfl) (Nat.le_of_ble_eq_true rfl) (hrx _ _ (Option.some.inj h).symm)
    · rw [if_neg hc] at h
      exact jw_throwS (is := 43) (text := "the sign is out of range") hX hGX hQ (by decide +kernel) (by decide +kernel) tkX6_type_IA.1 tkX6_type_IA.2 (by decide +kernel) taX6_type_IA tbIA gNc_on tgIA dX6_type_12 dX6_type_15 dX6_type_16 dX6_type_18 dX6_type_21 (Nat.le_of_ble_eq_true rfl) (Nat.le_of_ble_eq_true rfl) (Nat.le_of_ble_eq_true rfl) (Nat.le_of_ble_eq_true rfl) (hrx _ _ (Option.some.inj h).symm)
set_option maxRecDepth 100000 in
set_option maxHeartbeats 4000000 in
theorem kX6_type {l : Launch} {D : va_G} {tys : List (ClassId × FieldType)} {cI cZ cO cJ : ClassId} {gs : JP} {S : PS} {v0 : Nat} {v1 : Int32} {r : Int32} {w1 : PS} (hl : l.stackTraces = false) (hT : tys = jTy cI cZ cO cJ) (h : fX6_type S v0 v1 = some (.inr (r, w1))) : CX l (GP gs) D tys yX6_type wsX6_type rmX6_type [.ref v0, .int v1] (pW cI cO S) (fun ov w2 => ov = some (.int r) ∧ w2 = (pW cI cO w1)) (fun _ _ => False) := by
  refine CX_of (cc := cX6_type) (maxL := 2) (ret := (some .int)) hl (by decide) rfl (Nat.le_of_ble_eq_true rfl) ?_
  intro X hD hL hT0 hGX hX hQ rI rZ rV rA
  exact sX6_type (post := fun ov w2 => ov = some (.int r) ∧ w2 = (pW cI cO w1)) (px := fun _ _ => False) hX (hT0.trans hT) hGX (rI rfl) hQ (o := .inr (r, w1)) (fun v9 w9 e9 => by cases e9; exact ⟨rfl, rfl⟩) (fun x9 w9 e9 => nomatch e9) h
set_option maxRecDepth 100000 in
set_option maxHeartbeats 4000000 in
theorem kxX6_type {l : Launch} {D : va_G} {tys : List (ClassId × FieldType)} {cI cZ cO cJ : ClassId} {gs : JP} {S : PS} {v0 : Nat} {v1 : Int32} {x9 : Nat} {w1 : PS} (hl : l.stackTraces = false) (hT : tys = jTy cI cZ cO cJ) (h : fX6_type S v0 v1 = some (.inl (x9, w1))) : CX l (GP gs) D tys yX6_type wsX6_type rmX6_type [.ref v0, .int v1] (pW cI cO S) (fun _ _ => False) (fun E w2 => E = exN x9 ∧ w2 = (pW cI cO w1)) := by
  refine CX_of (cc := cX6_type) (maxL := 2) (ret := (some .int)) hl (by decide) rfl (Nat.le_of_ble_eq_true rfl) ?_
  intro X hD hL hT0 hGX hX hQ rI rZ rV rA
  exact sX6_type (post := fun _ _ => False) (px := fun E w2 => E = exN x9 ∧ w2 = (pW cI cO w1)) hX (hT0.trans hT) hGX (rI rfl) hQ (o := .inl (x9, w1)) (fun v9 w9 e9 => nomatch e9) (fun x9 w9 e9 => by cases e9; exact ⟨rfl, rfl⟩) h
