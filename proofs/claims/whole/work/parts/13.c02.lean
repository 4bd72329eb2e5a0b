/-! X1_countPosting -/
abbrev rmX1_countPosting : Room := { frames := 2, cells := 0, slots := 0, locals := 45 }
theorem hdX1_countPosting : yX1_countPosting.cls = RX1 ∧ yX1_countPosting.cls ≠ "java/lang/invoke/MethodHandle" ∧ yX1_countPosting.cls ≠ "java/lang/invoke/VarHandle" ∧ (parseMethodDescriptor yX1_countPosting.desc).map (fun d => d.parameters.length) = some 1 := by decide +kernel
theorem lkX1_countPosting_20 : Cond.fieldLink RX1 20 RX1 (TX1 1).2.1 (TX1 1).2.2.1 ∈ wsX1_countPosting := by decide +kernel
theorem inX1_countPosting_2 : ∀ w ∈ wsX10, w ∈ wsX1_countPosting := fun _ h => List.mem_cons_of_mem _ (List.mem_append_left _ (List.mem_append_right _ h))
theorem lkX1_countPosting_79 : Cond.fieldLink RX1 79 RX1 (TX1 4).2.1 (TX1 4).2.2.1 ∈ wsX1_countPosting := by decide +kernel
theorem lkX1_countPosting_55 : Cond.fieldLink RX1 55 RX1 (TX1 3).2.1 (TX1 3).2.2.1 ∈ wsX1_countPosting := by decide +kernel
theorem lkX1_countPosting_23 : Cond.fieldLink RX1 23 RX1 (TX1 2).2.1 (TX1 2).2.2.1 ∈ wsX1_countPosting := by decide +kernel
def fX1_countPosting (n : Nat) (S : PS) (v0 : Nat) (v1 : Int32) : Option PS := chk (okP S v0 2) (bP (sR S 21 v0) (fun q1 => chk (okP S q1 5) (bP (fX4_at S q1 v1) (fun r5 => bnd ((r5 - (97 : Int32))) (fun y11 => chk (okP S v0 2) (bP (fX1_timesAt n S v0 v1) (fun r14 => chk (okP S v0 2) (chk (okP S v0 2) (bnd (pI S 24 v0 ((sI S 24 v0) + r14)) (fun w25 => chk (okP w25 v0 2) (chk (okP w25 v0 2) (bnd (pI w25 23 v0 ((sI w25 23 v0) ||| ((1 : Int32) <<< (y11 &&& 31)))) (fun w37 => (if y11 < 0 then some w37 else chk (okP w37 v0 2) (bP (sR w37 22 v0) (fun q46 => chk (okP w37 q46 8) ((if (nI (sN w37 q46)) ≤ y11 then some w37 else chk (okP w37 v0 2) (bP (sR w37 22 v0) (fun q54 => chk (okP w37 q54 8) (chk (inB y11 (sN w37 q54)) (chk (okP w37 v0 2) (bP (fX1_numberAt n w37 v0 v1) (fun r63 => chk (okP w37 q54 8) (chk (inB y11 (sN w37 q54)) (bnd (pA w37 q54 (y11).toNatClampNeg ((sA w37 q54 (y11).toNatClampNeg) + (r14 * r63))) (fun w68 => some w68)))))))))))))))))))))))))))
set_option maxRecDepth 100000 in
set_option maxHeartbeats 4000000 in
theorem sX1_countPosting {X : JX} {cI cZ cO cJ : ClassId} {gs : JP} {n : Nat} {post : Option Value → va_W → Prop} (hX : jOK X cX1_countPosting 4 wsX1_countPosting RX1 rmX1_countPosting) (hT : jT X = jTy cI cZ cO cJ) (hGX : jG X (GP gs)) (hret : jRV X cX1_countPosting rmX1_countPosting post) {o : PS} (hro : ∀  (w9 : PS), o = w9 → post none (pW cI cO w9))  {S : PS} {v0 : Nat} {v1 : Int32} (h : fX1_countPosting n S v0 v1 = some o) : JW X 0 0 (pW cI cO S) 0 [(0, .ref v0), (1, .int v1)] [] := by
  unfold fX1_countPosting at h
  refine jw_aload_n hX dX1_countPosting_0 rfl 0 rfl ?_
  obtain ⟨ho1_1, h⟩ := chk_some h
  obtain ⟨q1, hr1, h⟩ := bP_some h
  refine jw_pgetR hX hT 2 1 rfl (by decide) (by decide) rfl inX1_countPosting_2 rfl lkX1_countPosting_20 ho1_1 hr1 dX1_countPosting_1 ?_
  refine jw_iload_n hX dX1_countPosting_4 rfl 1 rfl ?_
  obtain ⟨ho5_5, h⟩ := chk_some h
  obtain ⟨r5, hc5, h⟩ := bP_some h
  refine jw_pVi (As := [.int v1]) hX (GP_ok gs) hGX 1 (kX4_at hT hc5) gX1_countPosting_X4_at rfl hdX4_at ⟨by decide, by decide⟩ 5 rfl (by decide) ho5_5 rfl (Nat.le_of_ble_eq_true rfl) dX1_countPosting_5 rfl rfl ⟨by decide, by decide⟩ ?_
  refine jw_bipush (v := (97 : Int32)) hX dX1_countPosting_8 (by decide) ?_
  refine jw_isub hX dX1_countPosting_10 ?_
  refine jw_topi (fun y11 e11 => ?_)
  replace h := bnd_some h y11 e11
  clear e11
  refine jw_istore_n hX [(2, .int y11), (0, .ref v0), (1, .int v1)] dX1_countPosting_11 rfl (by decide) rfl ?_
  refine jw_aload_n hX dX1_countPosting_12 rfl 1 rfl ?_
  refine jw_iload_n hX dX1_countPosting_13 rfl 2 rfl ?_
  obtain ⟨ho14_16, h⟩ := chk_some h
  obtain ⟨r14, hc14, h⟩ := bP_some h
  refine jw_pVi (As := [.int v1]) hX (GP_ok gs) hGX 1 (kX1_timesAt hT hc14) gX1_countPosting_X1_timesAt rfl hdX1_timesAt ⟨by decide, by decide⟩ 2 rfl (by decide) ho14_16 rfl (Nat.le_of_ble_eq_true rfl) dX1_countPosting_14 rfl rfl ⟨by decide, by decide⟩ ?_
  refine jw_istore_n hX [(3, .int r14), (2, .int y11), (0, .ref v0), (1, .int v1)] dX1_countPosting_17 rfl (by decide) rfl ?_
  refine jw_aload_n hX dX1_countPosting_18 rfl 2 rfl ?_
  refine jw_dup hX dX1_countPosting_19 rfl ?_
  obtain ⟨ho20_22, h⟩ := chk_some h
  refine jw_pgetI hX hT 2 4 rfl (by decide) (by decide) rfl inX1_countPosting_2 rfl lkX1_countPosting_79 ho20_22 dX1_countPosting_20 ?_
  refine jw_iload_n hX dX1_countPosting_23 rfl 0 rfl ?_
  refine jw_iadd hX dX1_countPosting_24 ?_
  obtain ⟨ho25_26, h⟩ := chk_some h
  refine jw_pputI hX hT 2 4 rfl (by decide) (by decide) rfl inX1_countPosting_2 rfl lkX1_countPosting_79 tyX1 tyX1_ok nmX1 rfl (by decide +kernel) ho25_26 dX1_countPosting_25 (fun w25 e25 => ?_)
  replace h := bnd_some h w25 e25
  clear e25
  refine jw_aload_n hX dX1_countPosting_28 rfl 2 rfl ?_
  refine jw_dup hX dX1_countPosting_29 rfl ?_
  obtain ⟨ho30_32, h⟩ := chk_some h
  refine jw_pgetI hX hT 2 3 rfl (by decide) (by decide) rfl inX1_countPosting_2 rfl lkX1_countPosting_55 ho30_32 dX1_countPosting_30 ?_
  refine jw_iconst (v := (1 : Int32)) hX dX1_countPosting_33 (by decide) ?_
  refine jw_iload_n hX dX1_countPosting_34 rfl 1 rfl ?_
  refine jw_ishl hX dX1_countPosting_35 ?_
  refine jw_ior hX dX1_countPosting_36 ?_
  obtain ⟨ho37_38, h⟩ := chk_some h
  refine jw_pputI hX hT 2 3 rfl (by decide) (by decide) rfl inX1_countPosting_2 rfl lkX1_countPosting_55 tyX1 tyX1_ok nmX1 rfl (by decide +kernel) ho37_38 dX1_countPosting_37 (fun w37 e37 => ?_)
  replace h := bnd_some h w37 e37
  clear e37
  refine jw_iload_n hX dX1_countPosting_40 rfl 1 rfl ?_
  refine jw_if_lt (tgt := 69) hX dX1_countPosting_41 (by decide) (fun hc => ?_) (fun hc => ?_)
  · rw [if_pos hc] at h
    exact hret _ _ _ _ _ (by decide) (by decide) dX1_countPosting_69 (hro _ (Option.some.inj h).symm)
  · rw [if_neg hc] at h
    refine jw_iload_n hX dX1_countPosting_44 rfl 1 rfl ?_
    refine jw_aload_n hX dX1_countPosting_45 rfl 2 rfl ?_
    obtain ⟨ho46_2, h⟩ := chk_some h
    obtain ⟨q46, hr46, h⟩ := bP_some h
    refine jw_pgetR hX hT 2 2 rfl (by decide) (by decide) rfl inX1_countPosting_2 rfl lkX1_countPosting_23 ho46_2 hr46 dX1_countPosting_46 ?_
    obtain ⟨ho49_5, h⟩ := chk_some h
    refine jw_pialen hX hT ho49_5 dX1_countPosting_49 ?_
    refine jw_icmp_ge (tgt := 69) hX dX1_countPosting_50 (by decide) (fun hc => ?_) (fun hc => ?_)
    · rw [if_pos hc] at h
      exact hret _ _ _ _ _ (by decide) (by decide) dX1_countPosting_69 (hro _ (Option.some.inj h).symm)
    · rw [if_neg hc] at h
      refine jw_aload_n hX dX1_countPosting_53 rfl 2 rfl ?_
      obtain ⟨ho54_1, h⟩ := chk_some h
      obtain ⟨q54, hr54, h⟩ := bP_some h
      refine jw_pgetR hX hT 2 2 rfl (by decide) (by decide) rfl inX1_countPosting_2 rfl lkX1_countPosting_23 ho54_1 hr54 dX1_countPosting_54 ?_
      refine jw_iload_n hX dX1_countPosting_57 rfl 1 rfl ?_
      refine jw_dup2 hX dX1_countPosting_58 rfl rfl ?_
      obtain ⟨ho59_6, h⟩ := chk_some h
      obtain ⟨hb59, h⟩ := chk_some h
      refine jw_piald hX hT ho59_6 hb59 dX1_countPosting_59 ?_
      refine jw_iload_n hX dX1_countPosting_60 rfl 0 rfl ?_
      refine jw_aload_n hX dX1_countPosting_61 rfl 2 rfl ?_
      refine jw_iload_n hX dX1_countPosting_62 rfl 3 rfl ?_
      obtain ⟨ho63_12, h⟩ := chk_some h
      obtain ⟨r63, hc63, h⟩ := bP_some h
      refine jw_pVi (As := [.int v1]) hX (GP_ok gs) hGX 1 (kX1_numberAt hT hc63) gX1_countPosting_X1_numberAt rfl hdX1_numberAt ⟨by decide, by decide⟩ 2 rfl (by decide) ho63_12 rfl (Nat.le_of_ble_eq_true rfl) dX1_countPosting_63 rfl rfl ⟨by decide, by decide⟩ ?_
      refine jw_imul hX dX1_countPosting_66 ?_
      refine jw_iadd hX dX1_countPosting_67 ?_
      obtain ⟨ho68_17, h⟩ := chk_some h
      obtain ⟨hb68, h⟩ := chk_some h
      refine jw_piast hX hT ho68_17 hb68 dX1_countPosting_68 (fun w68 e68 => ?_)
      replace h := bnd_some h w68 e68
      clear e68
      exact hret _ _ _ _ _ (by decide) (by decide) dX1_countPosting_69 (hro _ (Option.some.inj h).symm)
set_option maxRecDepth 100000 in
set_option maxHeartbeats 4000000 in
theorem kX1_countPosting {l : Launch} {D : va_G} {tys : List (ClassId × FieldType)} {cI cZ cO cJ : ClassId} {gs : JP} {n : Nat} {S : PS} {v0 : Nat} {v1 : Int32} {w1 : PS} (hT : tys = jTy cI cZ cO cJ) (h : fX1_countPosting n S v0 v1 = some w1) : CC l (GP gs) D tys yX1_countPosting wsX1_countPosting rmX1_countPosting [.ref v0, .int v1] (pW cI cO S) (fun ov w2 => ov = none ∧ w2 = (pW cI cO w1)) := by
  refine CC_of (cc := cX1_countPosting) (maxL := 4) (ret := none) (by decide) rfl (Nat.le_of_ble_eq_true rfl) ?_
  intro X hD hL hT0 hGX hX rI rZ rV rA
  exact sX1_countPosting (post := fun ov w2 => ov = none ∧ w2 = (pW cI cO w1)) hX (hT0.trans hT) hGX (fun cells slots w9 pc lv => rV cells slots w9 pc lv rfl) (o := w1) (fun w9 e9 => by cases e9; exact ⟨rfl, rfl⟩) h
/-! X1_take -/
abbrev rmX1_take : Room := { frames := 4, cells := 0, slots := 0, locals := 90 }
theorem hdX1_take : yX1_take.cls = RX1 ∧ yX1_take.cls ≠ "java/lang/invoke/MethodHandle" ∧ yX1_take.cls ≠ "java/lang/invoke/VarHandle" ∧ (parseMethodDescriptor yX1_take.desc).map (fun d => d.parameters.length) = some 1 := by decide +kernel
theorem lkX1_take_14 : Cond.fieldLink RX1 14 RX1 (TX1 0).2.1 (TX1 0).2.2.1 ∈ wsX1_take := by decide +kernel
theorem inX1_take_2 : ∀ w ∈ wsX10, w ∈ wsX1_take := fun _ h => List.mem_cons_of_mem _ (List.mem_append_left _ (List.mem_append_right _ h))
theorem lkX1_take_20 : Cond.fieldLink RX1 20 RX1 (TX1 1).2.1 (TX1 1).2.2.1 ∈ wsX1_take := by decide +kernel
theorem n1X1_take_X6_isAccount : Cond.static yX6_isAccount ∈ wsX1_take := by decide +kernel
theorem n2X1_take_X6_isAccount : Cond.initialized yX6_isAccount.cls ∈ wsX1_take := by decide +kernel
def fX1_take_L21 (n : Nat) : Nat → PS → Nat → Int32 → Option (PS)
  | 0, _, _, _ => none
  | k + 1, S, v0, v2 => chk (okP S v0 2) (bP (sR S 21 v0) (fun q23 => chk (okP S q23 5) (bP (fX4_size S q23) (fun r26 => (if r26 ≤ v2 then some (S) else chk (okP S v0 2) (bP (sR S 21 v0) (fun q33 => chk (okP S q33 5) (bP (fX4_at S q33 v2) (fun r37 => bP (fX6_isAccount r37) (fun r40 => (if r40 = 0 then fX1_take_L21 n k S v0 (v2 + (1 : Int32)) else chk (okP S v0 2) (bP (fX1_countPosting n S v0 v2) (fun w48 => fX1_take_L21 n k w48 v0 (v2 + (1 : Int32)))))))))))))))
def fX1_take (n : Nat) (S : PS) (v0 : Nat) (v1 : Nat) : Option PS := chk (okP S v0 2) (bP (sR S 20 v0) (fun q1 => chk (okP S q1 5) (bP (fX4_copy n S q1 v1) (fun w5 => chk (okP w5 v0 2) (bP (sR w5 20 v0) (fun q9 => chk (okP w5 v0 2) (bP (sR w5 21 v0) (fun q13 => bP (fX5_writeForm n w5 q9 q13) (fun w16 => bL1 (fX1_take_L21 n n w16 v0 (0 : Int32)) (fun wx21 => some wx21))))))))))
set_option maxRecDepth 100000 in
set_option maxHeartbeats 4000000 in
theorem sX1_take_L21 {X : JX} {cI cZ cO cJ : ClassId} {gs : JP} {n : Nat} {post : Option Value → va_W → Prop} (hX : jOK X cX1_take 3 wsX1_take RX1 rmX1_take) (hT : jT X = jTy cI cZ cO cJ) (hGX : jG X (GP gs)) (hret : jRV X cX1_take rmX1_take post) {o : (PS)} (hex : ∀ (w9 : PS), o = w9 → JW X 0 0 (pW cI cO w9) 57 [] [])  : ∀ (k : Nat) (S : PS) (v0 : Nat) (v2 : Int32), fX1_take_L21 n k S v0 v2 = some o → JW X 0 0 (pW cI cO S) 21 [(0, .ref v0), (2, .int v2)] [] := by
  intro k
  induction k with
  | zero => intro S v0 v2 h; cases h
  | succ k hrec0 =>
    intro S v0 v2 h
    unfold fX1_take_L21 at h
    refine jw_iload_n hX dX1_take_21 rfl 1 rfl ?_
    refine jw_aload_n hX dX1_take_22 rfl 0 rfl ?_
    obtain ⟨ho23_2, h⟩ := chk_some h
    obtain ⟨q23, hr23, h⟩ := bP_some h
    refine jw_pgetR hX hT 2 1 rfl (by decide) (by decide) rfl inX1_take_2 rfl lkX1_take_20 ho23_2 hr23 dX1_take_23 ?_
    obtain ⟨ho26_5, h⟩ := chk_some h
    obtain ⟨r26, hc26, h⟩ := bP_some h
    refine jw_pVi (As := []) hX (GP_ok gs) hGX 0 (kX4_size hT hc26) gX1_take_X4_size rfl hdX4_size ⟨by decide, by decide⟩ 5 rfl (by decide) ho26_5 rfl (Nat.le_of_ble_eq_true rfl) dX1_take_26 rfl rfl ⟨by decide, by decide⟩ ?_
    refine jw_icmp_ge (tgt := 57) hX dX1_take_29 (by decide) (fun hc => ?_) (fun hc => ?_)
    · rw [if_pos hc] at h
      refine jw_sub [] [] rfl ?_
      exact hex _ (Option.some.inj h).symm
    · rw [if_neg hc] at h
      refine jw_aload_n hX dX1_take_32 rfl 0 rfl ?_
      obtain ⟨ho33_1, h⟩ := chk_some h
      obtain ⟨q33, hr33, h⟩ := bP_some h
      refine jw_pgetR hX hT 2 1 rfl (by decide) (by decide) rfl inX1_take_2 rfl lkX1_take_20 ho33_1 hr33 dX1_take_33 ?_
      refine jw_iload_n hX dX1_take_36 rfl 1 rfl ?_
      obtain ⟨ho37_5, h⟩ := chk_some h
      obtain ⟨r37, hc37, h⟩ := bP_some h
      refine jw_pVi (As := [.int v2]) hX (GP_ok gs) hGX 1 (kX4_at hT hc37) gX1_take_X4_at rfl hdX4_at ⟨by decide, by decide⟩ 5 rfl (by decide) ho37_5 rfl (Nat.le_of_ble_eq_true rfl) dX1_take_37 rfl rfl ⟨by decide, by decide⟩ ?_
      obtain ⟨r40, hc40, h⟩ := bP_some h
      refine jw_pSNi (As := [.int r37]) hX (GP_ok gs) hGX 1 (kX6_isAccount hT hc40) gX1_take_X6_isAccount_n45 rfl (gp_nm hGX (w := .methodLinkNest RX1 45 yX6_isAccount "Postlint") (by decide +kernel)) (Or.inl n1X1_take_X6_isAccount) (Or.inl n2X1_take_X6_isAccount) hdX6_isAccount ⟨by decide, by decide⟩ rfl (Nat.le_of_ble_eq_true rfl) dX1_take_40 rfl rfl ⟨by decide, by decide⟩ ?_
      refine jw_if_eq (tgt := 51) hX dX1_take_43 (by decide) (fun hc => ?_) (fun hc => ?_)
      · rw [if_pos hc] at h
        refine jw_iinc (v := (v2 + (1 : Int32))) hX [(2, .int (v2 + (1 : Int32))), (0, .ref v0)] dX1_take_51 1 rfl (by first | rfl | (congr 1; decide)) (by decide) rfl ?_
        refine jw_goto (tgt := 21) hX dX1_take_54 (by decide) ?_
        refine jw_sub [1, 0] [(0, .ref v0), (2, .int (v2 + (1 : Int32)))] rfl ?_
        exact hrec0 _ _ _ h
      · rw [if_neg hc] at h
        refine jw_aload_n hX dX1_take_46 rfl 0 rfl ?_
        refine jw_iload_n hX dX1_take_47 rfl 1 rfl ?_
        obtain ⟨ho48_2, h⟩ := chk_some h
        obtain ⟨w48, hc48, h⟩ := bP_some h
        refine jw_pVv (As := [.int v2]) hX (GP_ok gs) hGX 1 (kX1_countPosting hT hc48) gX1_take_X1_countPosting rfl hdX1_countPosting ⟨by decide, by decide⟩ 2 rfl (by decide) ho48_2 rfl (Nat.le_of_ble_eq_true rfl) dX1_take_48 rfl rfl ⟨by decide, by decide⟩ ?_
        refine jw_iinc (v := (v2 + (1 : Int32))) hX [(2, .int (v2 + (1 : Int32))), (0, .ref v0)] dX1_take_51 1 rfl (by first | rfl | (congr 1; decide)) (by decide) rfl ?_
        refine jw_goto (tgt := 21) hX dX1_take_54 (by decide) ?_
        refine jw_sub [1, 0] [(0, .ref v0), (2, .int (v2 + (1 : Int32)))] rfl ?_
        exact hrec0 _ _ _ h
set_option maxRecDepth 100000 in
set_option maxHeartbeats 4000000 in
theorem sX1_take {X : JX} {cI cZ cO cJ : ClassId} {gs : JP} {n : Nat} {post : Option Value → va_W → Prop} (hX : jOK X cX1_take 3 wsX1_take RX1 rmX1_take) (hT : jT X = jTy cI cZ cO cJ) (hGX : jG X (GP gs)) (hret : jRV X cX1_take rmX1_take post) {o : PS} (hro : ∀  (w9 : PS), o = w9 → post none (pW cI cO w9))  {S : PS} {v0 : Nat} {v1 : Nat} (h : fX1_take n S v0 v1 = some o) : JW X 0 0 (pW cI cO S) 0 [(0, .ref v0), (1, .ref v1)] [] := by
  unfold fX1_take at h
  refine jw_aload_n hX dX1_take_0 rfl 0 rfl ?_
  obtain ⟨ho1_1, h⟩ := chk_some h
  obtain ⟨q1, hr1, h⟩ := bP_some h
  refine jw_pgetR hX hT 2 0 rfl (by decide) (by decide) rfl inX1_take_2 rfl lkX1_take_14 ho1_1 hr1 dX1_take_1 ?_
  refine jw_aload_n hX dX1_take_4 rfl 1 rfl ?_
  obtain ⟨ho5_5, h⟩ := chk_some h
  obtain ⟨w5, hc5, h⟩ := bP_some h
  refine jw_pVv (As := [.ref v1]) hX (GP_ok gs) hGX 1 (kX4_copy hT hc5) gX1_take_X4_copy rfl hdX4_copy ⟨by decide, by decide⟩ 5 rfl (by decide) ho5_5 rfl (Nat.le_of_ble_eq_true rfl) dX1_take_5 rfl rfl ⟨by decide, by decide⟩ ?_
  refine jw_aload_n hX dX1_take_8 rfl 0 rfl ?_
  obtain ⟨ho9_9, h⟩ := chk_some h
  obtain ⟨q9, hr9, h⟩ := bP_some h
  refine jw_pgetR hX hT 2 0 rfl (by decide) (by decide) rfl inX1_take_2 rfl lkX1_take_14 ho9_9 hr9 dX1_take_9 ?_
  refine jw_aload_n hX dX1_take_12 rfl 0 rfl ?_
  obtain ⟨ho13_13, h⟩ := chk_some h
  obtain ⟨q13, hr13, h⟩ := bP_some h
  refine jw_pgetR hX hT 2 1 rfl (by decide) (by decide) rfl inX1_take_2 rfl lkX1_take_20 ho13_13 hr13 dX1_take_13 ?_
  obtain ⟨w16, hc16, h⟩ := bP_some h
  refine jw_cSv (As := [.ref q9, .ref q13]) hX (GP_ok gs) hGX 2 (kX5_writeForm hT hc16) gX1_take_X5_writeForm rfl hdX5_writeForm ⟨by decide, by decide⟩ rfl (Nat.le_of_ble_eq_true rfl) dX1_take_16 rfl rfl ⟨by decide, by decide⟩ ?_
  refine jw_iconst (v := (0 : Int32)) hX dX1_take_19 (by decide) ?_
  refine jw_istore_n hX [(2, .int (0 : Int32)), (0, .ref v0), (1, .ref v1)] dX1_take_20 rfl (by decide) rfl ?_
  refine jw_sub [1, 0] [(0, .ref v0), (2, .int (0 : Int32))] rfl ?_
  obtain ⟨wx21, hl21, h⟩ := bL1_some h
  refine sX1_take_L21 hX hT hGX hret (o := wx21) (fun q0 e9 => ?_) n _ _ _ hl21
  cases e9
  exact hret _ _ _ _ _ (by decide) (by decide) dX1_take_57 (hro _ (Option.some.inj h).symm)
set_option maxRecDepth 100000 in
set_option maxHeartbeats 4000000 in
theorem kX1_take {l : Launch} {D : va_G} {tys : List (ClassId × FieldType)} {cI cZ cO cJ : ClassId} {gs : JP} {n : Nat} {S : PS} {v0 : Nat} {v1 : Nat} {w1 : PS} (hT : tys = jTy cI cZ cO cJ) (h : fX1_take n S v0 v1 = some w1) : CC l (GP gs) D tys yX1_take wsX1_take rmX1_take [.ref v0, .ref v1] (pW cI cO S) (fun ov w2 => ov = none ∧ w2 = (pW cI cO w1)) := by
  refine CC_of (cc := cX1_take) (maxL := 3) (ret := none) (by decide) rfl (Nat.le_of_ble_eq_true rfl) ?_
  intro X hD hL hT0 hGX hX rI rZ rV rA
  exact sX1_take (post := fun ov w2 => ov = none ∧ w2 = (pW cI cO w1)) hX (hT0.trans hT) hGX (fun cells slots w9 pc lv => rV cells slots w9 pc lv rfl) (o := w1) (fun w9 e9 => by cases e9; exact ⟨rfl, rfl⟩) h
/-! X4_becomeOne -/
abbrev rmX4_becomeOne : Room := { frames := 1, cells := 0, slots := 0, locals := 21 }
theorem hdX4_becomeOne : yX4_becomeOne.cls = RX4 ∧ yX4_becomeOne.cls ≠ "java/lang/invoke/MethodHandle" ∧ yX4_becomeOne.cls ≠ "java/lang/invoke/VarHandle" ∧ (parseMethodDescriptor yX4_becomeOne.desc).map (fun d => d.parameters.length) = some 1 := by decide +kernel
def fX4_becomeOne (S : PS) (v0 : Nat) (v1 : Int32) : Option PS := chk (okP S v0 5) (bP (fX4_empty S v0) (fun w1 => chk (okP w1 v0 5) (bP (fX4_add w1 v0 v1) (fun w6 => some w6))))
set_option maxRecDepth 100000 in
set_option maxHeartbeats 4000000 in
theorem sX4_becomeOne {X : JX} {cI cZ cO cJ : ClassId} {gs : JP} {post : Option Value → va_W → Prop} (hX : jOK X cX4_becomeOne 2 wsX4_becomeOne RX4 rmX4_becomeOne) (hT : jT X = jTy cI cZ cO cJ) (hGX : jG X (GP gs)) (hret : jRV X cX4_becomeOne rmX4_becomeOne post) {o : PS} (hro : ∀  (w9 : PS), o = w9 → post none (pW cI cO w9))  {S : PS} {v0 : Nat} {v1 : Int32} (h : fX4_becomeOne S v0 v1 = some o) : JW X 0 0 (pW cI cO S) 0 [(0, .ref v0), (1, .int v1)] [] := by
  unfold fX4_becomeOne at h
  refine jw_aload_n hX dX4_becomeOne_0 rfl 0 rfl ?_
  obtain ⟨ho1_1, h⟩ := chk_some h
  obtain ⟨w1, hc1, h⟩ := bP_some h
  refine jw_pVv (As := []) hX (GP_ok gs) hGX 0 (kX4_empty hT hc1) gX4_becomeOne_X4_empty rfl hdX4_empty ⟨by decide, by decide⟩ 5 rfl (by decide) ho1_1 rfl (Nat.le_of_ble_eq_true rfl) dX4_becomeOne_1 rfl rfl ⟨by decide, by decide⟩ ?_
  refine jw_aload_n hX dX4_becomeOne_4 rfl 0 rfl ?_
  refine jw_iload_n hX dX4_becomeOne_5 rfl 1 rfl ?_
  obtain ⟨ho6_6, h⟩ := chk_some h
  obtain ⟨w6, hc6, h⟩ := bP_some h
  refine jw_pVv (As := [.int v1]) hX (GP_ok gs) hGX 1 (kX4_add hT hc6) gX4_becomeOne_X4_add rfl hdX4_add ⟨by decide, by decide⟩ 5 rfl (by decide) ho6_6 rfl (Nat.le_of_ble_eq_true rfl) dX4_becomeOne_6 rfl rfl ⟨by decide, by decide⟩ ?_
  exact hret _ _ _ _ _ (by decide) (by decide) dX4_becomeOne_9 (hro _ (Option.some.inj h).symm)
set_option maxRecDepth 100000 in
set_option maxHeartbeats 4000000 in
theorem kX4_becomeOne {l : Launch} {D : va_G} {tys : List (ClassId × FieldType)} {cI cZ cO cJ : ClassId} {gs : JP} {S : PS} {v0 : Nat} {v1 : Int32} {w1 : PS} (hT : tys = jTy cI cZ cO cJ) (h : fX4_becomeOne S v0 v1 = some w1) : CC l (GP gs) D tys yX4_becomeOne wsX4_becomeOne rmX4_becomeOne [.ref v0, .int v1] (pW cI cO S) (fun ov w2 => ov = none ∧ w2 = (pW cI cO w1)) := by
  refine CC_of (cc := cX4_becomeOne) (maxL := 2) (ret := none) (by decide) rfl (Nat.le_of_ble_eq_true rfl) ?_
  intro X hD hL hT0 hGX hX rI rZ rV rA
  exact sX4_becomeOne (post := fun ov w2 => ov = none ∧ w2 = (pW cI cO w1)) hX (hT0.trans hT) hGX (fun cells slots w9 pc lv => rV cells slots w9 pc lv rfl) (o := w1) (fun w9 e9 => by cases e9; exact ⟨rfl, rfl⟩) h
/-! X1_strikeOut -/
abbrev rmX1_strikeOut : Room := { frames := 2, cells := 0, slots := 0, locals := 42 }
theorem hdX1_strikeOut : yX1_strikeOut.cls = RX1 ∧ yX1_strikeOut.cls ≠ "java/lang/invoke/MethodHandle" ∧ yX1_strikeOut.cls ≠ "java/lang/invoke/VarHandle" ∧ (parseMethodDescriptor yX1_strikeOut.desc).map (fun d => d.parameters.length) = some 0 := by decide +kernel
theorem lkX1_strikeOut_14 : Cond.fieldLink RX1 14 RX1 (TX1 0).2.1 (TX1 0).2.2.1 ∈ wsX1_strikeOut := by decide +kernel
theorem inX1_strikeOut_2 : ∀ w ∈ wsX10, w ∈ wsX1_strikeOut := fun _ h => List.mem_cons_of_mem _ (List.mem_append_left _ (List.mem_append_right _ h))
theorem lkX1_strikeOut_20 : Cond.fieldLink RX1 20 RX1 (TX1 1).2.1 (TX1 1).2.2.1 ∈ wsX1_strikeOut := by decide +kernel
theorem lkX1_strikeOut_23 : Cond.fieldLink RX1 23 RX1 (TX1 2).2.1 (TX1 2).2.2.1 ∈ wsX1_strikeOut := by decide +kernel
theorem lkX1_strikeOut_55 : Cond.fieldLink RX1 55 RX1 (TX1 3).2.1 (TX1 3).2.2.1 ∈ wsX1_strikeOut := by decide +kernel
theorem lkX1_strikeOut_59 : Cond.fieldLink RX1 59 RX1 (TX1 5).2.1 (TX1 5).2.2.1 ∈ wsX1_strikeOut := by decide +kernel
def fX1_strikeOut_L20 (n : Nat) : Nat → PS → Nat → Int32 → Option (PS)
  | 0, _, _, _ => none
  | k + 1, S, v0, v1 => chk (okP S v0 2) (bP (sR S 22 v0) (fun q22 => chk (okP S q22 8) ((if (nI (sN S q22)) ≤ v1 then some (S) else chk (okP S v0 2) (bP (sR S 22 v0) (fun q30 => chk (okP S q30 8) (chk (inB v1 (sN S q30)) (bnd (pA S q30 (v1).toNatClampNeg (0 : Int32)) (fun w35 => fX1_strikeOut_L20 n k w35 v0 (v1 + (1 : Int32)))))))))))
def fX1_strikeOut (n : Nat) (S : PS) (v0 : Nat) : Option PS := chk (okP S v0 2) (bP (sR S 20 v0) (fun q1 => chk (okP S q1 5) (bP (fX4_becomeOne S q1 (45 : Int32)) (fun w6 => chk (okP w6 v0 2) (bP (sR w6 21 v0) (fun q10 => chk (okP w6 q10 5) (bP (fX4_becomeOne w6 q10 (45 : Int32)) (fun w15 => bL1 (fX1_strikeOut_L20 n n w15 v0 (0 : Int32)) (fun wx20 => chk (okP wx20 v0 2) (bnd (pI wx20 23 v0 (0 : Int32)) (fun w44 => chk (okP w44 v0 2) (chk (b01 (1 : Int32)) (bnd (pI w44 25 v0 (1 : Int32)) (fun w49 => some w49))))))))))))))
set_option maxRecDepth 100000 in
set_option maxHeartbeats 4000000 in
theorem sX1_strikeOut_L20 {X : JX} {cI cZ cO cJ : ClassId} {gs : JP} {n : Nat} {post : Option Value → va_W → Prop} (hX : jOK X cX1_strikeOut 2 wsX1_strikeOut RX1 rmX1_strikeOut) (hT : jT X = jTy cI cZ cO cJ) (hGX : jG X (GP gs)) (hret : jRV X cX1_strikeOut rmX1_strikeOut post) {o : (PS)} {v0 : Nat} (hex : ∀ (w9 : PS), o = w9 → JW X 0 0 (pW cI cO w9) 42 [(0, .ref v0)] [])  : ∀ (k : Nat) (S : PS) (v1 : Int32), fX1_strikeOut_L20 n k S v0 v1 = some o → JW X 0 0 (pW cI cO S) 20 [(0, .ref v0), (1, .int v1)] [] := by
  intro k
  induction k with
  | zero => intro S v1 h; cases h
  | succ k hrec0 =>
    intro S v1 h
    unfold fX1_strikeOut_L20 at h
    refine jw_iload_n hX dX1_strikeOut_20 rfl 1 rfl ?_
    refine jw_aload_n hX dX1_strikeOut_21 rfl 0 rfl ?_
    obtain ⟨ho22_2, h⟩ := chk_some h
    obtain ⟨q22, hr22, h⟩ := bP_some h
    refine jw_pgetR hX hT 2 2 rfl (by decide) (by decide) rfl inX1_strikeOut_2 rfl lkX1_strikeOut_23 ho22_2 hr22 dX1_strikeOut_22 ?_
    obtain ⟨ho25_5, h⟩ := chk_some h
    refine jw_pialen hX hT ho25_5 dX1_strikeOut_25 ?_
    refine jw_icmp_ge (tgt := 42) hX dX1_strikeOut_26 (by decide) (fun hc => ?_) (fun hc => ?_)
    · rw [if_pos hc] at h
      refine jw_sub [0] [(0, .ref v0)] rfl ?_
      exact hex _ (Option.some.inj h).symm
    · rw [if_neg hc] at h
      refine jw_aload_n hX dX1_strikeOut_29 rfl 0 rfl ?_
      obtain ⟨ho30_1, h⟩ := chk_some h
      obtain ⟨q30, hr30, h⟩ := bP_some h
      refine jw_pgetR hX hT 2 2 rfl (by decide) (by decide) rfl inX1_strikeOut_2 rfl lkX1_strikeOut_23 ho30_1 hr30 dX1_strikeOut_30 ?_
      refine jw_iload_n hX dX1_strikeOut_33 rfl 1 rfl ?_
      refine jw_iconst (v := (0 : Int32)) hX dX1_strikeOut_34 (by decide) ?_
      obtain ⟨ho35_6, h⟩ := chk_some h
      obtain ⟨hb35, h⟩ := chk_some h
      refine jw_piast hX hT ho35_6 hb35 dX1_strikeOut_35 (fun w35 e35 => ?_)
      replace h := bnd_some h w35 e35
      clear e35
      refine jw_iinc (v := (v1 + (1 : Int32))) hX [(1, .int (v1 + (1 : Int32))), (0, .ref v0)] dX1_strikeOut_36 1 rfl (by first | rfl | (congr 1; decide)) (by decide) rfl ?_
      refine jw_goto (tgt := 20) hX dX1_strikeOut_39 (by decide) ?_
      refine jw_sub [1, 0] [(0, .ref v0), (1, .int (v1 + (1 : Int32)))] rfl ?_
      exact hrec0 _ _ h
set_option maxRecDepth 100000 in
set_option maxHeartbeats 4000000 in
theorem sX1_strikeOut {X : JX} {cI cZ cO cJ : ClassId} {gs : JP} {n : Nat} {post : Option Value → va_W → Prop} (hX : jOK X cX1_strikeOut 2 wsX1_strikeOut RX1 rmX1_strikeOut) (hT : jT X = jTy cI cZ cO cJ) (hGX : jG X (GP gs)) (hret : jRV X cX1_strikeOut rmX1_strikeOut post) {o : PS} (hro : ∀  (w9 : PS), o = w9 → post none (pW cI cO w9))  {S : PS} {v0 : Nat} (h : fX1_strikeOut n S v0 = some o) : JW X 0 0 (pW cI cO S) 0 [(0, .ref v0)] [] := by
  unfold fX1_strikeOut at h
  refine jw_aload_n hX dX1_strikeOut_0 rfl 0 rfl ?_
  obtain ⟨ho1_1, h⟩ := chk_some h
  obtain ⟨q1, hr1, h⟩ := bP_some h
  refine jw_pgetR hX hT 2 0 rfl (by decide) (by decide) rfl inX1_strikeOut_2 rfl lkX1_strikeOut_14 ho1_1 hr1 dX1_strikeOut_1 ?_
  refine jw_bipush (v := (45 : Int32)) hX dX1_strikeOut_4 (by decide) ?_
  obtain ⟨ho6_5, h⟩ := chk_some h
  obtain ⟨w6, hc6, h⟩ := bP_some h
  refine jw_pVv (As := [.int (45 : Int32)]) hX (GP_ok gs) hGX 1 (kX4_becomeOne hT hc6) gX1_strikeOut_X4_becomeOne rfl hdX4_becomeOne ⟨by decide, by decide⟩ 5 rfl (by decide) ho6_5 rfl (Nat.le_of_ble_eq_true rfl) dX1_strikeOut_6 rfl rfl ⟨by decide, by decide⟩ ?_
  refine jw_aload_n hX dX1_strikeOut_9 rfl 0 rfl ?_
  obtain ⟨ho10_9, h⟩ := chk_some h
  obtain ⟨q10, hr10, h⟩ := bP_some h
  refine jw_pgetR hX hT 2 1 rfl (by decide) (by decide) rfl inX1_strikeOut_2 rfl lkX1_strikeOut_20 ho10_9 hr10 dX1_strikeOut_10 ?_
  refine jw_bipush (v := (45 : Int32)) hX dX1_strikeOut_13 (by decide) ?_
  obtain ⟨ho15_13, h⟩ := chk_some h
  obtain ⟨w15, hc15, h⟩ := bP_some h
  refine jw_pVv (As := [.int (45 : Int32)]) hX (GP_ok gs) hGX 1 (kX4_becomeOne hT hc15) gX1_strikeOut_X4_becomeOne rfl hdX4_becomeOne ⟨by decide, by decide⟩ 5 rfl (by decide) ho15_13 rfl (Nat.le_of_ble_eq_true rfl) dX1_strikeOut_15 rfl rfl ⟨by decide, by decide⟩ ?_
  refine jw_iconst (v := (0 : Int32)) hX dX1_strikeOut_18 (by decide) ?_
  refine jw_istore_n hX [(1, .int (0 : Int32)), (0, .ref v0)] dX1_strikeOut_19 rfl (by decide) rfl ?_
  refine jw_sub [1, 0] [(0, .ref v0), (1, .int (0 : Int32))] rfl ?_
  obtain ⟨wx20, hl20, h⟩ := bL1_some h
  refine sX1_strikeOut_L20 hX hT hGX hret (o := wx20) (fun q0 e9 => ?_) n _ _ hl20
  cases e9
  refine jw_aload_n hX dX1_strikeOut_42 rfl 0 rfl ?_
  refine jw_iconst (v := (0 : Int32)) hX dX1_strikeOut_43 (by decide) ?_
  obtain ⟨ho44_2, h⟩ := chk_some h
  refine jw_pputI hX hT 2 3 rfl (by decide) (by decide) rfl inX1_strikeOut_2 rfl lkX1_strikeOut_55 tyX1 tyX1_ok nmX1 rfl (by decide +kernel) ho44_2 dX1_strikeOut_44 (fun w44 e44 => ?_)
  replace h := bnd_some h w44 e44
  clear e44
  refine jw_aload_n hX dX1_strikeOut_47 rfl 0 rfl ?_
  refine jw_iconst (v := (1 : Int32)) hX dX1_strikeOut_48 (by decide) ?_
  obtain ⟨ho49_8, h⟩ := chk_some h
  obtain ⟨hz49, h⟩ := chk_some h
  refine jw_pputZ hX hT 2 5 rfl (by decide) (by decide) rfl inX1_strikeOut_2 rfl lkX1_strikeOut_59 tyX1 tyX1_ok nmX1 rfl (by decide +kernel) hz49 ho49_8 dX1_strikeOut_49 (fun w49 e49 => ?_)
  replace h := bnd_some h w49 e49
  clear e49
  exact hret _ _ _ _ _ (by decide) (by decide) dX1_strikeOut_52 (hro _ (Option.some.inj h).symm)
set_option maxRecDepth 100000 in
set_option maxHeartbeats 4000000 in
theorem kX1_strikeOut {l : Launch} {D : va_G} {tys : List (ClassId × FieldType)} {cI cZ cO cJ : ClassId} {gs : JP} {n : Nat} {S : PS} {v0 : Nat} {w1 : PS} (hT : tys = jTy cI cZ cO cJ) (h : fX1_strikeOut n S v0 = some w1) : CC l (GP gs) D tys yX1_strikeOut wsX1_strikeOut rmX1_strikeOut [.ref v0] (pW cI cO S) (fun ov w2 => ov = none ∧ w2 = (pW cI cO w1)) := by
  refine CC_of (cc := cX1_strikeOut) (maxL := 2) (ret := none) (by decide) rfl (Nat.le_of_ble_eq_true rfl) ?_
  intro X hD hL hT0 hGX hX rI rZ rV rA
  exact sX1_strikeOut (post := fun ov w2 => ov = none ∧ w2 = (pW cI cO w1)) hX (hT0.trans hT) hGX (fun cells slots w9 pc lv => rV cells slots w9 pc lv rfl) (o := w1) (fun w9 e9 => by cases e9; exact ⟨rfl, rfl⟩) h
/-! X1_amountOf -/
abbrev rmX1_amountOf : Room := { frames := 0, cells := 0, slots := 0, locals := 0 }
theorem hdX1_amountOf : yX1_amountOf.cls = RX1 ∧ yX1_amountOf.cls ≠ "java/lang/invoke/MethodHandle" ∧ yX1_amountOf.cls ≠ "java/lang/invoke/VarHandle" ∧ (parseMethodDescriptor yX1_amountOf.desc).map (fun d => d.parameters.length) = some 1 := by decide +kernel
theorem lkX1_amountOf_23 : Cond.fieldLink RX1 23 RX1 (TX1 2).2.1 (TX1 2).2.2.1 ∈ wsX1_amountOf := by decide +kernel
theorem inX1_amountOf_2 : ∀ w ∈ wsX10, w ∈ wsX1_amountOf := fun _ h => List.mem_cons_of_mem _ (List.mem_append_right _ h)
def fX1_amountOf (S : PS) (v0 : Nat) (v1 : Int32) : Option Int32 := (if v1 < 0 then some (0 : Int32) else chk (okP S v0 2) (bP (sR S 22 v0) (fun q6 => chk (okP S q6 8) ((if (nI (sN S q6)) ≤ v1 then some (0 : Int32) else chk (okP S v0 2) (bP (sR S 22 v0) (fun q14 => chk (okP S q14 8) (chk (inB v1 (sN S q14)) (some (sA S q14 (v1).toNatClampNeg))))))))))
set_option maxRecDepth 100000 in
set_option maxHeartbeats 4000000 in
theorem sX1_amountOf {X : JX} {cI cZ cO cJ : ClassId} {gs : JP} {S : PS} {post : Option Value → va_W → Prop} (hX : jOK X cX1_amountOf 2 wsX1_amountOf RX1 rmX1_amountOf) (hT : jT X = jTy cI cZ cO cJ) (hGX : jG X (GP gs)) (hret : jRI X cX1_amountOf rmX1_amountOf post) {o : Int32} (hro : ∀ (v9 : Int32), o = v9 → post (some (.int v9)) (pW cI cO S))  {v0 : Nat} {v1 : Int32} (h : fX1_amountOf S v0 v1 = some o) : JW X 0 0 (pW cI cO S) 0 [(0, .ref v0), (1, .int v1)] [] := by
  unfold fX1_amountOf at h
  refine jw_iload_n hX dX1_amountOf_0 rfl 1 rfl ?_
  refine jw_if_lt (tgt := 22) hX dX1_amountOf_1 (by decide) (fun hc => ?_) (fun hc => ?_)
  · rw [if_pos hc] at h
    refine jw_iconst (v := (0 : Int32)) hX dX1_amountOf_22 (by decide) ?_
    exact hret _ _ _ _ _ _ (by decide) (by decide) dX1_amountOf_23 (hro _ (Option.some.inj h).symm)
  · rw [if_neg hc] at h
    refine jw_iload_n hX dX1_amountOf_4 rfl 1 rfl ?_
    refine jw_aload_n hX dX1_amountOf_5 rfl 0 rfl ?_
    obtain ⟨ho6_2, h⟩ := chk_some h
    obtain ⟨q6, hr6, h⟩ := bP_some h
    refine jw_pgetR hX hT 2 2 rfl (by decide) (by decide) rfl inX1_amountOf_2 rfl lkX1_amountOf_23 ho6_2 hr6 dX1_amountOf_6 ?_
    obtain ⟨ho9_5, h⟩ := chk_some h
    refine jw_pialen hX hT ho9_5 dX1_amountOf_9 ?_
    refine jw_icmp_ge (tgt := 22) hX dX1_amountOf_10 (by decide) (fun hc => ?_) (fun hc => ?_)
    · rw [if_pos hc] at h
      refine jw_iconst (v := (0 : Int32)) hX dX1_amountOf_22 (by decide) ?_
      exact hret _ _ _ _ _ _ (by decide) (by decide) dX1_amountOf_23 (hro _ (Option.some.inj h).symm)
    · rw [if_neg hc] at h
      refine jw_aload_n hX dX1_amountOf_13 rfl 0 rfl ?_
      obtain ⟨ho14_1, h⟩ := chk_some h
      obtain ⟨q14, hr14, h⟩ := bP_some h
      refine jw_pgetR hX hT 2 2 rfl (by decide) (by decide) rfl inX1_amountOf_2 rfl lkX1_amountOf_23 ho14_1 hr14 dX1_amountOf_14 ?_
      refine jw_iload_n hX dX1_amountOf_17 rfl 1 rfl ?_
      obtain ⟨ho18_5, h⟩ := chk_some h
      obtain ⟨hb18, h⟩ := chk_some h
      refine jw_piald hX hT ho18_5 hb18 dX1_amountOf_18 ?_
      refine jw_goto (tgt := 23) hX dX1_amountOf_19 (by decide) ?_
      exact hret _ _ _ _ _ _ (by decide) (by decide) dX1_amountOf_23 (hro _ (Option.some.inj h).symm)
set_option maxRecDepth 100000 in
set_option maxHeartbeats 4000000 in
theorem kX1_amountOf {l : Launch} {D : va_G} {tys : List (ClassId × FieldType)} {cI cZ cO cJ : ClassId} {gs : JP} {S : PS} {v0 : Nat} {v1 : Int32} {r : Int32} (hT : tys = jTy cI cZ cO cJ) (h : fX1_amountOf S v0 v1 = some r) : CC l (GP gs) D tys yX1_amountOf wsX1_amountOf rmX1_amountOf [.ref v0, .int v1] (pW cI cO S) (fun ov w2 => ov = some (.int r) ∧ w2 = (pW cI cO S)) := by
  refine CC_of (cc := cX1_amountOf) (maxL := 2) (ret := (some .int)) (by decide) rfl (Nat.le_of_ble_eq_true rfl) ?_
  intro X hD hL hT0 hGX hX rI rZ rV rA
  exact sX1_amountOf (post := fun ov w2 => ov = some (.int r) ∧ w2 = (pW cI cO S)) hX (hT0.trans hT) hGX (fun cells slots w9 pc lv v => rI cells slots w9 pc lv v rfl) (o := r) (fun v9 e9 => by cases e9; exact ⟨rfl, rfl⟩) h
/-! X1_allAmounts -/
abbrev rmX1_allAmounts : Room := { frames := 0, cells := 0, slots := 0, locals := 0 }
theorem hdX1_allAmounts : yX1_allAmounts.cls = RX1 ∧ yX1_allAmounts.cls ≠ "java/lang/invoke/MethodHandle" ∧ yX1_allAmounts.cls ≠ "java/lang/invoke/VarHandle" ∧ (parseMethodDescriptor yX1_allAmounts.desc).map (fun d => d.parameters.length) = some 0 := by decide +kernel
theorem lkX1_allAmounts_23 : Cond.fieldLink RX1 23 RX1 (TX1 2).2.1 (TX1 2).2.2.1 ∈ wsX1_allAmounts := by decide +kernel
theorem inX1_allAmounts_2 : ∀ w ∈ wsX10, w ∈ wsX1_allAmounts := fun _ h => List.mem_cons_of_mem _ (List.mem_append_right _ h)
def fX1_allAmounts_L4 (n : Nat) : Nat → PS → Nat → Int32 → Int32 → Option (Int32)
  | 0, _, _, _, _ => none
  | k + 1, S, v0, v1, v2 => chk (okP S v0 2) (bP (sR S 22 v0) (fun q6 => chk (okP S q6 8) ((if (nI (sN S q6)) ≤ v2 then some v1 else chk (okP S v0 2) (bP (sR S 22 v0) (fun q15 => chk (okP S q15 8) (chk (inB v2 (sN S q15)) (bnd ((v1 + (sA S q15 (v2).toNatClampNeg))) (fun y21 => fX1_allAmounts_L4 n k S v0 y21 (v2 + (1 : Int32)))))))))))
def fX1_allAmounts (n : Nat) (S : PS) (v0 : Nat) : Option Int32 := bL1 (fX1_allAmounts_L4 n n S v0 (0 : Int32) (0 : Int32)) (fun x1_4 => some x1_4)
set_option maxRecDepth 100000 in
set_option maxHeartbeats 4000000 in
theorem sX1_allAmounts_L4 {X : JX} {cI cZ cO cJ : ClassId} {gs : JP} {n : Nat} {S : PS} {post : Option Value → va_W → Prop} (hX : jOK X cX1_allAmounts 3 wsX1_allAmounts RX1 rmX1_allAmounts) (hT : jT X = jTy cI cZ cO cJ) (hGX : jG X (GP gs)) (hret : jRI X cX1_allAmounts rmX1_allAmounts post) {o : (Int32)} (hex : ∀ (x1 : Int32), o = x1 → JW X 0 0 (pW cI cO S) 28 [(1, .int x1)] [])  : ∀ (k : Nat) (v0 : Nat) (v1 : Int32) (v2 : Int32), fX1_allAmounts_L4 n k S v0 v1 v2 = some o → JW X 0 0 (pW cI cO S) 4 [(0, .ref v0), (1, .int v1), (2, .int v2)] [] := by
  intro k
  induction k with
  | zero => intro v0 v1 v2 h; cases h
  | succ k hrec0 =>
    intro v0 v1 v2 h
    unfold fX1_allAmounts_L4 at h
    refine jw_iload_n hX dX1_allAmounts_4 rfl 2 rfl ?_
    refine jw_aload_n hX dX1_allAmounts_5 rfl 0 rfl ?_
    obtain ⟨ho6_2, h⟩ := chk_some h
    obtain ⟨q6, hr6, h⟩ := bP_some h
    refine jw_pgetR hX hT 2 2 rfl (by decide) (by decide) rfl inX1_allAmounts_2 rfl lkX1_allAmounts_23 ho6_2 hr6 dX1_allAmounts_6 ?_
    obtain ⟨ho9_5, h⟩ := chk_some h
    refine jw_pialen hX hT ho9_5 dX1_allAmounts_9 ?_
    refine jw_icmp_ge (tgt := 28) hX dX1_allAmounts_10 (by decide) (fun hc => ?_) (fun hc => ?_)
    · rw [if_pos hc] at h
      refine jw_sub [1] [(1, .int v1)] rfl ?_
      exact hex _ (Option.some.inj h).symm
    · rw [if_neg hc] at h
      refine jw_iload_n hX dX1_allAmounts_13 rfl 1 rfl ?_
      refine jw_aload_n hX dX1_allAmounts_14 rfl 0 rfl ?_
      obtain ⟨ho15_2, h⟩ := chk_some h
      obtain ⟨q15, hr15, h⟩ := bP_some h
      refine jw_pgetR hX hT 2 2 rfl (by decide) (by decide) rfl inX1_allAmounts_2 rfl lkX1_allAmounts_23 ho15_2 hr15 dX1_allAmounts_15 ?_
      refine jw_iload_n hX dX1_allAmounts_18 rfl 2 rfl ?_
      obtain ⟨ho19_6, h⟩ := chk_some h
      obtain ⟨hb19, h⟩ := chk_some h
      refine jw_piald hX hT ho19_6 hb19 dX1_allAmounts_19 ?_
      refine jw_iadd hX dX1_allAmounts_20 ?_
      refine jw_topi (fun y21 e21 => ?_)
      replace h := bnd_some h y21 e21
      clear e21
      refine jw_istore_n hX [(1, .int y21), (0, .ref v0), (2, .int v2)] dX1_allAmounts_21 rfl (by decide) rfl ?_
      refine jw_iinc (v := (v2 + (1 : Int32))) hX [(2, .int (v2 + (1 : Int32))), (1, .int y21), (0, .ref v0)] dX1_allAmounts_22 2 rfl (by first | rfl | (congr 1; decide)) (by decide) rfl ?_
      refine jw_goto (tgt := 4) hX dX1_allAmounts_25 (by decide) ?_
      refine jw_sub [2, 1, 0] [(0, .ref v0), (1, .int y21), (2, .int (v2 + (1 : Int32)))] rfl ?_
      exact hrec0 _ _ _ h
set_option maxRecDepth 100000 in
set_option maxHeartbeats 4000000 in
theorem sX1_allAmounts {X : JX} {cI cZ cO cJ : ClassId} {gs : JP} {n : Nat} {S : PS} {post : Option Value → va_W → Prop} (hX : jOK X cX1_allAmounts 3 wsX1_allAmounts RX1 rmX1_allAmounts) (hT : jT X = jTy cI cZ cO cJ) (hGX : jG X (GP gs)) (hret : jRI X cX1_allAmounts rmX1_allAmounts post) {o : Int32} (hro : ∀ (v9 : Int32), o = v9 → post (some (.int v9)) (pW cI cO S))  {v0 : Nat} (h : fX1_allAmounts n S v0 = some o) : JW X 0 0 (pW cI cO S) 0 [(0, .ref v0)] [] := by
  unfold fX1_allAmounts at h
  refine jw_iconst (v := (0 : Int32)) hX dX1_allAmounts_0 (by decide) ?_
  refine jw_istore_n hX [(1, .int (0 : Int32)), (0, .ref v0)] dX1_allAmounts_1 rfl (by decide) rfl ?_
  refine jw_iconst (v := (0 : Int32)) hX dX1_allAmounts_2 (by decide) ?_
  refine jw_istore_n hX [(2, .int (0 : Int32)), (1, .int (0 : Int32)), (0, .ref v0)] dX1_allAmounts_3 rfl (by decide) rfl ?_
  refine jw_sub [2, 1, 0] [(0, .ref v0), (1, .int (0 : Int32)), (2, .int (0 : Int32))] rfl ?_
  obtain ⟨x1_4, hl4, h⟩ := bL1_some h
  refine sX1_allAmounts_L4 hX hT hGX hret (o := x1_4) (fun q0 e9 => ?_) n _ _ _ hl4
  cases e9
  refine jw_iload_n hX dX1_allAmounts_28 rfl 0 rfl ?_
  exact hret _ _ _ _ _ _ (by decide) (by decide) dX1_allAmounts_29 (hro _ (Option.some.inj h).symm)
set_option maxRecDepth 100000 in
set_option maxHeartbeats 4000000 in
theorem kX1_allAmounts {l : Launch} {D : va_G} {tys : List (ClassId × FieldType)} {cI cZ cO cJ : ClassId} {gs : JP} {n : Nat} {S : PS} {v0 : Nat} {r : Int32} (hT : tys = jTy cI cZ cO cJ) (h : fX1_allAmounts n S v0 = some r) : CC l (GP gs) D tys yX1_allAmounts wsX1_allAmounts rmX1_allAmounts [.ref v0] (pW cI cO S) (fun ov w2 => ov = some (.int r) ∧ w2 = (pW cI cO S)) := by
  refine CC_of (cc := cX1_allAmounts) (maxL := 3) (ret := (some .int)) (by decide) rfl (Nat.le_of_ble_eq_true rfl) ?_
  intro X hD hL hT0 hGX hX rI rZ rV rA
  exact sX1_allAmounts (post := fun ov w2 => ov = some (.int r) ∧ w2 = (pW cI cO S)) hX (hT0.trans hT) hGX (fun cells slots w9 pc lv v => rI cells slots w9 pc lv v rfl) (o := r) (fun v9 e9 => by cases e9; exact ⟨rfl, rfl⟩) h
/-! X1_has -/
abbrev rmX1_has : Room := { frames := 0, cells := 0, slots := 0, locals := 0 }
theorem hdX1_has : yX1_has.cls = RX1 ∧ yX1_has.cls ≠ "java/lang/invoke/MethodHandle" ∧ yX1_has.cls ≠ "java/lang/invoke/VarHandle" ∧ (parseMethodDescriptor yX1_has.desc).map (fun d => d.parameters.length) = some 1 := by decide +kernel
theorem lkX1_has_55 : Cond.fieldLink RX1 55 RX1 (TX1 3).2.1 (TX1 3).2.2.1 ∈ wsX1_has := by decide +kernel
theorem inX1_has_2 : ∀ w ∈ wsX10, w ∈ wsX1_has := fun _ h => List.mem_cons_of_mem _ (List.mem_append_right _ h)
def fX1_has (S : PS) (v0 : Nat) (v1 : Int32) : Option Int32 := chk (okP S v0 2) ((if (((sI S 23 v0) >>> (v1 &&& 31)) &&& (1 : Int32)) = 0 then chk (b01 (0 : Int32)) (some (0 : Int32)) else chk (b01 (1 : Int32)) (some (1 : Int32))))
set_option maxRecDepth 100000 in
set_option maxHeartbeats 4000000 in
theorem sX1_has {X : JX} {cI cZ cO cJ : ClassId} {gs : JP} {S : PS} {post : Option Value → va_W → Prop} (hX : jOK X cX1_has 2 wsX1_has RX1 rmX1_has) (hT : jT X = jTy cI cZ cO cJ) (hGX : jG X (GP gs)) (hret : jRZ X cX1_has rmX1_has post) {o : Int32} (hro : ∀ (v9 : Int32), o = v9 → post (some (.int v9)) (pW cI cO S))  {v0 : Nat} {v1 : Int32} (h : fX1_has S v0 v1 = some o) : JW X 0 0 (pW cI cO S) 0 [(0, .ref v0), (1, .int v1)] [] := by
  unfold fX1_has at h
  refine jw_aload_n hX dX1_has_0 rfl 0 rfl ?_
  obtain ⟨ho1_1, h⟩ := chk_some h
  refine jw_pgetI hX hT 2 3 rfl (by decide) (by decide) rfl inX1_has_2 rfl lkX1_has_55 ho1_1 dX1_has_1 ?_
  refine jw_iload_n hX dX1_has_4 rfl 1 rfl ?_
  refine jw_ishr hX dX1_has_5 ?_
  refine jw_iconst (v := (1 : Int32)) hX dX1_has_6 (by decide) ?_
  refine jw_iand hX dX1_has_7 ?_
  refine jw_if_eq (tgt := 15) hX dX1_has_8 (by decide) (fun hc => ?_) (fun hc => ?_)
  · rw [if_pos hc] at h
    refine jw_iconst (v := (0 : Int32)) hX dX1_has_15 (by decide) ?_
    obtain ⟨hz16, h⟩ := chk_some h
    exact hret _ _ _ _ _ _ (b01_or hz16) (by decide) (by decide) dX1_has_16 (hro _ (Option.some.inj h).symm)
  · rw [if_neg hc] at h
    refine jw_iconst (v := (1 : Int32)) hX dX1_has_11 (by decide) ?_
    refine jw_goto (tgt := 16) hX dX1_has_12 (by decide) ?_
    obtain ⟨hz16, h⟩ := chk_some h
    exact hret _ _ _ _ _ _ (b01_or hz16) (by decide) (by decide) dX1_has_16 (hro _ (Option.some.inj h).symm)
set_option maxRecDepth 100000 in
set_option maxHeartbeats 4000000 in
theorem kX1_has {l : Launch} {D : va_G} {tys : List (ClassId × FieldType)} {cI cZ cO cJ : ClassId} {gs : JP} {S : PS} {v0 : Nat} {v1 : Int32} {r : Int32} (hT : tys = jTy cI cZ cO cJ) (h : fX1_has S v0 v1 = some r) : CC l (GP gs) D tys yX1_has wsX1_has rmX1_has [.ref v0, .int v1] (pW cI cO S) (fun ov w2 => ov = some (.int r) ∧ w2 = (pW cI cO S)) := by
  refine CC_of (cc := cX1_has) (maxL := 2) (ret := (some .boolean)) (by decide) rfl (Nat.le_of_ble_eq_true rfl) ?_
  intro X hD hL hT0 hGX hX rI rZ rV rA
  exact sX1_has (post := fun ov w2 => ov = some (.int r) ∧ w2 = (pW cI cO S)) hX (hT0.trans hT) hGX (fun cells slots w9 pc lv v => rZ cells slots w9 pc lv v rfl) (o := r) (fun v9 e9 => by cases e9; exact ⟨rfl, rfl⟩) h
/-! X1_spreadPosting -/
abbrev rmX1_spreadPosting : Room := { frames := 2, cells := 0, slots := 0, locals := 45 }
theorem hdX1_spreadPosting : yX1_spreadPosting.cls = RX1 ∧ yX1_spreadPosting.cls ≠ "java/lang/invoke/MethodHandle" ∧ yX1_spreadPosting.cls ≠ "java/lang/invoke/VarHandle" ∧ (parseMethodDescriptor yX1_spreadPosting.desc).map (fun d => d.parameters.length) = some 2 := by decide +kernel
theorem lkX1_spreadPosting_20 : Cond.fieldLink RX1 20 RX1 (TX1 1).2.1 (TX1 1).2.2.1 ∈ wsX1_spreadPosting := by decide +kernel
theorem inX1_spreadPosting_2 : ∀ w ∈ wsX10, w ∈ wsX1_spreadPosting := fun _ h => List.mem_cons_of_mem _ (List.mem_append_left _ (List.mem_append_right _ h))
theorem n1X1_spreadPosting_X6_isDigit : Cond.static yX6_isDigit ∈ wsX1_spreadPosting := by decide +kernel
theorem n2X1_spreadPosting_X6_isDigit : Cond.initialized yX6_isDigit.cls ∈ wsX1_spreadPosting := by decide +kernel
def fX1_spreadPosting_L66 (n : Nat) : Nat → PS → Nat → Int32 → Nat → Int32 → Int32 → Int32 → Option (PS)
  | 0, _, _, _, _, _, _, _ => none
  | k + 1, S, v0, v1, v2, v3, v4, v5 => chk (okP S v0 2) (bP (sR S 21 v0) (fun q69 => chk (okP S q69 5) (bP (fX4_size S q69) (fun r72 => (if r72 ≤ v5 then some (S) else chk (okP S v0 2) (bP (sR S 21 v0) (fun q79 => chk (okP S q79 5) (bP (fX4_at S q79 v5) (fun r84 => bP (fX6_isDigit r84) (fun r87 => (if r87 = 0 then some (S) else chk (okP S v0 2) (bP (sR S 21 v0) (fun q95 => chk (okP S q95 5) (bP (fX4_at S q95 v5) (fun r100 => chk (okP S v2 5) (bP (fX4_add S v2 r100) (fun w103 => fX1_spreadPosting_L66 n k w103 v0 v1 v2 v3 v4 (v5 + (1 : Int32)))))))))))))))))))
def fX1_spreadPosting_J35 (n : Nat) (rec : PS → Nat → Int32 → Nat → Int32 → Int32 → Option (PS)) (S : PS) (v0 : Nat) (v1 : Int32) (v2 : Nat) (v3 : Int32) (v4 : Int32) : Option (PS) := chk (okP S v0 2) (bP (sR S 21 v0) (fun q37 => chk (okP S q37 5) (bP (fX4_at S q37 v1) (fun r41 => chk (okP S v2 5) (bP (fX4_add S v2 r41) (fun w44 => chk (okP w44 v0 2) (bP (sR w44 21 v0) (fun q49 => chk (okP w44 q49 5) (bP (fX4_at w44 q49 (v1 + (1 : Int32))) (fun r55 => chk (okP w44 v2 5) (bP (fX4_add w44 v2 r55) (fun w58 => bnd ((v1 + (2 : Int32))) (fun y64 => bL1 (fX1_spreadPosting_L66 n n w58 v0 v1 v2 v3 v4 y64) (fun wx66 => rec wx66 v0 v1 v2 v3 (v4 + (1 : Int32))))))))))))))))
def fX1_spreadPosting_L9 (n : Nat) : Nat → PS → Nat → Int32 → Nat → Int32 → Int32 → Option (PS)
  | 0, _, _, _, _, _, _ => none
  | k + 1, S, v0, v1, v2, v3, v4 => (if v3 ≤ v4 then some (S) else (if (60 : Int32) ≤ v4 then some (S) else chk (okP S v2 5) (bP (fX4_size S v2) (fun r23 => (if r23 ≤ 0 then fX1_spreadPosting_J35 n (fX1_spreadPosting_L9 n k) S v0 v1 v2 v3 v4 else chk (okP S v2 5) (bP (fX4_add S v2 (32 : Int32)) (fun w32 => fX1_spreadPosting_J35 n (fX1_spreadPosting_L9 n k) w32 v0 v1 v2 v3 v4)))))))
def fX1_spreadPosting (n : Nat) (S : PS) (v0 : Nat) (v1 : Int32) (v2 : Nat) : Option PS := chk (okP S v0 2) (bP (fX1_timesAt n S v0 v1) (fun r2 => bL1 (fX1_spreadPosting_L9 n n S v0 v1 v2 r2 (0 : Int32)) (fun wx9 => some wx9)))
set_option maxRecDepth 100000 in
set_option maxHeartbeats 4000000 in
theorem sX1_spreadPosting_L66 {X : JX} {cI cZ cO cJ : ClassId} {gs : JP} {n : Nat} {post : Option Value → va_W → Prop} (hX : jOK X cX1_spreadPosting 6 wsX1_spreadPosting RX1 rmX1_spreadPosting) (hT : jT X = jTy cI cZ cO cJ) (hGX : jG X (GP gs)) (hret : jRV X cX1_spreadPosting rmX1_spreadPosting post) {o : (PS)} {v0 : Nat} {v1 : Int32} {v2 : Nat} {v3 : Int32} {v4 : Int32} (hex : ∀ (w9 : PS), o = w9 → JW X 0 0 (pW cI cO w9) 112 [(0, .ref v0), (1, .int v1), (2, .ref v2), (3, .int v3), (4, .int v4)] [])  : ∀ (k : Nat) (S : PS) (v5 : Int32), fX1_spreadPosting_L66 n k S v0 v1 v2 v3 v4 v5 = some o → JW X 0 0 (pW cI cO S) 66 [(0, .ref v0), (1, .int v1), (2, .ref v2), (3, .int v3), (4, .int v4), (5, .int v5)] [] := by
  intro k
  induction k with
  | zero => intro S v5 h; cases h
  | succ k hrec0 =>
    intro S v5 h
    unfold fX1_spreadPosting_L66 at h
    refine jw_iload hX dX1_spreadPosting_66 5 rfl ?_
    refine jw_aload_n hX dX1_spreadPosting_68 rfl 0 rfl ?_
    obtain ⟨ho69_2, h⟩ := chk_some h
    obtain ⟨q69, hr69, h⟩ := bP_some h
    refine jw_pgetR hX hT 2 1 rfl (by decide) (by decide) rfl inX1_spreadPosting_2 rfl lkX1_spreadPosting_20 ho69_2 hr69 dX1_spreadPosting_69 ?_
    obtain ⟨ho72_5, h⟩ := chk_some h
    obtain ⟨r72, hc72, h⟩ := bP_some h
    refine jw_pVi (As := []) hX (GP_ok gs) hGX 0 (kX4_size hT hc72) gX1_spreadPosting_X4_size rfl hdX4_size ⟨by decide, by decide⟩ 5 rfl (by decide) ho72_5 rfl (Nat.le_of_ble_eq_true rfl) dX1_spreadPosting_72 rfl rfl ⟨by decide, by decide⟩ ?_
    refine jw_icmp_ge (tgt := 112) hX dX1_spreadPosting_75 (by decide) (fun hc => ?_) (fun hc => ?_)
    · rw [if_pos hc] at h
      refine jw_sub [0, 1, 2, 3, 4] [(0, .ref v0), (1, .int v1), (2, .ref v2), (3, .int v3), (4, .int v4)] rfl ?_
      exact hex _ (Option.some.inj h).symm
    · rw [if_neg hc] at h
      refine jw_aload_n hX dX1_spreadPosting_78 rfl 0 rfl ?_
      obtain ⟨ho79_1, h⟩ := chk_some h
      obtain ⟨q79, hr79, h⟩ := bP_some h
      refine jw_pgetR hX hT 2 1 rfl (by decide) (by decide) rfl inX1_spreadPosting_2 rfl lkX1_spreadPosting_20 ho79_1 hr79 dX1_spreadPosting_79 ?_
      refine jw_iload hX dX1_spreadPosting_82 5 rfl ?_
      obtain ⟨ho84_5, h⟩ := chk_some h
      obtain ⟨r84, hc84, h⟩ := bP_some h
      refine jw_pVi (As := [.int v5]) hX (GP_ok gs) hGX 1 (kX4_at hT hc84) gX1_spreadPosting_X4_at rfl hdX4_at ⟨by decide, by decide⟩ 5 rfl (by decide) ho84_5 rfl (Nat.le_of_ble_eq_true rfl) dX1_spreadPosting_84 rfl rfl ⟨by decide, by decide⟩ ?_
      obtain ⟨r87, hc87, h⟩ := bP_some h
      refine jw_pSNi (As := [.int r84]) hX (GP_ok gs) hGX 1 (kX6_isDigit hT hc87) gX1_spreadPosting_X6_isDigit_n76 rfl (gp_nm hGX (w := .methodLinkNest RX1 76 yX6_isDigit "Postlint") (by decide +kernel)) (Or.inl n1X1_spreadPosting_X6_isDigit) (Or.inl n2X1_spreadPosting_X6_isDigit) hdX6_isDigit ⟨by decide, by decide⟩ rfl (Nat.le_of_ble_eq_true rfl) dX1_spreadPosting_87 rfl rfl ⟨by decide, by decide⟩ ?_
      refine jw_if_eq (tgt := 112) hX dX1_spreadPosting_90 (by decide) (fun hc => ?_) (fun hc => ?_)
      · rw [if_pos hc] at h
        refine jw_sub [0, 1, 2, 3, 4] [(0, .ref v0), (1, .int v1), (2, .ref v2), (3, .int v3), (4, .int v4)] rfl ?_
        exact hex _ (Option.some.inj h).symm
      · rw [if_neg hc] at h
        refine jw_aload_n hX dX1_spreadPosting_93 rfl 2 rfl ?_
        refine jw_aload_n hX dX1_spreadPosting_94 rfl 0 rfl ?_
        obtain ⟨ho95_2, h⟩ := chk_some h
        obtain ⟨q95, hr95, h⟩ := bP_some h
        refine jw_pgetR hX hT 2 1 rfl (by decide) (by decide) rfl inX1_spreadPosting_2 rfl lkX1_spreadPosting_20 ho95_2 hr95 dX1_spreadPosting_95 ?_
        refine jw_iload hX dX1_spreadPosting_98 5 rfl ?_
        obtain ⟨ho100_6, h⟩ := chk_some h
        obtain ⟨r100, hc100, h⟩ := bP_some h
        refine jw_pVi (As := [.int v5]) hX (GP_ok gs) hGX 1 (kX4_at hT hc100) gX1_spreadPosting_X4_at rfl hdX4_at ⟨by decide, by decide⟩ 5 rfl (by decide) ho100_6 rfl (Nat.le_of_ble_eq_true rfl) dX1_spreadPosting_100 rfl rfl ⟨by decide, by decide⟩ ?_
        obtain ⟨ho103_9, h⟩ := chk_some h
        obtain ⟨w103, hc103, h⟩ := bP_some h
        refine jw_pVv (As := [.int r100]) hX (GP_ok gs) hGX 1 (kX4_add hT hc103) gX1_spreadPosting_X4_add rfl hdX4_add ⟨by decide, by decide⟩ 5 rfl (by decide) ho103_9 rfl (Nat.le_of_ble_eq_true rfl) dX1_spreadPosting_103 rfl rfl ⟨by decide, by decide⟩ ?_
        refine jw_iinc (v := (v5 + (1 : Int32))) hX [(5, .int (v5 + (1 : Int32))), (0, .ref v0), (1, .int v1), (2, .ref v2), (3, .int v3), (4, .int v4)] dX1_spreadPosting_106 5 rfl (by first | rfl | (congr 1; decide)) (by decide) rfl ?_
        refine jw_goto (tgt := 66) hX dX1_spreadPosting_109 (by decide) ?_
        refine jw_sub [1, 2, 3, 4, 5, 0] [(0, .ref v0), (1, .int v1), (2, .ref v2), (3, .int v3), (4, .int v4), (5, .int (v5 + (1 : Int32)))] rfl ?_
        exact hrec0 _ _ h
set_option maxRecDepth 100000 in
set_option maxHeartbeats 4000000 in
theorem sX1_spreadPosting_J35 {X : JX} {cI cZ cO cJ : ClassId} {gs : JP} {n : Nat} {post : Option Value → va_W → Prop} (hX : jOK X cX1_spreadPosting 6 wsX1_spreadPosting RX1 rmX1_spreadPosting) (hT : jT X = jTy cI cZ cO cJ) (hGX : jG X (GP gs)) (hret : jRV X cX1_spreadPosting rmX1_spreadPosting post) {o : (PS)} {rec : PS → Nat → Int32 → Nat → Int32 → Int32 → Option (PS)} {v0 : Nat} {v1 : Int32} {v2 : Nat} {v3 : Int32} {v4 : Int32} {S : PS} (hrec : ∀ (S : PS) (v0 : Nat) (v1 : Int32) (v2 : Nat) (v3 : Int32) (v4 : Int32), rec S v0 v1 v2 v3 v4 = some o → JW X 0 0 (pW cI cO S) 9 [(0, .ref v0), (1, .int v1), (2, .ref v2), (3, .int v3), (4, .int v4)] [])  (hex : ∀ (w9 : PS), o = w9 → JW X 0 0 (pW cI cO w9) 118 [] [])  (h : fX1_spreadPosting_J35 n rec S v0 v1 v2 v3 v4 = some o) : JW X 0 0 (pW cI cO S) 35 [(0, .ref v0), (1, .int v1), (2, .ref v2), (3, .int v3), (4, .int v4)] [] := by
  unfold fX1_spreadPosting_J35 at h
  refine jw_aload_n hX dX1_spreadPosting_35 rfl 2 rfl ?_
  refine jw_aload_n hX dX1_spreadPosting_36 rfl 0 rfl ?_
  obtain ⟨ho37_2, h⟩ := chk_some h
  obtain ⟨q37, hr37, h⟩ := bP_some h
  refine jw_pgetR hX hT 2 1 rfl (by decide) (by decide) rfl inX1_spreadPosting_2 rfl lkX1_spreadPosting_20 ho37_2 hr37 dX1_spreadPosting_37 ?_
  refine jw_iload_n hX dX1_spreadPosting_40 rfl 1 rfl ?_
  obtain ⟨ho41_6, h⟩ := chk_some h
  obtain ⟨r41, hc41, h⟩ := bP_some h
  refine jw_pVi (As := [.int v1]) hX (GP_ok gs) hGX 1 (kX4_at hT hc41) gX1_spreadPosting_X4_at rfl hdX4_at ⟨by decide, by decide⟩ 5 rfl (by decide) ho41_6 rfl (Nat.le_of_ble_eq_true rfl) dX1_spreadPosting_41 rfl rfl ⟨by decide, by decide⟩ ?_
  obtain ⟨ho44_9, h⟩ := chk_some h
  obtain ⟨w44, hc44, h⟩ := bP_some h
  refine jw_pVv (As := [.int r41]) hX (GP_ok gs) hGX 1 (kX4_add hT hc44) gX1_spreadPosting_X4_add rfl hdX4_add ⟨by decide, by decide⟩ 5 rfl (by decide) ho44_9 rfl (Nat.le_of_ble_eq_true rfl) dX1_spreadPosting_44 rfl rfl ⟨by decide, by decide⟩ ?_
  refine jw_aload_n hX dX1_spreadPosting_47 rfl 2 rfl ?_
  refine jw_aload_n hX dX1_spreadPosting_48 rfl 0 rfl ?_
  obtain ⟨ho49_14, h⟩ := chk_some h
  obtain ⟨q49, hr49, h⟩ := bP_some h
  refine jw_pgetR hX hT 2 1 rfl (by decide) (by decide) rfl inX1_spreadPosting_2 rfl lkX1_spreadPosting_20 ho49_14 hr49 dX1_spreadPosting_49 ?_
  refine jw_iload_n hX dX1_spreadPosting_52 rfl 1 rfl ?_
  refine jw_iconst (v := (1 : Int32)) hX dX1_spreadPosting_53 (by decide) ?_
  refine jw_iadd hX dX1_spreadPosting_54 ?_
  obtain ⟨ho55_20, h⟩ := chk_some h
  obtain ⟨r55, hc55, h⟩ := bP_some h
  refine jw_pVi (As := [.int (v1 + (1 : Int32))]) hX (GP_ok gs) hGX 1 (kX4_at hT hc55) gX1_spreadPosting_X4_at rfl hdX4_at ⟨by decide, by decide⟩ 5 rfl (by decide) ho55_20 rfl (Nat.le_of_ble_eq_true rfl) dX1_spreadPosting_55 rfl rfl ⟨by decide, by decide⟩ ?_
  obtain ⟨ho58_23, h⟩ := chk_some h
  obtain ⟨w58, hc58, h⟩ := bP_some h
  refine jw_pVv (As := [.int r55]) hX (GP_ok gs) hGX 1 (kX4_add hT hc58) gX1_spreadPosting_X4_add rfl hdX4_add ⟨by decide, by decide⟩ 5 rfl (by decide) ho58_23 rfl (Nat.le_of_ble_eq_true rfl) dX1_spreadPosting_58 rfl rfl ⟨by decide, by decide⟩ ?_
  refine jw_iload_n hX dX1_spreadPosting_61 rfl 1 rfl ?_
  refine jw_iconst (v := (2 : Int32)) hX dX1_spreadPosting_62 (by decide) ?_
  refine jw_iadd hX dX1_spreadPosting_63 ?_
  refine jw_topi (fun y64 e64 => ?_)
  replace h := bnd_some h y64 e64
  clear e64
  refine jw_istore hX [(5, .int y64), (0, .ref v0), (1, .int v1), (2, .ref v2), (3, .int v3), (4, .int v4)] dX1_spreadPosting_64 (by decide) rfl ?_
  refine jw_sub [1, 2, 3, 4, 5, 0] [(0, .ref v0), (1, .int v1), (2, .ref v2), (3, .int v3), (4, .int v4), (5, .int y64)] rfl ?_
  obtain ⟨wx66, hl66, h⟩ := bL1_some h
  refine sX1_spreadPosting_L66 hX hT hGX hret (o := wx66) (fun q0 e9 => ?_) n _ _ hl66
  cases e9
  refine jw_iinc (v := (v4 + (1 : Int32))) hX [(4, .int (v4 + (1 : Int32))), (0, .ref v0), (1, .int v1), (2, .ref v2), (3, .int v3)] dX1_spreadPosting_112 4 rfl (by first | rfl | (congr 1; decide)) (by decide) rfl ?_
  refine jw_goto (tgt := 9) hX dX1_spreadPosting_115 (by decide) ?_
  refine jw_sub [1, 2, 3, 4, 0] [(0, .ref v0), (1, .int v1), (2, .ref v2), (3, .int v3), (4, .int (v4 + (1 : Int32)))] rfl ?_
  exact hrec _ _ _ _ _ _ h
set_option maxRecDepth 100000 in
set_option maxHeartbeats 4000000 in
theorem sX1_spreadPosting_L9 {X : JX} {cI cZ cO cJ : ClassId} {gs : JP} {n : Nat} {post : Option Value → va_W → Prop} (hX : jOK X cX1_spreadPosting 6 wsX1_spreadPosting RX1 rmX1_spreadPosting) (hT : jT X = jTy cI cZ cO cJ) (hGX : jG X (GP gs)) (hret : jRV X cX1_spreadPosting rmX1_spreadPosting post) {o : (PS)} (hex : ∀ (w9 : PS), o = w9 → JW X 0 0 (pW cI cO w9) 118 [] [])  : ∀ (k : Nat) (S : PS) (v0 : Nat) (v1 : Int32) (v2 : Nat) (v3 : Int32) (v4 : Int32), fX1_spreadPosting_L9 n k S v0 v1 v2 v3 v4 = some o → JW X 0 0 (pW cI cO S) 9 [(0, .ref v0), (1, .int v1), (2, .ref v2), (3, .int v3), (4, .int v4)] [] := by
  intro k
  induction k with
  | zero => intro S v0 v1 v2 v3 v4 h; cases h
  | succ k hrec0 =>
    intro S v0 v1 v2 v3 v4 h
    unfold fX1_spreadPosting_L9 at h
    refine jw_iload hX dX1_spreadPosting_9 4 rfl ?_
    refine jw_iload_n hX dX1_spreadPosting_11 rfl 3 rfl ?_
    refine jw_icmp_ge (tgt := 118) hX dX1_spreadPosting_12 (by decide) (fun hc => ?_) (fun hc => ?_)
    · rw [if_pos hc] at h
      refine jw_sub [] [] rfl ?_
      exact hex _ (Option.some.inj h).symm
    · rw [if_neg hc] at h
      refine jw_iload hX dX1_spreadPosting_15 4 rfl ?_
      refine jw_bipush (v := (60 : Int32)) hX dX1_spreadPosting_17 (by decide) ?_
      refine jw_icmp_ge (tgt := 118) hX dX1_spreadPosting_19 (by decide) (fun hc => ?_) (fun hc => ?_)
      · rw [if_pos hc] at h
        refine jw_sub [] [] rfl ?_
        exact hex _ (Option.some.inj h).symm
      · rw [if_neg hc] at h
        refine jw_aload_n hX dX1_spreadPosting_22 rfl 2 rfl ?_
        obtain ⟨ho23_1, h⟩ := chk_some h
        obtain ⟨r23, hc23, h⟩ := bP_some h
        refine jw_pVi (As := []) hX (GP_ok gs) hGX 0 (kX4_size hT hc23) gX1_spreadPosting_X4_size rfl hdX4_size ⟨by decide, by decide⟩ 5 rfl (by decide) ho23_1 rfl (Nat.le_of_ble_eq_true rfl) dX1_spreadPosting_23 rfl rfl ⟨by decide, by decide⟩ ?_
        refine jw_if_le (tgt := 35) hX dX1_spreadPosting_26 (by decide) (fun hc => ?_) (fun hc => ?_)
        · rw [if_pos hc] at h
          exact sX1_spreadPosting_J35 hX hT hGX hret hrec0 hex h
        · rw [if_neg hc] at h
          refine jw_aload_n hX dX1_spreadPosting_29 rfl 2 rfl ?_
          refine jw_bipush (v := (32 : Int32)) hX dX1_spreadPosting_30 (by decide) ?_
          obtain ⟨ho32_2, h⟩ := chk_some h
          obtain ⟨w32, hc32, h⟩ := bP_some h
          refine jw_pVv (As := [.int (32 : Int32)]) hX (GP_ok gs) hGX 1 (kX4_add hT hc32) gX1_spreadPosting_X4_add rfl hdX4_add ⟨by decide, by decide⟩ 5 rfl (by decide) ho32_2 rfl (Nat.le_of_ble_eq_true rfl) dX1_spreadPosting_32 rfl rfl ⟨by decide, by decide⟩ ?_
          exact sX1_spreadPosting_J35 hX hT hGX hret hrec0 hex h
set_option maxRecDepth 100000 in
set_option maxHeartbeats 4000000 in
theorem sX1_spreadPosting {X : JX} {cI cZ cO cJ : ClassId} {gs : JP} {n : Nat} {post : Option Value → va_W → Prop} (hX : jOK X cX1_spreadPosting 6 wsX1_spreadPosting RX1 rmX1_spreadPosting) (hT : jT X = jTy cI cZ cO cJ) (hGX : jG X (GP gs)) (hret : jRV X cX1_spreadPosting rmX1_spreadPosting post) {o : PS} (hro : ∀  (w9 : PS), o = w9 → post none (pW cI cO w9))  {S : PS} {v0 : Nat} {v1 : Int32} {v2 : Nat} (h : fX1_spreadPosting n S v0 v1 v2 = some o) : JW X 0 0 (pW cI cO S) 0 [(0, .ref v0), (1, .int v1), (2, .ref v2)] [] := by
  unfold fX1_spreadPosting at h
  refine jw_aload_n hX dX1_spreadPosting_0 rfl 0 rfl ?_
  refine jw_iload_n hX dX1_spreadPosting_1 rfl 1 rfl ?_
  obtain ⟨ho2_2, h⟩ := chk_some h
  obtain ⟨r2, hc2, h⟩ := bP_some h
  refine jw_pVi (As := [.int v1]) hX (GP_ok gs) hGX 1 (kX1_timesAt hT hc2) gX1_spreadPosting_X1_timesAt rfl hdX1_timesAt ⟨by decide, by decide⟩ 2 rfl (by decide) ho2_2 rfl (Nat.le_of_ble_eq_true rfl) dX1_spreadPosting_2 rfl rfl ⟨by decide, by decide⟩ ?_
  refine jw_istore_n hX [(3, .int r2), (0, .ref v0), (1, .int v1), (2, .ref v2)] dX1_spreadPosting_5 rfl (by decide) rfl ?_
  refine jw_iconst (v := (0 : Int32)) hX dX1_spreadPosting_6 (by decide) ?_
  refine jw_istore hX [(4, .int (0 : Int32)), (3, .int r2), (0, .ref v0), (1, .int v1), (2, .ref v2)] dX1_spreadPosting_7 (by decide) rfl ?_
  refine jw_sub [2, 3, 4, 1, 0] [(0, .ref v0), (1, .int v1), (2, .ref v2), (3, .int r2), (4, .int (0 : Int32))] rfl ?_
  obtain ⟨wx9, hl9, h⟩ := bL1_some h
  refine sX1_spreadPosting_L9 hX hT hGX hret (o := wx9) (fun q0 e9 => ?_) n _ _ _ _ _ _ hl9
  cases e9
  exact hret _ _ _ _ _ (by decide) (by decide) dX1_spreadPosting_118 (hro _ (Option.some.inj h).symm)
set_option maxRecDepth 100000 in
set_option maxHeartbeats 4000000 in
theorem kX1_spreadPosting {l : Launch} {D : va_G} {tys : List (ClassId × FieldType)} {cI cZ cO cJ : ClassId} {gs : JP} {n : Nat} {S : PS} {v0 : Nat} {v1 : Int32} {v2 : Nat} {w1 : PS} (hT : tys = jTy cI cZ cO cJ) (h : fX1_spreadPosting n S v0 v1 v2 = some w1) : CC l (GP gs) D tys yX1_spreadPosting wsX1_spreadPosting rmX1_spreadPosting [.ref v0, .int v1, .ref v2] (pW cI cO S) (fun ov w2 => ov = none ∧ w2 = (pW cI cO w1)) := by
  refine CC_of (cc := cX1_spreadPosting) (maxL := 6) (ret := none) (by decide) rfl (Nat.le_of_ble_eq_true rfl) ?_
  intro X hD hL hT0 hGX hX rI rZ rV rA
  exact sX1_spreadPosting (post := fun ov w2 => ov = none ∧ w2 = (pW cI cO w1)) hX (hT0.trans hT) hGX (fun cells slots w9 pc lv => rV cells slots w9 pc lv rfl) (o := w1) (fun w9 e9 => by cases e9; exact ⟨rfl, rfl⟩) h
/-! X1_spreadInto -/
abbrev rmX1_spreadInto : Room := { frames := 3, cells := 0, slots := 0, locals := 70 }
theorem hdX1_spreadInto : yX1_spreadInto.cls = RX1 ∧ yX1_spreadInto.cls ≠ "java/lang/invoke/MethodHandle" ∧ yX1_spreadInto.cls ≠ "java/lang/invoke/VarHandle" ∧ (parseMethodDescriptor yX1_spreadInto.desc).map (fun d => d.parameters.length) = some 1 := by decide +kernel
theorem lkX1_spreadInto_20 : Cond.fieldLink RX1 20 RX1 (TX1 1).2.1 (TX1 1).2.2.1 ∈ wsX1_spreadInto := by decide +kernel
theorem inX1_spreadInto_2 : ∀ w ∈ wsX10, w ∈ wsX1_spreadInto := fun _ h => List.mem_cons_of_mem _ (List.mem_append_left _ (List.mem_append_right _ h))
theorem n1X1_spreadInto_X6_isAccount : Cond.static yX6_isAccount ∈ wsX1_spreadInto := by decide +kernel
theorem n2X1_spreadInto_X6_isAccount : Cond.initialized yX6_isAccount.cls ∈ wsX1_spreadInto := by decide +kernel
def fX1_spreadInto_L6 (n : Nat) : Nat → PS → Nat → Nat → Int32 → Option (PS)
  | 0, _, _, _, _ => none
  | k + 1, S, v0, v1, v2 => chk (okP S v0 2) (bP (sR S 21 v0) (fun q8 => chk (okP S q8 5) (bP (fX4_size S q8) (fun r11 => (if r11 ≤ v2 then some (S) else chk (okP S v0 2) (bP (sR S 21 v0) (fun q18 => chk (okP S q18 5) (bP (fX4_at S q18 v2) (fun r22 => bP (fX6_isAccount r22) (fun r25 => (if r25 = 0 then fX1_spreadInto_L6 n k S v0 v1 (v2 + (1 : Int32)) else chk (okP S v0 2) (bP (fX1_spreadPosting n S v0 v2 v1) (fun w34 => fX1_spreadInto_L6 n k w34 v0 v1 (v2 + (1 : Int32)))))))))))))))
def fX1_spreadInto (n : Nat) (S : PS) (v0 : Nat) (v1 : Nat) : Option PS := chk (okP S v1 5) (bP (fX4_empty S v1) (fun w1 => bL1 (fX1_spreadInto_L6 n n w1 v0 v1 (0 : Int32)) (fun wx6 => some wx6)))
set_option maxRecDepth 100000 in
set_option maxHeartbeats 4000000 in
theorem sX1_spreadInto_L6 {X : JX} {cI cZ cO cJ : ClassId} {gs : JP} {n : Nat} {post : Option Value → va_W → Prop} (hX : jOK X cX1_spreadInto 3 wsX1_spreadInto RX1 rmX1_spreadInto) (hT : jT X = jTy cI cZ cO cJ) (hGX : jG X (GP gs)) (hret : jRV X cX1_spreadInto rmX1_spreadInto post) {o : (PS)} (hex : ∀ (w9 : PS), o = w9 → JW X 0 0 (pW cI cO w9) 43 [] [])  : ∀ (k : Nat) (S : PS) (v0 : Nat) (v1 : Nat) (v2 : Int32), fX1_spreadInto_L6 n k S v0 v1 v2 = some o → JW X 0 0 (pW cI cO S) 6 [(0, .ref v0), (1, .ref v1), (2, .int v2)] [] := by
  intro k
  induction k with
  | zero => intro S v0 v1 v2 h; cases h
  | succ k hrec0 =>
    intro S v0 v1 v2 h
    unfold fX1_spreadInto_L6 at h
    refine jw_iload_n hX dX1_spreadInto_6 rfl 2 rfl ?_
    refine jw_aload_n hX dX1_spreadInto_7 rfl 0 rfl ?_
    obtain ⟨ho8_2, h⟩ := chk_some h
    obtain ⟨q8, hr8, h⟩ := bP_some h
    refine jw_pgetR hX hT 2 1 rfl (by decide) (by decide) rfl inX1_spreadInto_2 rfl lkX1_spreadInto_20 ho8_2 hr8 dX1_spreadInto_8 ?_
    obtain ⟨ho11_5, h⟩ := chk_some h
    obtain ⟨r11, hc11, h⟩ := bP_some h
    refine jw_pVi (As := []) hX (GP_ok gs) hGX 0 (kX4_size hT hc11) gX1_spreadInto_X4_size rfl hdX4_size ⟨by decide, by decide⟩ 5 rfl (by decide) ho11_5 rfl (Nat.le_of_ble_eq_true rfl) dX1_spreadInto_11 rfl rfl ⟨by decide, by decide⟩ ?_
    refine jw_icmp_ge (tgt := 43) hX dX1_spreadInto_14 (by decide) (fun hc => ?_) (fun hc => ?_)
    · rw [if_pos hc] at h
      refine jw_sub [] [] rfl ?_
      exact hex _ (Option.some.inj h).symm
    · rw [if_neg hc] at h
      refine jw_aload_n hX dX1_spreadInto_17 rfl 0 rfl ?_
      obtain ⟨ho18_1, h⟩ := chk_some h
      obtain ⟨q18, hr18, h⟩ := bP_some h
      refine jw_pgetR hX hT 2 1 rfl (by decide) (by decide) rfl inX1_spreadInto_2 rfl lkX1_spreadInto_20 ho18_1 hr18 dX1_spreadInto_18 ?_
      refine jw_iload_n hX dX1_spreadInto_21 rfl 2 rfl ?_
      obtain ⟨ho22_5, h⟩ := chk_some h
      obtain ⟨r22, hc22, h⟩ := bP_some h
      refine jw_pVi (As := [.int v2]) hX (GP_ok gs) hGX 1 (kX4_at hT hc22) gX1_spreadInto_X4_at rfl hdX4_at ⟨by decide, by decide⟩ 5 rfl (by decide) ho22_5 rfl (Nat.le_of_ble_eq_true rfl) dX1_spreadInto_22 rfl rfl ⟨by decide, by decide⟩ ?_
      obtain ⟨r25, hc25, h⟩ := bP_some h
      refine jw_pSNi (As := [.int r22]) hX (GP_ok gs) hGX 1 (kX6_isAccount hT hc25) gX1_spreadInto_X6_isAccount_n45 rfl (gp_nm hGX (w := .methodLinkNest RX1 45 yX6_isAccount "Postlint") (by decide +kernel)) (Or.inl n1X1_spreadInto_X6_isAccount) (Or.inl n2X1_spreadInto_X6_isAccount) hdX6_isAccount ⟨by decide, by decide⟩ rfl (Nat.le_of_ble_eq_true rfl) dX1_spreadInto_25 rfl rfl ⟨by decide, by decide⟩ ?_
      refine jw_if_eq (tgt := 37) hX dX1_spreadInto_28 (by decide) (fun hc => ?_) (fun hc => ?_)
      · rw [if_pos hc] at h
        refine jw_iinc (v := (v2 + (1 : Int32))) hX [(2, .int (v2 + (1 : Int32))), (0, .ref v0), (1, .ref v1)] dX1_spreadInto_37 2 rfl (by first | rfl | (congr 1; decide)) (by decide) rfl ?_
        refine jw_goto (tgt := 6) hX dX1_spreadInto_40 (by decide) ?_
        refine jw_sub [1, 2, 0] [(0, .ref v0), (1, .ref v1), (2, .int (v2 + (1 : Int32)))] rfl ?_
        exact hrec0 _ _ _ _ h
      · rw [if_neg hc] at h
        refine jw_aload_n hX dX1_spreadInto_31 rfl 0 rfl ?_
        refine jw_iload_n hX dX1_spreadInto_32 rfl 2 rfl ?_
        refine jw_aload_n hX dX1_spreadInto_33 rfl 1 rfl ?_
        obtain ⟨ho34_3, h⟩ := chk_some h
        obtain ⟨w34, hc34, h⟩ := bP_some h
        refine jw_pVv (As := [.int v2, .ref v1]) hX (GP_ok gs) hGX 2 (kX1_spreadPosting hT hc34) gX1_spreadInto_X1_spreadPosting rfl hdX1_spreadPosting ⟨by decide, by decide⟩ 2 rfl (by decide) ho34_3 rfl (Nat.le_of_ble_eq_true rfl) dX1_spreadInto_34 rfl rfl ⟨by decide, by decide⟩ ?_
        refine jw_iinc (v := (v2 + (1 : Int32))) hX [(2, .int (v2 + (1 : Int32))), (0, .ref v0), (1, .ref v1)] dX1_spreadInto_37 2 rfl (by first | rfl | (congr 1; decide)) (by decide) rfl ?_
        refine jw_goto (tgt := 6) hX dX1_spreadInto_40 (by decide) ?_
        refine jw_sub [1, 2, 0] [(0, .ref v0), (1, .ref v1), (2, .int (v2 + (1 : Int32)))] rfl ?_
        exact hrec0 _ _ _ _ h
set_option maxRecDepth 100000 in
set_option maxHeartbeats 4000000 in
theorem sX1_spreadInto {X : JX} {cI cZ cO cJ : ClassId} {gs : JP} {n : Nat} {post : Option Value → va_W → Prop} (hX : jOK X cX1_spreadInto 3 wsX1_spreadInto RX1 rmX1_spreadInto) (hT : jT X = jTy cI cZ cO cJ) (hGX : jG X (GP gs)) (hret : jRV X cX1_spreadInto rmX1_spreadInto post) {o : PS} (hro : ∀  (w9 : PS), o = w9 → post none (pW cI cO w9))  {S : PS} {v0 : Nat} {v1 : Nat} (h : fX1_spreadInto n S v0 v1 = some o) : JW X 0 0 (pW cI cO S) 0 [(0, .ref v0), (1, .ref v1)] [] := by
  unfold fX1_spreadInto at h
  refine jw_aload_n hX dX1_spreadInto_0 rfl 1 rfl ?_
  obtain ⟨ho1_1, h⟩ := chk_some h
  obtain ⟨w1, hc1, h⟩ := bP_some h
  refine jw_pVv (As := []) hX (GP_ok gs) hGX 0 (kX4_empty hT hc1) gX1_spreadInto_X4_empty rfl hdX4_empty ⟨by decide, by decide⟩ 5 rfl (by decide) ho1_1 rfl (Nat.le_of_ble_eq_true rfl) dX1_spreadInto_1 rfl rfl ⟨by decide, by decide⟩ ?_
  refine jw_iconst (v := (0 : Int32)) hX dX1_spreadInto_4 (by decide) ?_
  refine jw_istore_n hX [(2, .int (0 : Int32)), (0, .ref v0), (1, .ref v1)] dX1_spreadInto_5 rfl (by decide) rfl ?_
  refine jw_sub [1, 2, 0] [(0, .ref v0), (1, .ref v1), (2, .int (0 : Int32))] rfl ?_
  obtain ⟨wx6, hl6, h⟩ := bL1_some h
  refine sX1_spreadInto_L6 hX hT hGX hret (o := wx6) (fun q0 e9 => ?_) n _ _ _ _ hl6
  cases e9
  exact hret _ _ _ _ _ (by decide) (by decide) dX1_spreadInto_43 (hro _ (Option.some.inj h).symm)
set_option maxRecDepth 100000 in
set_option maxHeartbeats 4000000 in
theorem kX1_spreadInto {l : Launch} {D : va_G} {tys : List (ClassId × FieldType)} {cI cZ cO cJ : ClassId} {gs : JP} {n : Nat} {S : PS} {v0 : Nat} {v1 : Nat} {w1 : PS} (hT : tys = jTy cI cZ cO cJ) (h : fX1_spreadInto n S v0 v1 = some w1) : CC l (GP gs) D tys yX1_spreadInto wsX1_spreadInto rmX1_spreadInto [.ref v0, .ref v1] (pW cI cO S) (fun ov w2 => ov = none ∧ w2 = (pW cI cO w1)) := by
  refine CC_of (cc := cX1_spreadInto) (maxL := 3) (ret := none) (by decide) rfl (Nat.le_of_ble_eq_true rfl) ?_
  intro X hD hL hT0 hGX hX rI rZ rV rA
  exact sX1_spreadInto (post := fun ov w2 => ov = none ∧ w2 = (pW cI cO w1)) hX (hT0.trans hT) hGX (fun cells slots w9 pc lv => rV cells slots w9 pc lv rfl) (o := w1) (fun w9 e9 => by cases e9; exact ⟨rfl, rfl⟩) h
/-! X2_stateBehindStart -/
abbrev rmX2_stateBehindStart : Room := { frames := 1, cells := 0, slots := 0, locals := 20 }
theorem hdX2_stateBehindStart : yX2_stateBehindStart.cls = RX2 ∧ yX2_stateBehindStart.cls ≠ "java/lang/invoke/MethodHandle" ∧ yX2_stateBehindStart.cls ≠ "java/lang/invoke/VarHandle" ∧ (parseMethodDescriptor yX2_stateBehindStart.desc).map (fun d => d.parameters.length) = some 1 := by decide +kernel
theorem n1X2_stateBehindStart_X6_isAccount : Cond.static yX6_isAccount ∈ wsX2_stateBehindStart := by decide +kernel
theorem n2X2_stateBehindStart_X6_isAccount : Cond.initialized yX6_isAccount.cls ∈ wsX2_stateBehindStart := by decide +kernel
theorem lkX2_stateBehindStart_15 : Cond.fieldLink RX2 15 RX2 (TX2 1).2.1 (TX2 1).2.2.1 ∈ wsX2_stateBehindStart := by decide +kernel
theorem inX2_stateBehindStart_3 : ∀ w ∈ wsX20, w ∈ wsX2_stateBehindStart := fun _ h => List.mem_cons_of_mem _ (List.mem_append_right _ h)
def fX2_stateBehindStart (S : PS) (v0 : Nat) (v1 : Int32) : Option (Int32 × PS) := bP (fX6_isAccount v1) (fun r1 => (if r1 = 0 then (if v1 = (40 : Int32) then chk (okP S v0 3) ((if (5 : Int32) ≤ (sI S 31 v0) then some ((-1 : Int32), S) else chk (okP S v0 3) (chk (okP S v0 3) (bnd (pI S 31 v0 ((sI S 31 v0) + (1 : Int32))) (fun w30 => some ((0 : Int32), w30)))))) else some ((-1 : Int32), S)) else some ((1 : Int32), S)))
set_option maxRecDepth 100000 in
set_option maxHeartbeats 4000000 in
theorem sX2_stateBehindStart {X : JX} {cI cZ cO cJ : ClassId} {gs : JP} {post : Option Value → va_W → Prop} (hX : jOK X cX2_stateBehindStart 2 wsX2_stateBehindStart RX2 rmX2_stateBehindStart) (hT : jT X = jTy cI cZ cO cJ) (hGX : jG X (GP gs)) (hret : jRI X cX2_stateBehindStart rmX2_stateBehindStart post) {o : (Int32 × PS)} (hro : ∀ (v9 : Int32) (w9 : PS), o = (v9, w9) → post (some (.int v9)) (pW cI cO w9))  {S : PS} {v0 : Nat} {v1 : Int32} (h : fX2_stateBehindStart S v0 v1 = some o) : JW X 0 0 (pW cI cO S) 0 [(0, .ref v0), (1, .int v1)] [] := by
  unfold fX2_stateBehindStart at h
  refine jw_iload_n hX dX2_stateBehindStart_0 rfl 1 rfl ?_
  obtain ⟨r1, hc1, h⟩ := bP_some h
  refine jw_pSNi (As := [.int v1]) hX (GP_ok gs) hGX 1 (kX6_isAccount hT hc1) gX2_stateBehindStart_X6_isAccount_n41 rfl (gp_nm hGX (w := .methodLinkNest RX2 41 yX6_isAccount "Postlint") (by decide +kernel)) (Or.inl n1X2_stateBehindStart_X6_isAccount) (Or.inl n2X2_stateBehindStart_X6_isAccount) hdX6_isAccount ⟨by decide, by decide⟩ rfl (Nat.le_of_ble_eq_true rfl) dX2_stateBehindStart_1 rfl rfl ⟨by decide, by decide⟩ ?_
  refine jw_if_eq (tgt := 9) hX dX2_stateBehindStart_4 (by decide) (fun hc => ?_) (fun hc => ?_)
  · rw [if_pos hc] at h
    refine jw_iload_n hX dX2_stateBehindStart_9 rfl 1 rfl ?_
    refine jw_bipush (v := (40 : Int32)) hX dX2_stateBehindStart_10 (by decide) ?_
    refine jw_icmp_ne (tgt := 35) hX dX2_stateBehindStart_12 (by decide) (fun hc => ?_) (fun hc => ?_)
    · rw [if_neg hc] at h
      refine jw_iconst (v := (-1 : Int32)) hX dX2_stateBehindStart_35 (by decide) ?_
      exact hret _ _ _ _ _ _ (by decide) (by decide) dX2_stateBehindStart_36 (hro _ _ (Option.some.inj h).symm)
    · rw [if_pos hc] at h
      refine jw_aload_n hX dX2_stateBehindStart_15 rfl 0 rfl ?_
      obtain ⟨ho16_1, h⟩ := chk_some h
      refine jw_pgetI hX hT 3 1 rfl (by decide) (by decide) rfl inX2_stateBehindStart_3 rfl lkX2_stateBehindStart_15 ho16_1 dX2_stateBehindStart_16 ?_
      refine jw_iconst (v := (5 : Int32)) hX dX2_stateBehindStart_19 (by decide) ?_
      refine jw_icmp_ge (tgt := 35) hX dX2_stateBehindStart_20 (by decide) (fun hc => ?_) (fun hc => ?_)
      · rw [if_pos hc] at h
        refine jw_iconst (v := (-1 : Int32)) hX dX2_stateBehindStart_35 (by decide) ?_
        exact hret _ _ _ _ _ _ (by decide) (by decide) dX2_stateBehindStart_36 (hro _ _ (Option.some.inj h).symm)
      · rw [if_neg hc] at h
        refine jw_aload_n hX dX2_stateBehindStart_23 rfl 0 rfl ?_
        refine jw_dup hX dX2_stateBehindStart_24 rfl ?_
        obtain ⟨ho25_2, h⟩ := chk_some h
        refine jw_pgetI hX hT 3 1 rfl (by decide) (by decide) rfl inX2_stateBehindStart_3 rfl lkX2_stateBehindStart_15 ho25_2 dX2_stateBehindStart_25 ?_
        refine jw_iconst (v := (1 : Int32)) hX dX2_stateBehindStart_28 (by decide) ?_
        refine jw_iadd hX dX2_stateBehindStart_29 ?_
        obtain ⟨ho30_6, h⟩ := chk_some h
        refine jw_pputI hX hT 3 1 rfl (by decide) (by decide) rfl inX2_stateBehindStart_3 rfl lkX2_stateBehindStart_15 tyX2 tyX2_ok nmX2 rfl (by decide +kernel) ho30_6 dX2_stateBehindStart_30 (fun w30 e30 => ?_)
        replace h := bnd_some h w30 e30
        clear e30
        refine jw_iconst (v := (0 : Int32)) hX dX2_stateBehindStart_33 (by decide) ?_
        exact hret _ _ _ _ _ _ (by decide) (by decide) dX2_stateBehindStart_34 (hro _ _ (Option.some.inj h).symm)
  · rw [if_neg hc] at h
    refine jw_iconst (v := (1 : Int32)) hX dX2_stateBehindStart_7 (by decide) ?_
    exact hret _ _ _ _ _ _ (by decide) (by decide) dX2_stateBehindStart_8 (hro _ _ (Option.some.inj h).symm)
set_option maxRecDepth 100000 in
set_option maxHeartbeats 4000000 in
theorem kX2_stateBehindStart {l : Launch} {D : va_G} {tys : List (ClassId × FieldType)} {cI cZ cO cJ : ClassId} {gs : JP} {S : PS} {v0 : Nat} {v1 : Int32} {r : Int32} {w1 : PS} (hT : tys = jTy cI cZ cO cJ) (h : fX2_stateBehindStart S v0 v1 = some (r, w1)) : CC l (GP gs) D tys yX2_stateBehindStart wsX2_stateBehindStart rmX2_stateBehindStart [.ref v0, .int v1] (pW cI cO S) (fun ov w2 => ov = some (.int r) ∧ w2 = (pW cI cO w1)) := by
  refine CC_of (cc := cX2_stateBehindStart) (maxL := 2) (ret := (some .int)) (by decide) rfl (Nat.le_of_ble_eq_true rfl) ?_
  intro X hD hL hT0 hGX hX rI rZ rV rA
  exact sX2_stateBehindStart (post := fun ov w2 => ov = some (.int r) ∧ w2 = (pW cI cO w1)) hX (hT0.trans hT) hGX (fun cells slots w9 pc lv v => rI cells slots w9 pc lv v rfl) (o := (r, w1)) (fun v9 w9 e9 => by cases e9; exact ⟨rfl, rfl⟩) h
