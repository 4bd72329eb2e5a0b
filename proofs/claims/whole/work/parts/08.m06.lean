/-! X7_isOther -/
abbrev rmX7_isOther : Room := { frames := 0, cells := 0, slots := 0, locals := 0 }
theorem hdX7_isOther : yX7_isOther.cls = RX7 ∧ yX7_isOther.cls ≠ "java/lang/invoke/MethodHandle" ∧ yX7_isOther.cls ≠ "java/lang/invoke/VarHandle" ∧ (parseMethodDescriptor yX7_isOther.desc).map (fun d => d.parameters.length) = some 1 := by decide +kernel
theorem inX7_isOther : ∀ w ∈ wsX70, w ∈ wsX7_isOther := fun _ h => List.mem_cons_of_mem _ (List.mem_append_right _ h)
theorem lkX7_isOther_119 : Cond.fieldLink RX7 119 "PostlintModel" (TX7 46).2.1 (TX7 46).2.2.1 ∈ wsX7_isOther := by decide +kernel
theorem lkX7_isOther_176 : Cond.fieldLink RX7 176 "PostlintModel" (TX7 45).2.1 (TX7 45).2.2.1 ∈ wsX7_isOther := by decide +kernel
theorem lkX7_isOther_23 : Cond.fieldLink RX7 23 "PostlintModel" (TX7 7).2.1 (TX7 7).2.2.1 ∈ wsX7_isOther := by decide +kernel
theorem lkX7_isOther_26 : Cond.fieldLink RX7 26 "PostlintModel" (TX7 8).2.1 (TX7 8).2.2.1 ∈ wsX7_isOther := by decide +kernel
def fX7_isOther_L21 (n : Nat) : Nat → MW → Int32 → Int32 → Int32 → Option (Int32)
  | 0, _, _, _, _ => none
  | k + 1, w, v1, v2, v3 => (if (w.1 45) ≤ v3 then some (v2) else (if v2 = 0 then chk (inB v3 (mLen 46)) (chk (inB (((60 : Int32) * v1) + v3) (mLen 8)) ((if (w.2 46 (v3).toNatClampNeg) = (w.2 8 ((((60 : Int32) * v1) + v3)).toNatClampNeg) then fX7_isOther_L21 n k w v1 ((0 : Int32)) ((v3 + (1 : Int32))) else fX7_isOther_L21 n k w v1 ((1 : Int32)) ((v3 + (1 : Int32)))))) else some (v2)))
def fX7_isOther_J18 (n : Nat) (w : MW) (v1 t0 : Int32) : Option Int32 := bL1 (fX7_isOther_L21 n n w v1 t0 (0 : Int32)) (fun x2_21 => chk (b01 x2_21) (some x2_21))
def fX7_isOther (n : Nat) (w : MW) (v1 : Int32) : Option Int32 := chk (inB v1 (mLen 7)) ((if (w.1 45) = (w.2 7 (v1).toNatClampNeg) then fX7_isOther_J18 n w v1 (0 : Int32) else fX7_isOther_J18 n w v1 (1 : Int32)))
set_option maxRecDepth 100000 in
set_option maxHeartbeats 4000000 in
theorem sX7_isOther_L21 {X : JX} {a : Nat} {ad : Nat → Nat} {cI cZ cO cJ : ClassId} {n : Nat} {w : MW} {post : Option Value → va_W → Prop} (hX : jOK X cX7_isOther 4 wsX7_isOther RX7 rmX7_isOther) (hT : jT X = jTy cI cZ cO cJ) (hGX : jG X jG0) (hret : jRZ X cX7_isOther rmX7_isOther post) {o : (Int32)} (hex : ∀ (x2 : Int32), o = x2 → JW X 0 0 (mW a ad cI cZ w) 65 [(2, .int x2)] [])  : ∀ (k : Nat) (v1 v2 v3 : Int32), fX7_isOther_L21 n k w v1 v2 v3 = some o → JW X 0 0 (mW a ad cI cZ w) 21 [(0, .ref a), (1, .int v1), (2, .int v2), (3, .int v3)] [] := by
  intro k
  induction k with
  | zero => intro v1 v2 v3 h; cases h
  | succ k hrec0 =>
    intro v1 v2 v3 h
    have hrec := fun (_ : MW) => hrec0
    unfold fX7_isOther_L21 at h
    refine jw_iload_n hX dX7_isOther_21 rfl 3 rfl ?_
    refine jw_aload_n hX dX7_isOther_22 rfl 0 rfl ?_
    refine jw_mgetI hX hT inX7_isOther 45 (by decide) lkX7_isOther_176 rfl dX7_isOther_23 ?_
    refine jw_icmp_ge (tgt := 65) hX dX7_isOther_26 (by decide) (fun hc => ?_) (fun hc => ?_)
    · rw [if_pos hc] at h
      refine jw_sub [2] [(2, .int v2)] rfl ?_
      exact hex _ (Option.some.inj h).symm
    · rw [if_neg hc] at h
      refine jw_iload_n hX dX7_isOther_29 rfl 2 rfl ?_
      refine jw_if_ne (tgt := 65) hX dX7_isOther_30 (by decide) (fun hc => ?_) (fun hc => ?_)
      · rw [if_neg hc] at h
        refine jw_sub [2] [(2, .int v2)] rfl ?_
        exact hex _ (Option.some.inj h).symm
      · rw [if_pos hc] at h
        refine jw_aload_n hX dX7_isOther_33 rfl 0 rfl ?_
        refine jw_mgetA hX hT inX7_isOther 46 (by decide) lkX7_isOther_119 rfl dX7_isOther_34 ?_
        refine jw_iload_n hX dX7_isOther_37 rfl 3 rfl ?_
        obtain ⟨hb38, h⟩ := chk_some h
        refine jw_miald hX hT 36 46 rfl rfl hb38 dX7_isOther_38 ?_
        refine jw_aload_n hX dX7_isOther_39 rfl 0 rfl ?_
        refine jw_mgetA hX hT inX7_isOther 8 (by decide) lkX7_isOther_26 rfl dX7_isOther_40 ?_
        refine jw_bipush (v := (60 : Int32)) hX dX7_isOther_43 (by decide) ?_
        refine jw_iload_n hX dX7_isOther_45 rfl 1 rfl ?_
        refine jw_imul hX dX7_isOther_46 ?_
        refine jw_iload_n hX dX7_isOther_47 rfl 3 rfl ?_
        refine jw_iadd hX dX7_isOther_48 ?_
        obtain ⟨hb49, h⟩ := chk_some h
        refine jw_miald hX hT 5 8 rfl rfl hb49 dX7_isOther_49 ?_
        refine jw_icmp_eq (tgt := 57) hX dX7_isOther_50 (by decide) (fun hc => ?_) (fun hc => ?_)
        · rw [if_pos hc] at h
          refine jw_iconst (v := (0 : Int32)) hX dX7_isOther_57 (by decide) ?_
          refine jw_istore_n hX [(2, .int (0 : Int32)), (0, .ref a), (1, .int v1), (3, .int v3)] dX7_isOther_58 rfl (by decide) rfl ?_
          refine jw_iinc (v := (v3 + (1 : Int32))) hX [(3, .int (v3 + (1 : Int32))), (2, .int (0 : Int32)), (0, .ref a), (1, .int v1)] dX7_isOther_59 3 rfl (by first | rfl | (congr 1; decide)) (by decide) rfl ?_
          refine jw_goto (tgt := 21) hX dX7_isOther_62 (by decide) ?_
          refine jw_sub [2, 3, 1, 0] [(0, .ref a), (1, .int v1), (2, .int (0 : Int32)), (3, .int (v3 + (1 : Int32)))] rfl ?_
          exact hrec w _ _ _ h
        · rw [if_neg hc] at h
          refine jw_iconst (v := (1 : Int32)) hX dX7_isOther_53 (by decide) ?_
          refine jw_goto (tgt := 58) hX dX7_isOther_54 (by decide) ?_
          refine jw_istore_n hX [(2, .int (1 : Int32)), (0, .ref a), (1, .int v1), (3, .int v3)] dX7_isOther_58 rfl (by decide) rfl ?_
          refine jw_iinc (v := (v3 + (1 : Int32))) hX [(3, .int (v3 + (1 : Int32))), (2, .int (1 : Int32)), (0, .ref a), (1, .int v1)] dX7_isOther_59 3 rfl (by first | rfl | (congr 1; decide)) (by decide) rfl ?_
          refine jw_goto (tgt := 21) hX dX7_isOther_62 (by decide) ?_
          refine jw_sub [2, 3, 1, 0] [(0, .ref a), (1, .int v1), (2, .int (1 : Int32)), (3, .int (v3 + (1 : Int32)))] rfl ?_
          exact hrec w _ _ _ h
set_option maxRecDepth 100000 in
set_option maxHeartbeats 4000000 in
theorem sX7_isOther_J18 {X : JX} {a : Nat} {ad : Nat → Nat} {cI cZ cO cJ : ClassId} {n : Nat} {w : MW} {post : Option Value → va_W → Prop} (hX : jOK X cX7_isOther 4 wsX7_isOther RX7 rmX7_isOther) (hT : jT X = jTy cI cZ cO cJ) (hGX : jG X jG0) (hret : jRZ X cX7_isOther rmX7_isOther post) {o : Int32}   (hro : ∀ v9 : Int32, o = v9 → post (some (.int v9)) (mW a ad cI cZ w)) {v1 t0 : Int32} (h : fX7_isOther_J18 n w v1 t0 = some o) : JW X 0 0 (mW a ad cI cZ w) 18 [(0, .ref a), (1, .int v1)] [.int t0] := by
  unfold fX7_isOther_J18 at h
  refine jw_istore_n hX [(2, .int t0), (0, .ref a), (1, .int v1)] dX7_isOther_18 rfl (by decide) rfl ?_
  refine jw_iconst (v := (0 : Int32)) hX dX7_isOther_19 (by decide) ?_
  refine jw_istore_n hX [(3, .int (0 : Int32)), (2, .int t0), (0, .ref a), (1, .int v1)] dX7_isOther_20 rfl (by decide) rfl ?_
  refine jw_sub [2, 3, 1, 0] [(0, .ref a), (1, .int v1), (2, .int t0), (3, .int (0 : Int32))] rfl ?_
  obtain ⟨x2_21, hl21, h⟩ := bL1_some h
  refine sX7_isOther_L21 hX hT hGX hret (o := x2_21) (fun q0 e9 => ?_) n _ _ _ hl21
  cases e9
  refine jw_iload_n hX dX7_isOther_65 rfl 0 rfl ?_
  obtain ⟨hz66, h⟩ := chk_some h
  exact hret _ _ _ _ _ _ (b01_or hz66) (Nat.zero_le _) (Nat.zero_le _) dX7_isOther_66 (hro _ (Option.some.inj h).symm)
set_option maxRecDepth 100000 in
set_option maxHeartbeats 4000000 in
theorem sX7_isOther {X : JX} {a : Nat} {ad : Nat → Nat} {cI cZ cO cJ : ClassId} {n : Nat} {w : MW} {post : Option Value → va_W → Prop} (hX : jOK X cX7_isOther 4 wsX7_isOther RX7 rmX7_isOther) (hT : jT X = jTy cI cZ cO cJ) (hGX : jG X jG0) (hret : jRZ X cX7_isOther rmX7_isOther post) {o : Int32} (hro : ∀ v9 : Int32, o = v9 → post (some (.int v9)) (mW a ad cI cZ w)) {v1 : Int32} (h : fX7_isOther n w v1 = some o) : JW X 0 0 (mW a ad cI cZ w) 0 [(0, .ref a), (1, .int v1)] [] := by
  unfold fX7_isOther at h
  refine jw_aload_n hX dX7_isOther_0 rfl 0 rfl ?_
  refine jw_mgetI hX hT inX7_isOther 45 (by decide) lkX7_isOther_176 rfl dX7_isOther_1 ?_
  refine jw_aload_n hX dX7_isOther_4 rfl 0 rfl ?_
  refine jw_mgetA hX hT inX7_isOther 7 (by decide) lkX7_isOther_23 rfl dX7_isOther_5 ?_
  refine jw_iload_n hX dX7_isOther_8 rfl 1 rfl ?_
  obtain ⟨hb9, h⟩ := chk_some h
  refine jw_miald hX hT 4 7 rfl rfl hb9 dX7_isOther_9 ?_
  refine jw_icmp_eq (tgt := 17) hX dX7_isOther_10 (by decide) (fun hc => ?_) (fun hc => ?_)
  · rw [if_pos hc] at h
    refine jw_iconst (v := (0 : Int32)) hX dX7_isOther_17 (by decide) ?_
    exact sX7_isOther_J18 hX hT hGX hret hro h
  · rw [if_neg hc] at h
    refine jw_iconst (v := (1 : Int32)) hX dX7_isOther_13 (by decide) ?_
    refine jw_goto (tgt := 18) hX dX7_isOther_14 (by decide) ?_
    exact sX7_isOther_J18 hX hT hGX hret hro h
set_option maxRecDepth 100000 in
set_option maxHeartbeats 4000000 in
theorem kX7_isOther {l : Launch} {D : va_G} {tys : List (ClassId × FieldType)} {a : Nat} {ad : Nat → Nat} {cI cZ cO cJ : ClassId} {n : Nat} {w : MW} {v1 : Int32} {r : Int32} (hT : tys = jTy cI cZ cO cJ) (h : fX7_isOther n w v1 = some r) : CC l jG0 D tys yX7_isOther wsX7_isOther rmX7_isOther [.ref a, .int v1] (mW a ad cI cZ w) (fun ov w2 => ov = some (.int r) ∧ w2 = (mW a ad cI cZ w)) := by
  refine CC_of (cc := cX7_isOther) (maxL := 4) (ret := (some .boolean)) (by decide) rfl (Nat.le_of_ble_eq_true rfl) ?_
  intro X hD hL hT0 hGX hX rI rZ rV rA
  exact sX7_isOther (post := fun ov w2 => ov = some (.int r) ∧ w2 = (mW a ad cI cZ w)) hX (hT0.trans hT) hGX (fun cells slots w9 pc lv v => rZ cells slots w9 pc lv v rfl) (o := r) (fun v9 e9 => by cases e9; exact ⟨rfl, rfl⟩) h
/-! X7_frozen -/
abbrev rmX7_frozen : Room := { frames := 1, cells := 0, slots := 0, locals := 22 }
theorem hdX7_frozen : yX7_frozen.cls = RX7 ∧ yX7_frozen.cls ≠ "java/lang/invoke/MethodHandle" ∧ yX7_frozen.cls ≠ "java/lang/invoke/VarHandle" ∧ (parseMethodDescriptor yX7_frozen.desc).map (fun d => d.parameters.length) = some 1 := by decide +kernel
theorem inX7_frozen : ∀ w ∈ wsX70, w ∈ wsX7_frozen := fun _ h => List.mem_cons_of_mem _ (List.mem_append_right _ h)
theorem lkX7_frozen_203 : Cond.fieldLink RX7 203 "PostlintModel" (TX7 21).2.1 (TX7 21).2.2.1 ∈ wsX7_frozen := by decide +kernel
theorem lkX7_frozen_62 : Cond.fieldLink RX7 62 "PostlintModel" (TX7 22).2.1 (TX7 22).2.2.1 ∈ wsX7_frozen := by decide +kernel
theorem lkX7_frozen_65 : Cond.fieldLink RX7 65 "PostlintModel" (TX7 23).2.1 (TX7 23).2.2.1 ∈ wsX7_frozen := by decide +kernel
theorem lkX7_frozen_71 : Cond.fieldLink RX7 71 "PostlintModel" (TX7 25).2.1 (TX7 25).2.2.1 ∈ wsX7_frozen := by decide +kernel
def fX7_frozen_L4 (n : Nat) : Nat → MW → Int32 → Int32 → Int32 → Option (Int32)
  | 0, _, _, _, _ => none
  | k + 1, w, v1, v2, v3 => (if (w.1 21) ≤ v3 then some (v2) else (if v2 = 0 then chk (inB v3 (mLen 25)) ((if (w.2 25 (v3).toNatClampNeg) = 0 then chk (inB v3 (mLen 22)) (chk (inB v3 (mLen 23)) (bP (fX7_isIn v1 (w.2 22 (v3).toNatClampNeg) (w.2 23 (v3).toNatClampNeg)) (fun r38 => (if r38 = 0 then fX7_frozen_L4 n k w v1 ((0 : Int32)) ((v3 + (1 : Int32))) else fX7_frozen_L4 n k w v1 ((1 : Int32)) ((v3 + (1 : Int32))))))) else fX7_frozen_L4 n k w v1 ((0 : Int32)) ((v3 + (1 : Int32))))) else fX7_frozen_L4 n k w v1 ((1 : Int32)) ((v3 + (1 : Int32)))))
def fX7_frozen (n : Nat) (w : MW) (v1 : Int32) : Option Int32 := bL1 (fX7_frozen_L4 n n w v1 (0 : Int32) (0 : Int32)) (fun x2_4 => chk (b01 x2_4) (some x2_4))
set_option maxRecDepth 100000 in
set_option maxHeartbeats 4000000 in
theorem sX7_frozen_L4 {X : JX} {a : Nat} {ad : Nat → Nat} {cI cZ cO cJ : ClassId} {n : Nat} {w : MW} {post : Option Value → va_W → Prop} (hX : jOK X cX7_frozen 4 wsX7_frozen RX7 rmX7_frozen) (hT : jT X = jTy cI cZ cO cJ) (hGX : jG X jG0) (hret : jRZ X cX7_frozen rmX7_frozen post) {o : (Int32)} (hex : ∀ (x2 : Int32), o = x2 → JW X 0 0 (mW a ad cI cZ w) 56 [(2, .int x2)] [])  : ∀ (k : Nat) (v1 v2 v3 : Int32), fX7_frozen_L4 n k w v1 v2 v3 = some o → JW X 0 0 (mW a ad cI cZ w) 4 [(0, .ref a), (1, .int v1), (2, .int v2), (3, .int v3)] [] := by
  intro k
  induction k with
  | zero => intro v1 v2 v3 h; cases h
  | succ k hrec0 =>
    intro v1 v2 v3 h
    have hrec := fun (_ : MW) => hrec0
    unfold fX7_frozen_L4 at h
    refine jw_iload_n hX dX7_frozen_4 rfl 3 rfl ?_
    refine jw_aload_n hX dX7_frozen_5 rfl 0 rfl ?_
    refine jw_mgetI hX hT inX7_frozen 21 (by decide) lkX7_frozen_203 rfl dX7_frozen_6 ?_
    refine jw_icmp_ge (tgt := 56) hX dX7_frozen_9 (by decide) (fun hc => ?_) (fun hc => ?_)
    · rw [if_pos hc] at h
      refine jw_sub [2] [(2, .int v2)] rfl ?_
      exact hex _ (Option.some.inj h).symm
    · rw [if_neg hc] at h
      refine jw_iload_n hX dX7_frozen_12 rfl 2 rfl ?_
      refine jw_if_ne (tgt := 44) hX dX7_frozen_13 (by decide) (fun hc => ?_) (fun hc => ?_)
      · rw [if_neg hc] at h
        refine jw_iconst (v := (1 : Int32)) hX dX7_frozen_44 (by decide) ?_
        refine jw_goto (tgt := 49) hX dX7_frozen_45 (by decide) ?_
        refine jw_istore_n hX [(2, .int (1 : Int32)), (0, .ref a), (1, .int v1), (3, .int v3)] dX7_frozen_49 rfl (by decide) rfl ?_
        refine jw_iinc (v := (v3 + (1 : Int32))) hX [(3, .int (v3 + (1 : Int32))), (2, .int (1 : Int32)), (0, .ref a), (1, .int v1)] dX7_frozen_50 3 rfl (by first | rfl | (congr 1; decide)) (by decide) rfl ?_
        refine jw_goto (tgt := 4) hX dX7_frozen_53 (by decide) ?_
        refine jw_sub [2, 3, 1, 0] [(0, .ref a), (1, .int v1), (2, .int (1 : Int32)), (3, .int (v3 + (1 : Int32)))] rfl ?_
        exact hrec w _ _ _ h
      · rw [if_pos hc] at h
        refine jw_aload_n hX dX7_frozen_16 rfl 0 rfl ?_
        refine jw_mgetA hX hT inX7_frozen 25 (by decide) lkX7_frozen_71 rfl dX7_frozen_17 ?_
        refine jw_iload_n hX dX7_frozen_20 rfl 3 rfl ?_
        obtain ⟨hb21, h⟩ := chk_some h
        refine jw_mzald hX hT 20 25 rfl rfl hb21 dX7_frozen_21 ?_
        refine jw_if_ne (tgt := 48) hX dX7_frozen_22 (by decide) (fun hc => ?_) (fun hc => ?_)
        · rw [if_neg hc] at h
          refine jw_iconst (v := (0 : Int32)) hX dX7_frozen_48 (by decide) ?_
          refine jw_istore_n hX [(2, .int (0 : Int32)), (0, .ref a), (1, .int v1), (3, .int v3)] dX7_frozen_49 rfl (by decide) rfl ?_
          refine jw_iinc (v := (v3 + (1 : Int32))) hX [(3, .int (v3 + (1 : Int32))), (2, .int (0 : Int32)), (0, .ref a), (1, .int v1)] dX7_frozen_50 3 rfl (by first | rfl | (congr 1; decide)) (by decide) rfl ?_
          refine jw_goto (tgt := 4) hX dX7_frozen_53 (by decide) ?_
          refine jw_sub [2, 3, 1, 0] [(0, .ref a), (1, .int v1), (2, .int (0 : Int32)), (3, .int (v3 + (1 : Int32)))] rfl ?_
          exact hrec w _ _ _ h
        · rw [if_pos hc] at h
          refine jw_iload_n hX dX7_frozen_25 rfl 1 rfl ?_
          refine jw_aload_n hX dX7_frozen_26 rfl 0 rfl ?_
          refine jw_mgetA hX hT inX7_frozen 22 (by decide) lkX7_frozen_62 rfl dX7_frozen_27 ?_
          refine jw_iload_n hX dX7_frozen_30 rfl 3 rfl ?_
          obtain ⟨hb31, h⟩ := chk_some h
          refine jw_miald hX hT 17 22 rfl rfl hb31 dX7_frozen_31 ?_
          refine jw_aload_n hX dX7_frozen_32 rfl 0 rfl ?_
          refine jw_mgetA hX hT inX7_frozen 23 (by decide) lkX7_frozen_65 rfl dX7_frozen_33 ?_
          refine jw_iload_n hX dX7_frozen_36 rfl 3 rfl ?_
          obtain ⟨hb37, h⟩ := chk_some h
          refine jw_miald hX hT 18 23 rfl rfl hb37 dX7_frozen_37 ?_
          obtain ⟨r38, hc38, h⟩ := bP_some h
          refine jw_cSi (As := [.int v1, .int (w.2 22 (v3).toNatClampNeg), .int (w.2 23 (v3).toNatClampNeg)]) hX jG0_ok hGX 3 (kX7_isIn hT hc38) gX7_frozen_X7_isIn rfl hdX7_isIn ⟨by decide, by decide⟩ rfl (Nat.le_of_ble_eq_true rfl) dX7_frozen_38 rfl rfl ⟨by decide, by decide⟩ ?_
          refine jw_if_eq (tgt := 48) hX dX7_frozen_41 (by decide) (fun hc => ?_) (fun hc => ?_)
          · rw [if_pos hc] at h
            refine jw_iconst (v := (0 : Int32)) hX dX7_frozen_48 (by decide) ?_
            refine jw_istore_n hX [(2, .int (0 : Int32)), (0, .ref a), (1, .int v1), (3, .int v3)] dX7_frozen_49 rfl (by decide) rfl ?_
            refine jw_iinc (v := (v3 + (1 : Int32))) hX [(3, .int (v3 + (1 : Int32))), (2, .int (0 : Int32)), (0, .ref a), (1, .int v1)] dX7_frozen_50 3 rfl (by first | rfl | (congr 1; decide)) (by decide) rfl ?_
            refine jw_goto (tgt := 4) hX dX7_frozen_53 (by decide) ?_
            refine jw_sub [2, 3, 1, 0] [(0, .ref a), (1, .int v1), (2, .int (0 : Int32)), (3, .int (v3 + (1 : Int32)))] rfl ?_
            exact hrec w _ _ _ h
          · rw [if_neg hc] at h
            refine jw_iconst (v := (1 : Int32)) hX dX7_frozen_44 (by decide) ?_
            refine jw_goto (tgt := 49) hX dX7_frozen_45 (by decide) ?_
            refine jw_istore_n hX [(2, .int (1 : Int32)), (0, .ref a), (1, .int v1), (3, .int v3)] dX7_frozen_49 rfl (by decide) rfl ?_
            refine jw_iinc (v := (v3 + (1 : Int32))) hX [(3, .int (v3 + (1 : Int32))), (2, .int (1 : Int32)), (0, .ref a), (1, .int v1)] dX7_frozen_50 3 rfl (by first | rfl | (congr 1; decide)) (by decide) rfl ?_
            refine jw_goto (tgt := 4) hX dX7_frozen_53 (by decide) ?_
            refine jw_sub [2, 3, 1, 0] [(0, .ref a), (1, .int v1), (2, .int (1 : Int32)), (3, .int (v3 + (1 : Int32)))] rfl ?_
            exact hrec w _ _ _ h
set_option maxRecDepth 100000 in
set_option maxHeartbeats 4000000 in
theorem sX7_frozen {X : JX} {a : Nat} {ad : Nat → Nat} {cI cZ cO cJ : ClassId} {n : Nat} {w : MW} {post : Option Value → va_W → Prop} (hX : jOK X cX7_frozen 4 wsX7_frozen RX7 rmX7_frozen) (hT : jT X = jTy cI cZ cO cJ) (hGX : jG X jG0) (hret : jRZ X cX7_frozen rmX7_frozen post) {o : Int32} (hro : ∀ v9 : Int32, o = v9 → post (some (.int v9)) (mW a ad cI cZ w)) {v1 : Int32} (h : fX7_frozen n w v1 = some o) : JW X 0 0 (mW a ad cI cZ w) 0 [(0, .ref a), (1, .int v1)] [] := by
  unfold fX7_frozen at h
  refine jw_iconst (v := (0 : Int32)) hX dX7_frozen_0 (by decide) ?_
  refine jw_istore_n hX [(2, .int (0 : Int32)), (0, .ref a), (1, .int v1)] dX7_frozen_1 rfl (by decide) rfl ?_
  refine jw_iconst (v := (0 : Int32)) hX dX7_frozen_2 (by decide) ?_
  refine jw_istore_n hX [(3, .int (0 : Int32)), (2, .int (0 : Int32)), (0, .ref a), (1, .int v1)] dX7_frozen_3 rfl (by decide) rfl ?_
  refine jw_sub [2, 3, 1, 0] [(0, .ref a), (1, .int v1), (2, .int (0 : Int32)), (3, .int (0 : Int32))] rfl ?_
  obtain ⟨x2_4, hl4, h⟩ := bL1_some h
  refine sX7_frozen_L4 hX hT hGX hret (o := x2_4) (fun q0 e9 => ?_) n _ _ _ hl4
  cases e9
  refine jw_iload_n hX dX7_frozen_56 rfl 0 rfl ?_
  obtain ⟨hz57, h⟩ := chk_some h
  exact hret _ _ _ _ _ _ (b01_or hz57) (Nat.zero_le _) (Nat.zero_le _) dX7_frozen_57 (hro _ (Option.some.inj h).symm)
set_option maxRecDepth 100000 in
set_option maxHeartbeats 4000000 in
theorem kX7_frozen {l : Launch} {D : va_G} {tys : List (ClassId × FieldType)} {a : Nat} {ad : Nat → Nat} {cI cZ cO cJ : ClassId} {n : Nat} {w : MW} {v1 : Int32} {r : Int32} (hT : tys = jTy cI cZ cO cJ) (h : fX7_frozen n w v1 = some r) : CC l jG0 D tys yX7_frozen wsX7_frozen rmX7_frozen [.ref a, .int v1] (mW a ad cI cZ w) (fun ov w2 => ov = some (.int r) ∧ w2 = (mW a ad cI cZ w)) := by
  refine CC_of (cc := cX7_frozen) (maxL := 4) (ret := (some .boolean)) (by decide) rfl (Nat.le_of_ble_eq_true rfl) ?_
  intro X hD hL hT0 hGX hX rI rZ rV rA
  exact sX7_frozen (post := fun ov w2 => ov = some (.int r) ∧ w2 = (mW a ad cI cZ w)) hX (hT0.trans hT) hGX (fun cells slots w9 pc lv v => rZ cells slots w9 pc lv v rfl) (o := r) (fun v9 e9 => by cases e9; exact ⟨rfl, rfl⟩) h
/-! X7_write -/
abbrev rmX7_write : Room := { frames := 5, cells := 0, slots := 0, locals := 119 }
theorem hdX7_write : yX7_write.cls = RX7 ∧ yX7_write.cls ≠ "java/lang/invoke/MethodHandle" ∧ yX7_write.cls ≠ "java/lang/invoke/VarHandle" ∧ (parseMethodDescriptor yX7_write.desc).map (fun d => d.parameters.length) = some 1 := by decide +kernel
def fX7_write_J73 (n : Nat) (w : MW) (v1 v4 t0 : Int32) : Option (Int32 × MW) := b2 (fX7_isOf w t0) (fun r73 w73 => (if r73 = 0 then chk (b01 (0 : Int32)) (some ((0 : Int32), w73)) else bP (fX7_lays n w73 v1) (fun w83 => bP (fX7_proves n w83 ) (fun w87 => chk (b01 v4) (some (v4, w87))))))
def fX7_write_J68 (n : Nat) (w : MW) (v1 v4 : Int32) : Option (Int32 × MW) := fX7_write_J73 n w v1 v4 (2 : Int32)
def fX7_write_J72 (n : Nat) (w : MW) (v1 v4 : Int32) : Option (Int32 × MW) := fX7_write_J73 n w v1 v4 (0 : Int32)
def fX7_write_J40 (n : Nat) (w : MW) (v1 v2 v3 t0 : Int32) : Option (Int32 × MW) := (if v2 = 0 then fX7_write_J73 n w v1 t0 (1 : Int32) else (if v3 = 0 then fX7_write_J68 n w v1 t0 else (if t0 = 0 then fX7_write_J72 n w v1 t0 else bP (fX7_frozen n w v1) (fun r62 => (if r62 = 0 then fX7_write_J72 n w v1 t0 else fX7_write_J68 n w v1 t0)))))
def fX7_write_J39 (n : Nat) (w : MW) (v1 v2 v3 : Int32) : Option (Int32 × MW) := fX7_write_J40 n w v1 v2 v3 (0 : Int32)
def fX7_write_J22 (n : Nat) (w : MW) (v1 v2 t0 : Int32) : Option (Int32 × MW) := (if t0 = 0 then fX7_write_J39 n w v1 v2 t0 else bP (fX7_isOther n w v1) (fun r29 => (if r29 = 0 then fX7_write_J39 n w v1 v2 t0 else fX7_write_J40 n w v1 v2 t0 (1 : Int32))))
def fX7_write_J21 (n : Nat) (w : MW) (v1 v2 : Int32) : Option (Int32 × MW) := fX7_write_J22 n w v1 v2 (0 : Int32)
def fX7_write (n : Nat) (w : MW) (v1 : Int32) : Option (Int32 × MW) := bP (fX7_isEntry w v1) (fun r2 => (if r2 = 0 then fX7_write_J21 n w v1 r2 else b2 (fX7_canBe n w ) (fun r11 w11 => (if r11 = 0 then fX7_write_J21 n w11 v1 r2 else fX7_write_J22 n w11 v1 r2 (1 : Int32)))))
set_option maxRecDepth 100000 in
set_option maxHeartbeats 4000000 in
theorem sX7_write_J73 {X : JX} {a : Nat} {ad : Nat → Nat} {cI cZ cO cJ : ClassId} {n : Nat} {post : Option Value → va_W → Prop} (hX : jOK X cX7_write 5 wsX7_write RX7 rmX7_write) (hT : jT X = jTy cI cZ cO cJ) (hGX : jG X jG0) (hret : jRZ X cX7_write rmX7_write post) {o : (Int32 × MW)}   (hro : ∀ (v9 : Int32) (w9 : MW), o = (v9, w9) → post (some (.int v9)) (mW a ad cI cZ w9)) {w : MW} {v1 v4 t0 : Int32} (h : fX7_write_J73 n w v1 v4 t0 = some o) : JW X 0 0 (mW a ad cI cZ w) 73 [(0, .ref a), (1, .int v1), (4, .int v4)] [.int t0, .ref a] := by
  unfold fX7_write_J73 at h
  obtain ⟨r73, w73, hc73, h⟩ := b2_some h
  refine jw_cVi (As := [.int t0]) hX jG0_ok hGX 1 (kX7_isOf hT hc73) gX7_write_X7_isOf rfl hdX7_isOf ⟨by decide, by decide⟩ 0 7 rfl rfl rfl (Nat.le_of_ble_eq_true rfl) dX7_write_73 rfl rfl ⟨by decide, by decide⟩ ?_
  refine jw_if_ne (tgt := 81) hX dX7_write_76 (by decide) (fun hc => ?_) (fun hc => ?_)
  · rw [if_neg hc] at h
    refine jw_aload_n hX dX7_write_81 rfl 0 rfl ?_
    refine jw_iload_n hX dX7_write_82 rfl 1 rfl ?_
    obtain ⟨w83, hc83, h⟩ := bP_some h
    refine jw_cVv (As := [.int v1]) hX jG0_ok hGX 1 (kX7_lays hT hc83) gX7_write_X7_lays rfl hdX7_lays ⟨by decide, by decide⟩ 0 7 rfl rfl rfl (Nat.le_of_ble_eq_true rfl) dX7_write_83 rfl rfl ⟨by decide, by decide⟩ ?_
    refine jw_aload_n hX dX7_write_86 rfl 0 rfl ?_
    obtain ⟨w87, hc87, h⟩ := bP_some h
    refine jw_cVv (As := []) hX jG0_ok hGX 0 (kX7_proves hT hc87) gX7_write_X7_proves rfl hdX7_proves ⟨by decide, by decide⟩ 0 7 rfl rfl rfl (Nat.le_of_ble_eq_true rfl) dX7_write_87 rfl rfl ⟨by decide, by decide⟩ ?_
    refine jw_iload hX dX7_write_90 2 rfl ?_
    obtain ⟨hz92, h⟩ := chk_some h
    exact hret _ _ _ _ _ _ (b01_or hz92) (Nat.zero_le _) (Nat.zero_le _) dX7_write_92 (hro _ _ (Option.some.inj h).symm)
  · rw [if_pos hc] at h
    refine jw_iconst (v := (0 : Int32)) hX dX7_write_79 (by decide) ?_
    obtain ⟨hz80, h⟩ := chk_some h
    exact hret _ _ _ _ _ _ (b01_or hz80) (Nat.zero_le _) (Nat.zero_le _) dX7_write_80 (hro _ _ (Option.some.inj h).symm)
set_option maxRecDepth 100000 in
set_option maxHeartbeats 4000000 in
theorem sX7_write_J68 {X : JX} {a : Nat} {ad : Nat → Nat} {cI cZ cO cJ : ClassId} {n : Nat} {post : Option Value → va_W → Prop} (hX : jOK X cX7_write 5 wsX7_write RX7 rmX7_write) (hT : jT X = jTy cI cZ cO cJ) (hGX : jG X jG0) (hret : jRZ X cX7_write rmX7_write post) {o : (Int32 × MW)}   (hro : ∀ (v9 : Int32) (w9 : MW), o = (v9, w9) → post (some (.int v9)) (mW a ad cI cZ w9)) {w : MW} {v1 v4 : Int32} (h : fX7_write_J68 n w v1 v4 = some o) : JW X 0 0 (mW a ad cI cZ w) 68 [(0, .ref a), (1, .int v1), (4, .int v4)] [.ref a] := by
  unfold fX7_write_J68 at h
  refine jw_iconst (v := (2 : Int32)) hX dX7_write_68 (by decide) ?_
  refine jw_goto (tgt := 73) hX dX7_write_69 (by decide) ?_
  exact sX7_write_J73 hX hT hGX hret hro h
set_option maxRecDepth 100000 in
set_option maxHeartbeats 4000000 in
theorem sX7_write_J72 {X : JX} {a : Nat} {ad : Nat → Nat} {cI cZ cO cJ : ClassId} {n : Nat} {post : Option Value → va_W → Prop} (hX : jOK X cX7_write 5 wsX7_write RX7 rmX7_write) (hT : jT X = jTy cI cZ cO cJ) (hGX : jG X jG0) (hret : jRZ X cX7_write rmX7_write post) {o : (Int32 × MW)}   (hro : ∀ (v9 : Int32) (w9 : MW), o = (v9, w9) → post (some (.int v9)) (mW a ad cI cZ w9)) {w : MW} {v1 v4 : Int32} (h : fX7_write_J72 n w v1 v4 = some o) : JW X 0 0 (mW a ad cI cZ w) 72 [(0, .ref a), (1, .int v1), (4, .int v4)] [.ref a] := by
  unfold fX7_write_J72 at h
  refine jw_iconst (v := (0 : Int32)) hX dX7_write_72 (by decide) ?_
  exact sX7_write_J73 hX hT hGX hret hro h
set_option maxRecDepth 100000 in
set_option maxHeartbeats 4000000 in
theorem sX7_write_J40 {X : JX} {a : Nat} {ad : Nat → Nat} {cI cZ cO cJ : ClassId} {n : Nat} {post : Option Value → va_W → Prop} (hX : jOK X cX7_write 5 wsX7_write RX7 rmX7_write) (hT : jT X = jTy cI cZ cO cJ) (hGX : jG X jG0) (hret : jRZ X cX7_write rmX7_write post) {o : (Int32 × MW)}   (hro : ∀ (v9 : Int32) (w9 : MW), o = (v9, w9) → post (some (.int v9)) (mW a ad cI cZ w9)) {w : MW} {v1 v2 v3 t0 : Int32} (h : fX7_write_J40 n w v1 v2 v3 t0 = some o) : JW X 0 0 (mW a ad cI cZ w) 40 [(0, .ref a), (1, .int v1), (2, .int v2), (3, .int v3)] [.int t0] := by
  unfold fX7_write_J40 at h
  refine jw_istore hX [(4, .int t0), (0, .ref a), (1, .int v1), (2, .int v2), (3, .int v3)] dX7_write_40 (by decide) rfl ?_
  refine jw_aload_n hX dX7_write_42 rfl 1 rfl ?_
  refine jw_iload_n hX dX7_write_43 rfl 3 rfl ?_
  refine jw_if_ne (tgt := 51) hX dX7_write_44 (by decide) (fun hc => ?_) (fun hc => ?_)
  · rw [if_neg hc] at h
    refine jw_iload_n hX dX7_write_51 rfl 4 rfl ?_
    refine jw_if_eq (tgt := 68) hX dX7_write_52 (by decide) (fun hc => ?_) (fun hc => ?_)
    · rw [if_pos hc] at h
      refine jw_sub [1, 2, 0] [(0, .ref a), (1, .int v1), (4, .int t0)] rfl ?_
      exact sX7_write_J68 hX hT hGX hret hro h
    · rw [if_neg hc] at h
      refine jw_iload hX dX7_write_55 0 rfl ?_
      refine jw_if_eq (tgt := 72) hX dX7_write_57 (by decide) (fun hc => ?_) (fun hc => ?_)
      · rw [if_pos hc] at h
        refine jw_sub [1, 2, 0] [(0, .ref a), (1, .int v1), (4, .int t0)] rfl ?_
        exact sX7_write_J72 hX hT hGX hret hro h
      · rw [if_neg hc] at h
        refine jw_aload_n hX dX7_write_60 rfl 1 rfl ?_
        refine jw_iload_n hX dX7_write_61 rfl 2 rfl ?_
        obtain ⟨r62, hc62, h⟩ := bP_some h
        refine jw_cVi (As := [.int v1]) hX jG0_ok hGX 1 (kX7_frozen hT hc62) gX7_write_X7_frozen rfl hdX7_frozen ⟨by decide, by decide⟩ 0 7 rfl rfl rfl (Nat.le_of_ble_eq_true rfl) dX7_write_62 rfl rfl ⟨by decide, by decide⟩ ?_
        refine jw_if_eq (tgt := 72) hX dX7_write_65 (by decide) (fun hc => ?_) (fun hc => ?_)
        · rw [if_pos hc] at h
          refine jw_sub [1, 2, 0] [(0, .ref a), (1, .int v1), (4, .int t0)] rfl ?_
          exact sX7_write_J72 hX hT hGX hret hro h
        · rw [if_neg hc] at h
          refine jw_sub [1, 2, 0] [(0, .ref a), (1, .int v1), (4, .int t0)] rfl ?_
          exact sX7_write_J68 hX hT hGX hret hro h
  · rw [if_pos hc] at h
    refine jw_iconst (v := (1 : Int32)) hX dX7_write_47 (by decide) ?_
    refine jw_goto (tgt := 73) hX dX7_write_48 (by decide) ?_
    refine jw_sub [1, 2, 0] [(0, .ref a), (1, .int v1), (4, .int t0)] rfl ?_
    exact sX7_write_J73 hX hT hGX hret hro h
set_option maxRecDepth 100000 in
set_option maxHeartbeats 4000000 in
theorem sX7_write_J39 {X : JX} {a : Nat} {ad : Nat → Nat} {cI cZ cO cJ : ClassId} {n : Nat} {post : Option Value → va_W → Prop} (hX : jOK X cX7_write 5 wsX7_write RX7 rmX7_write) (hT : jT X = jTy cI cZ cO cJ) (hGX : jG X jG0) (hret : jRZ X cX7_write rmX7_write post) {o : (Int32 × MW)}   (hro : ∀ (v9 : Int32) (w9 : MW), o = (v9, w9) → post (some (.int v9)) (mW a ad cI cZ w9)) {w : MW} {v1 v2 v3 : Int32} (h : fX7_write_J39 n w v1 v2 v3 = some o) : JW X 0 0 (mW a ad cI cZ w) 39 [(0, .ref a), (1, .int v1), (2, .int v2), (3, .int v3)] [] := by
  unfold fX7_write_J39 at h
  refine jw_iconst (v := (0 : Int32)) hX dX7_write_39 (by decide) ?_
  exact sX7_write_J40 hX hT hGX hret hro h
set_option maxRecDepth 100000 in
set_option maxHeartbeats 4000000 in
theorem sX7_write_J22 {X : JX} {a : Nat} {ad : Nat → Nat} {cI cZ cO cJ : ClassId} {n : Nat} {post : Option Value → va_W → Prop} (hX : jOK X cX7_write 5 wsX7_write RX7 rmX7_write) (hT : jT X = jTy cI cZ cO cJ) (hGX : jG X jG0) (hret : jRZ X cX7_write rmX7_write post) {o : (Int32 × MW)}   (hro : ∀ (v9 : Int32) (w9 : MW), o = (v9, w9) → post (some (.int v9)) (mW a ad cI cZ w9)) {w : MW} {v1 v2 t0 : Int32} (h : fX7_write_J22 n w v1 v2 t0 = some o) : JW X 0 0 (mW a ad cI cZ w) 22 [(0, .ref a), (1, .int v1), (2, .int v2)] [.int t0] := by
  unfold fX7_write_J22 at h
  refine jw_istore_n hX [(3, .int t0), (0, .ref a), (1, .int v1), (2, .int v2)] dX7_write_22 rfl (by decide) rfl ?_
  refine jw_iload_n hX dX7_write_23 rfl 0 rfl ?_
  refine jw_if_eq (tgt := 39) hX dX7_write_24 (by decide) (fun hc => ?_) (fun hc => ?_)
  · rw [if_pos hc] at h
    refine jw_sub [1, 2, 3, 0] [(0, .ref a), (1, .int v1), (2, .int v2), (3, .int t0)] rfl ?_
    exact sX7_write_J39 hX hT hGX hret hro h
  · rw [if_neg hc] at h
    refine jw_aload_n hX dX7_write_27 rfl 1 rfl ?_
    refine jw_iload_n hX dX7_write_28 rfl 2 rfl ?_
    obtain ⟨r29, hc29, h⟩ := bP_some h
    refine jw_cVi (As := [.int v1]) hX jG0_ok hGX 1 (kX7_isOther hT hc29) gX7_write_X7_isOther rfl hdX7_isOther ⟨by decide, by decide⟩ 0 7 rfl rfl rfl (Nat.le_of_ble_eq_true rfl) dX7_write_29 rfl rfl ⟨by decide, by decide⟩ ?_
    refine jw_if_eq (tgt := 39) hX dX7_write_32 (by decide) (fun hc => ?_) (fun hc => ?_)
    · rw [if_pos hc] at h
      refine jw_sub [1, 2, 3, 0] [(0, .ref a), (1, .int v1), (2, .int v2), (3, .int t0)] rfl ?_
      exact sX7_write_J39 hX hT hGX hret hro h
    · rw [if_neg hc] at h
      refine jw_iconst (v := (1 : Int32)) hX dX7_write_35 (by decide) ?_
      refine jw_goto (tgt := 40) hX dX7_write_36 (by decide) ?_
      refine jw_sub [1, 2, 3, 0] [(0, .ref a), (1, .int v1), (2, .int v2), (3, .int t0)] rfl ?_
      exact sX7_write_J40 hX hT hGX hret hro h
set_option maxRecDepth 100000 in
set_option maxHeartbeats 4000000 in
theorem sX7_write_J21 {X : JX} {a : Nat} {ad : Nat → Nat} {cI cZ cO cJ : ClassId} {n : Nat} {post : Option Value → va_W → Prop} (hX : jOK X cX7_write 5 wsX7_write RX7 rmX7_write) (hT : jT X = jTy cI cZ cO cJ) (hGX : jG X jG0) (hret : jRZ X cX7_write rmX7_write post) {o : (Int32 × MW)}   (hro : ∀ (v9 : Int32) (w9 : MW), o = (v9, w9) → post (some (.int v9)) (mW a ad cI cZ w9)) {w : MW} {v1 v2 : Int32} (h : fX7_write_J21 n w v1 v2 = some o) : JW X 0 0 (mW a ad cI cZ w) 21 [(0, .ref a), (1, .int v1), (2, .int v2)] [] := by
  unfold fX7_write_J21 at h
  refine jw_iconst (v := (0 : Int32)) hX dX7_write_21 (by decide) ?_
  exact sX7_write_J22 hX hT hGX hret hro h
set_option maxRecDepth 100000 in
set_option maxHeartbeats 4000000 in
theorem sX7_write {X : JX} {a : Nat} {ad : Nat → Nat} {cI cZ cO cJ : ClassId} {n : Nat} {post : Option Value → va_W → Prop} (hX : jOK X cX7_write 5 wsX7_write RX7 rmX7_write) (hT : jT X = jTy cI cZ cO cJ) (hGX : jG X jG0) (hret : jRZ X cX7_write rmX7_write post) {o : (Int32 × MW)} (hro : ∀ (v9 : Int32) (w9 : MW), o = (v9, w9) → post (some (.int v9)) (mW a ad cI cZ w9)) {w : MW} {v1 : Int32} (h : fX7_write n w v1 = some o) : JW X 0 0 (mW a ad cI cZ w) 0 [(0, .ref a), (1, .int v1)] [] := by
  unfold fX7_write at h
  refine jw_aload_n hX dX7_write_0 rfl 0 rfl ?_
  refine jw_iload_n hX dX7_write_1 rfl 1 rfl ?_
  obtain ⟨r2, hc2, h⟩ := bP_some h
  refine jw_cVi (As := [.int v1]) hX jG0_ok hGX 1 (kX7_isEntry hT hc2) gX7_write_X7_isEntry rfl hdX7_isEntry ⟨by decide, by decide⟩ 0 7 rfl rfl rfl (Nat.le_of_ble_eq_true rfl) dX7_write_2 rfl rfl ⟨by decide, by decide⟩ ?_
  refine jw_istore_n hX [(2, .int r2), (0, .ref a), (1, .int v1)] dX7_write_5 rfl (by decide) rfl ?_
  refine jw_iload_n hX dX7_write_6 rfl 0 rfl ?_
  refine jw_if_eq (tgt := 21) hX dX7_write_7 (by decide) (fun hc => ?_) (fun hc => ?_)
  · rw [if_pos hc] at h
    refine jw_sub [1, 2, 0] [(0, .ref a), (1, .int v1), (2, .int r2)] rfl ?_
    exact sX7_write_J21 hX hT hGX hret hro h
  · rw [if_neg hc] at h
    refine jw_aload_n hX dX7_write_10 rfl 1 rfl ?_
    obtain ⟨r11, w11, hc11, h⟩ := b2_some h
    refine jw_cVi (As := []) hX jG0_ok hGX 0 (kX7_canBe hT hc11) gX7_write_X7_canBe rfl hdX7_canBe ⟨by decide, by decide⟩ 0 7 rfl rfl rfl (Nat.le_of_ble_eq_true rfl) dX7_write_11 rfl rfl ⟨by decide, by decide⟩ ?_
    refine jw_if_eq (tgt := 21) hX dX7_write_14 (by decide) (fun hc => ?_) (fun hc => ?_)
    · rw [if_pos hc] at h
      refine jw_sub [1, 2, 0] [(0, .ref a), (1, .int v1), (2, .int r2)] rfl ?_
      exact sX7_write_J21 hX hT hGX hret hro h
    · rw [if_neg hc] at h
      refine jw_iconst (v := (1 : Int32)) hX dX7_write_17 (by decide) ?_
      refine jw_goto (tgt := 22) hX dX7_write_18 (by decide) ?_
      refine jw_sub [1, 2, 0] [(0, .ref a), (1, .int v1), (2, .int r2)] rfl ?_
      exact sX7_write_J22 hX hT hGX hret hro h
set_option maxRecDepth 100000 in
set_option maxHeartbeats 4000000 in
theorem kX7_write {l : Launch} {D : va_G} {tys : List (ClassId × FieldType)} {a : Nat} {ad : Nat → Nat} {cI cZ cO cJ : ClassId} {n : Nat} {w : MW} {v1 : Int32} {r : Int32} {w1 : MW} (hT : tys = jTy cI cZ cO cJ) (h : fX7_write n w v1 = some (r, w1)) : CC l jG0 D tys yX7_write wsX7_write rmX7_write [.ref a, .int v1] (mW a ad cI cZ w) (fun ov w2 => ov = some (.int r) ∧ w2 = (mW a ad cI cZ w1)) := by
  refine CC_of (cc := cX7_write) (maxL := 5) (ret := (some .boolean)) (by decide) rfl (Nat.le_of_ble_eq_true rfl) ?_
  intro X hD hL hT0 hGX hX rI rZ rV rA
  exact sX7_write (post := fun ov w2 => ov = some (.int r) ∧ w2 = (mW a ad cI cZ w1)) hX (hT0.trans hT) hGX (fun cells slots w9 pc lv v => rZ cells slots w9 pc lv v rfl) (o := (r, w1)) (fun v9 w9 e9 => by cases e9; exact ⟨rfl, rfl⟩) h
/-! X7_strike -/
abbrev rmX7_strike : Room := { frames := 2, cells := 0, slots := 0, locals := 45 }
theorem hdX7_strike : yX7_strike.cls = RX7 ∧ yX7_strike.cls ≠ "java/lang/invoke/MethodHandle" ∧ yX7_strike.cls ≠ "java/lang/invoke/VarHandle" ∧ (parseMethodDescriptor yX7_strike.desc).map (fun d => d.parameters.length) = some 1 := by decide +kernel
theorem inX7_strike : ∀ w ∈ wsX70, w ∈ wsX7_strike := fun _ h => List.mem_cons_of_mem _ (List.mem_append_right _ h)
theorem lkX7_strike_126 : Cond.fieldLink RX7 126 "PostlintModel" (TX7 3).2.1 (TX7 3).2.2.1 ∈ wsX7_strike := by decide +kernel
theorem lkX7_strike_13 : Cond.fieldLink RX7 13 "PostlintModel" (TX7 4).2.1 (TX7 4).2.2.1 ∈ wsX7_strike := by decide +kernel
theorem lkX7_strike_17 : Cond.fieldLink RX7 17 "PostlintModel" (TX7 5).2.1 (TX7 5).2.2.1 ∈ wsX7_strike := by decide +kernel
theorem lkX7_strike_20 : Cond.fieldLink RX7 20 "PostlintModel" (TX7 6).2.1 (TX7 6).2.2.1 ∈ wsX7_strike := by decide +kernel
theorem lkX7_strike_23 : Cond.fieldLink RX7 23 "PostlintModel" (TX7 7).2.1 (TX7 7).2.2.1 ∈ wsX7_strike := by decide +kernel
theorem lkX7_strike_26 : Cond.fieldLink RX7 26 "PostlintModel" (TX7 8).2.1 (TX7 8).2.2.1 ∈ wsX7_strike := by decide +kernel
theorem lkX7_strike_29 : Cond.fieldLink RX7 29 "PostlintModel" (TX7 9).2.1 (TX7 9).2.2.1 ∈ wsX7_strike := by decide +kernel
def fX7_strike_L104 (n : Nat) : Nat → MW → Int32 → Int32 → Option (Int32)
  | 0, _, _, _ => none
  | k + 1, w, v3, v4 => (if (w.1 3) ≤ v4 then some (v3) else chk (inB v4 (mLen 4)) ((if (w.2 4 (v4).toNatClampNeg) = 0 then bnd ((v3 + (1 : Int32))) (fun y130 => fX7_strike_L104 n k w y130 ((v4 + (1 : Int32)))) else bnd ((v3 + (0 : Int32))) (fun y130 => fX7_strike_L104 n k w y130 ((v4 + (1 : Int32)))))))
def fX7_strike_J37 (n : Nat) (w : MW) (v1 t0 : Int32) : Option (Int32 × MW) := b2 (fX7_isOf w t0) (fun r37 w37 => (if r37 = 0 then some ((0 : Int32), w37) else chk (inB v1 (mLen 4)) (chk (b01 (1 : Int32)) (bnd (mA w37 4 (v1).toNatClampNeg (1 : Int32)) (fun w51 => chk (inB v1 (mLen 5)) (bnd (mA w51 5 (v1).toNatClampNeg (1 : Int32)) (fun w58 => chk (inB ((60 : Int32) * v1) (mLen 6)) (bnd (mA w58 6 (((60 : Int32) * v1)).toNatClampNeg (45 : Int32)) (fun w69 => chk (inB v1 (mLen 7)) (bnd (mA w69 7 (v1).toNatClampNeg (1 : Int32)) (fun w76 => chk (inB ((60 : Int32) * v1) (mLen 8)) (bnd (mA w76 8 (((60 : Int32) * v1)).toNatClampNeg (45 : Int32)) (fun w87 => chk (inB v1 (mLen 9)) (bnd (mA w87 9 (v1).toNatClampNeg (0 : Int32)) (fun w94 => bP (fX7_proves n w94 ) (fun w96 => bL1 (fX7_strike_L104 n n w96 (0 : Int32) (0 : Int32)) (fun x3_104 => some (x3_104, w96))))))))))))))))))
def fX7_strike_J32 (n : Nat) (w : MW) (v1 : Int32) : Option (Int32 × MW) := fX7_strike_J37 n w v1 (2 : Int32)
def fX7_strike (n : Nat) (w : MW) (v1 : Int32) : Option (Int32 × MW) := bP (fX7_isEntry w v1) (fun r2 => (if r2 = 0 then fX7_strike_J37 n w v1 (1 : Int32) else chk (inB v1 (mLen 4)) ((if (w.2 4 (v1).toNatClampNeg) = 0 then bP (fX7_frozen n w v1) (fun r26 => (if r26 = 0 then fX7_strike_J37 n w v1 (0 : Int32) else fX7_strike_J32 n w v1)) else fX7_strike_J32 n w v1))))
set_option maxRecDepth 100000 in
set_option maxHeartbeats 4000000 in
theorem sX7_strike_L104 {X : JX} {a : Nat} {ad : Nat → Nat} {cI cZ cO cJ : ClassId} {n : Nat} {post : Option Value → va_W → Prop} (hX : jOK X cX7_strike 5 wsX7_strike RX7 rmX7_strike) (hT : jT X = jTy cI cZ cO cJ) (hGX : jG X jG0) (hret : jRI X cX7_strike rmX7_strike post) {w : MW} {o : (Int32)} (hex : ∀ (x3 : Int32), o = x3 → JW X 0 0 (mW a ad cI cZ w) 137 [(3, .int x3)] [])  : ∀ (k : Nat) (v3 v4 : Int32), fX7_strike_L104 n k w v3 v4 = some o → JW X 0 0 (mW a ad cI cZ w) 104 [(0, .ref a), (3, .int v3), (4, .int v4)] [] := by
  intro k
  induction k with
  | zero => intro v3 v4 h; cases h
  | succ k hrec0 =>
    intro v3 v4 h
    have hrec := fun (_ : MW) => hrec0
    unfold fX7_strike_L104 at h
    refine jw_iload hX dX7_strike_104 2 rfl ?_
    refine jw_aload_n hX dX7_strike_106 rfl 0 rfl ?_
    refine jw_mgetI hX hT inX7_strike 3 (by decide) lkX7_strike_126 rfl dX7_strike_107 ?_
    refine jw_icmp_ge (tgt := 137) hX dX7_strike_110 (by decide) (fun hc => ?_) (fun hc => ?_)
    · rw [if_pos hc] at h
      refine jw_sub [1] [(3, .int v3)] rfl ?_
      exact hex _ (Option.some.inj h).symm
    · rw [if_neg hc] at h
      refine jw_iload_n hX dX7_strike_113 rfl 1 rfl ?_
      refine jw_aload_n hX dX7_strike_114 rfl 0 rfl ?_
      refine jw_mgetA hX hT inX7_strike 4 (by decide) lkX7_strike_13 rfl dX7_strike_115 ?_
      refine jw_iload hX dX7_strike_118 2 rfl ?_
      obtain ⟨hb120, h⟩ := chk_some h
      refine jw_mzald hX hT 1 4 rfl rfl hb120 dX7_strike_120 ?_
      refine jw_if_eq (tgt := 128) hX dX7_strike_121 (by decide) (fun hc => ?_) (fun hc => ?_)
      · rw [if_pos hc] at h
        refine jw_iconst (v := (1 : Int32)) hX dX7_strike_128 (by decide) ?_
        refine jw_iadd hX dX7_strike_129 ?_
        refine jw_topi (fun y130 e130 => ?_)
        replace h := bnd_some h y130 e130
        clear e130
        refine jw_istore_n hX [(3, .int y130), (0, .ref a), (4, .int v4)] dX7_strike_130 rfl (by decide) rfl ?_
        refine jw_iinc (v := (v4 + (1 : Int32))) hX [(4, .int (v4 + (1 : Int32))), (3, .int y130), (0, .ref a)] dX7_strike_131 2 rfl (by first | rfl | (congr 1; decide)) (by decide) rfl ?_
        refine jw_goto (tgt := 104) hX dX7_strike_134 (by decide) ?_
        refine jw_sub [2, 1, 0] [(0, .ref a), (3, .int y130), (4, .int (v4 + (1 : Int32)))] rfl ?_
        exact hrec w _ _ h
      · rw [if_neg hc] at h
        refine jw_iconst (v := (0 : Int32)) hX dX7_strike_124 (by decide) ?_
        refine jw_goto (tgt := 129) hX dX7_strike_125 (by decide) ?_
        refine jw_iadd hX dX7_strike_129 ?_
        refine jw_topi (fun y130 e130 => ?_)
        replace h := bnd_some h y130 e130
        clear e130
        refine jw_istore_n hX [(3, .int y130), (0, .ref a), (4, .int v4)] dX7_strike_130 rfl (by decide) rfl ?_
        refine jw_iinc (v := (v4 + (1 : Int32))) hX [(4, .int (v4 + (1 : Int32))), (3, .int y130), (0, .ref a)] dX7_strike_131 2 rfl (by first | rfl | (congr 1; decide)) (by decide) rfl ?_
        refine jw_goto (tgt := 104) hX dX7_strike_134 (by decide) ?_
        refine jw_sub [2, 1, 0] [(0, .ref a), (3, .int y130), (4, .int (v4 + (1 : Int32)))] rfl ?_
        exact hrec w _ _ h
set_option maxRecDepth 100000 in
set_option maxHeartbeats 4000000 in
theorem sX7_strike_J37 {X : JX} {a : Nat} {ad : Nat → Nat} {cI cZ cO cJ : ClassId} {n : Nat} {post : Option Value → va_W → Prop} (hX : jOK X cX7_strike 5 wsX7_strike RX7 rmX7_strike) (hT : jT X = jTy cI cZ cO cJ) (hGX : jG X jG0) (hret : jRI X cX7_strike rmX7_strike post) {o : (Int32 × MW)}   (hro : ∀ (v9 : Int32) (w9 : MW), o = (v9, w9) → post (some (.int v9)) (mW a ad cI cZ w9)) {w : MW} {v1 t0 : Int32} (h : fX7_strike_J37 n w v1 t0 = some o) : JW X 0 0 (mW a ad cI cZ w) 37 [(0, .ref a), (1, .int v1)] [.int t0, .ref a] := by
  unfold fX7_strike_J37 at h
  obtain ⟨r37, w37, hc37, h⟩ := b2_some h
  refine jw_cVi (As := [.int t0]) hX jG0_ok hGX 1 (kX7_isOf hT hc37) gX7_strike_X7_isOf rfl hdX7_isOf ⟨by decide, by decide⟩ 0 7 rfl rfl rfl (Nat.le_of_ble_eq_true rfl) dX7_strike_37 rfl rfl ⟨by decide, by decide⟩ ?_
  refine jw_if_ne (tgt := 45) hX dX7_strike_40 (by decide) (fun hc => ?_) (fun hc => ?_)
  · rw [if_neg hc] at h
    refine jw_aload_n hX dX7_strike_45 rfl 0 rfl ?_
    refine jw_mgetA hX hT inX7_strike 4 (by decide) lkX7_strike_13 rfl dX7_strike_46 ?_
    refine jw_iload_n hX dX7_strike_49 rfl 1 rfl ?_
    refine jw_iconst (v := (1 : Int32)) hX dX7_strike_50 (by decide) ?_
    obtain ⟨hb51, h⟩ := chk_some h
    obtain ⟨hz51, h⟩ := chk_some h
    refine jw_mzast hX hT 1 4 rfl rfl hb51 hz51 dX7_strike_51 (fun w51 e51 => ?_)
    replace h := bnd_some h w51 e51
    clear e51
    refine jw_aload_n hX dX7_strike_52 rfl 0 rfl ?_
    refine jw_mgetA hX hT inX7_strike 5 (by decide) lkX7_strike_17 rfl dX7_strike_53 ?_
    refine jw_iload_n hX dX7_strike_56 rfl 1 rfl ?_
    refine jw_iconst (v := (1 : Int32)) hX dX7_strike_57 (by decide) ?_
    obtain ⟨hb58, h⟩ := chk_some h
    refine jw_miast hX hT 2 5 rfl rfl hb58 dX7_strike_58 (fun w58 e58 => ?_)
    replace h := bnd_some h w58 e58
    clear e58
    refine jw_aload_n hX dX7_strike_59 rfl 0 rfl ?_
    refine jw_mgetA hX hT inX7_strike 6 (by decide) lkX7_strike_20 rfl dX7_strike_60 ?_
    refine jw_bipush (v := (60 : Int32)) hX dX7_strike_63 (by decide) ?_
    refine jw_iload_n hX dX7_strike_65 rfl 1 rfl ?_
    refine jw_imul hX dX7_strike_66 ?_
    refine jw_bipush (v := (45 : Int32)) hX dX7_strike_67 (by decide) ?_
    obtain ⟨hb69, h⟩ := chk_some h
    refine jw_miast hX hT 3 6 rfl rfl hb69 dX7_strike_69 (fun w69 e69 => ?_)
    replace h := bnd_some h w69 e69
    clear e69
    refine jw_aload_n hX dX7_strike_70 rfl 0 rfl ?_
    refine jw_mgetA hX hT inX7_strike 7 (by decide) lkX7_strike_23 rfl dX7_strike_71 ?_
    refine jw_iload_n hX dX7_strike_74 rfl 1 rfl ?_
    refine jw_iconst (v := (1 : Int32)) hX dX7_strike_75 (by decide) ?_
    obtain ⟨hb76, h⟩ := chk_some h
    refine jw_miast hX hT 4 7 rfl rfl hb76 dX7_strike_76 (fun w76 e76 => ?_)
    replace h := bnd_some h w76 e76
    clear e76
    refine jw_aload_n hX dX7_strike_77 rfl 0 rfl ?_
    refine jw_mgetA hX hT inX7_strike 8 (by decide) lkX7_strike_26 rfl dX7_strike_78 ?_
    refine jw_bipush (v := (60 : Int32)) hX dX7_strike_81 (by decide) ?_
    refine jw_iload_n hX dX7_strike_83 rfl 1 rfl ?_
    refine jw_imul hX dX7_strike_84 ?_
    refine jw_bipush (v := (45 : Int32)) hX dX7_strike_85 (by decide) ?_
    obtain ⟨hb87, h⟩ := chk_some h
    refine jw_miast hX hT 5 8 rfl rfl hb87 dX7_strike_87 (fun w87 e87 => ?_)
    replace h := bnd_some h w87 e87
    clear e87
    refine jw_aload_n hX dX7_strike_88 rfl 0 rfl ?_
    refine jw_mgetA hX hT inX7_strike 9 (by decide) lkX7_strike_29 rfl dX7_strike_89 ?_
    refine jw_iload_n hX dX7_strike_92 rfl 1 rfl ?_
    refine jw_iconst (v := (0 : Int32)) hX dX7_strike_93 (by decide) ?_
    obtain ⟨hb94, h⟩ := chk_some h
    refine jw_miast hX hT 6 9 rfl rfl hb94 dX7_strike_94 (fun w94 e94 => ?_)
    replace h := bnd_some h w94 e94
    clear e94
    refine jw_aload_n hX dX7_strike_95 rfl 0 rfl ?_
    obtain ⟨w96, hc96, h⟩ := bP_some h
    refine jw_cVv (As := []) hX jG0_ok hGX 0 (kX7_proves hT hc96) gX7_strike_X7_proves rfl hdX7_proves ⟨by decide, by decide⟩ 0 7 rfl rfl rfl (Nat.le_of_ble_eq_true rfl) dX7_strike_96 rfl rfl ⟨by decide, by decide⟩ ?_
    refine jw_iconst (v := (0 : Int32)) hX dX7_strike_99 (by decide) ?_
    refine jw_istore_n hX [(3, .int (0 : Int32)), (0, .ref a), (1, .int v1)] dX7_strike_100 rfl (by decide) rfl ?_
    refine jw_iconst (v := (0 : Int32)) hX dX7_strike_101 (by decide) ?_
    refine jw_istore hX [(4, .int (0 : Int32)), (3, .int (0 : Int32)), (0, .ref a), (1, .int v1)] dX7_strike_102 (by decide) rfl ?_
    refine jw_sub [2, 1, 0] [(0, .ref a), (3, .int (0 : Int32)), (4, .int (0 : Int32))] rfl ?_
    obtain ⟨x3_104, hl104, h⟩ := bL1_some h
    refine sX7_strike_L104 hX hT hGX hret (o := x3_104) (fun q0 e9 => ?_) n _ _ hl104
    cases e9
    refine jw_iload_n hX dX7_strike_137 rfl 0 rfl ?_
    exact hret _ _ _ _ _ _ (Nat.zero_le _) (Nat.zero_le _) dX7_strike_138 (hro _ _ (Option.some.inj h).symm)
  · rw [if_pos hc] at h
    refine jw_iconst (v := (0 : Int32)) hX dX7_strike_43 (by decide) ?_
    exact hret _ _ _ _ _ _ (Nat.zero_le _) (Nat.zero_le _) dX7_strike_44 (hro _ _ (Option.some.inj h).symm)
set_option maxRecDepth 100000 in
set_option maxHeartbeats 4000000 in
theorem sX7_strike_J32 {X : JX} {a : Nat} {ad : Nat → Nat} {cI cZ cO cJ : ClassId} {n : Nat} {post : Option Value → va_W → Prop} (hX : jOK X cX7_strike 5 wsX7_strike RX7 rmX7_strike) (hT : jT X = jTy cI cZ cO cJ) (hGX : jG X jG0) (hret : jRI X cX7_strike rmX7_strike post) {o : (Int32 × MW)}   (hro : ∀ (v9 : Int32) (w9 : MW), o = (v9, w9) → post (some (.int v9)) (mW a ad cI cZ w9)) {w : MW} {v1 : Int32} (h : fX7_strike_J32 n w v1 = some o) : JW X 0 0 (mW a ad cI cZ w) 32 [(0, .ref a), (1, .int v1)] [.ref a] := by
  unfold fX7_strike_J32 at h
  refine jw_iconst (v := (2 : Int32)) hX dX7_strike_32 (by decide) ?_
  refine jw_goto (tgt := 37) hX dX7_strike_33 (by decide) ?_
  exact sX7_strike_J37 hX hT hGX hret hro h
set_option maxRecDepth 100000 in
set_option maxHeartbeats 4000000 in
theorem sX7_strike {X : JX} {a : Nat} {ad : Nat → Nat} {cI cZ cO cJ : ClassId} {n : Nat} {post : Option Value → va_W → Prop} (hX : jOK X cX7_strike 5 wsX7_strike RX7 rmX7_strike) (hT : jT X = jTy cI cZ cO cJ) (hGX : jG X jG0) (hret : jRI X cX7_strike rmX7_strike post) {o : (Int32 × MW)} (hro : ∀ (v9 : Int32) (w9 : MW), o = (v9, w9) → post (some (.int v9)) (mW a ad cI cZ w9)) {w : MW} {v1 : Int32} (h : fX7_strike n w v1 = some o) : JW X 0 0 (mW a ad cI cZ w) 0 [(0, .ref a), (1, .int v1)] [] := by
  unfold fX7_strike at h
  refine jw_aload_n hX dX7_strike_0 rfl 0 rfl ?_
  refine jw_iload_n hX dX7_strike_1 rfl 1 rfl ?_
  obtain ⟨r2, hc2, h⟩ := bP_some h
  refine jw_cVi (As := [.int v1]) hX jG0_ok hGX 1 (kX7_isEntry hT hc2) gX7_strike_X7_isEntry rfl hdX7_isEntry ⟨by decide, by decide⟩ 0 7 rfl rfl rfl (Nat.le_of_ble_eq_true rfl) dX7_strike_2 rfl rfl ⟨by decide, by decide⟩ ?_
  refine jw_istore_n hX [(2, .int r2), (0, .ref a), (1, .int v1)] dX7_strike_5 rfl (by decide) rfl ?_
  refine jw_aload_n hX dX7_strike_6 rfl 1 rfl ?_
  refine jw_iload_n hX dX7_strike_7 rfl 0 rfl ?_
  refine jw_if_ne (tgt := 15) hX dX7_strike_8 (by decide) (fun hc => ?_) (fun hc => ?_)
  · rw [if_neg hc] at h
    refine jw_aload_n hX dX7_strike_15 rfl 1 rfl ?_
    refine jw_mgetA hX hT inX7_strike 4 (by decide) lkX7_strike_13 rfl dX7_strike_16 ?_
    refine jw_iload_n hX dX7_strike_19 rfl 2 rfl ?_
    obtain ⟨hb20, h⟩ := chk_some h
    refine jw_mzald hX hT 1 4 rfl rfl hb20 dX7_strike_20 ?_
    refine jw_if_ne (tgt := 32) hX dX7_strike_21 (by decide) (fun hc => ?_) (fun hc => ?_)
    · rw [if_neg hc] at h
      refine jw_sub [1, 2] [(0, .ref a), (1, .int v1)] rfl ?_
      exact sX7_strike_J32 hX hT hGX hret hro h
    · rw [if_pos hc] at h
      refine jw_aload_n hX dX7_strike_24 rfl 1 rfl ?_
      refine jw_iload_n hX dX7_strike_25 rfl 2 rfl ?_
      obtain ⟨r26, hc26, h⟩ := bP_some h
      refine jw_cVi (As := [.int v1]) hX jG0_ok hGX 1 (kX7_frozen hT hc26) gX7_strike_X7_frozen rfl hdX7_frozen ⟨by decide, by decide⟩ 0 7 rfl rfl rfl (Nat.le_of_ble_eq_true rfl) dX7_strike_26 rfl rfl ⟨by decide, by decide⟩ ?_
      refine jw_if_eq (tgt := 36) hX dX7_strike_29 (by decide) (fun hc => ?_) (fun hc => ?_)
      · rw [if_pos hc] at h
        refine jw_iconst (v := (0 : Int32)) hX dX7_strike_36 (by decide) ?_
        refine jw_sub [1, 2] [(0, .ref a), (1, .int v1)] rfl ?_
        exact sX7_strike_J37 hX hT hGX hret hro h
      · rw [if_neg hc] at h
        refine jw_sub [1, 2] [(0, .ref a), (1, .int v1)] rfl ?_
        exact sX7_strike_J32 hX hT hGX hret hro h
  · rw [if_pos hc] at h
    refine jw_iconst (v := (1 : Int32)) hX dX7_strike_11 (by decide) ?_
    refine jw_goto (tgt := 37) hX dX7_strike_12 (by decide) ?_
    refine jw_sub [1, 2] [(0, .ref a), (1, .int v1)] rfl ?_
    exact sX7_strike_J37 hX hT hGX hret hro h
set_option maxRecDepth 100000 in
set_option maxHeartbeats 4000000 in
theorem kX7_strike {l : Launch} {D : va_G} {tys : List (ClassId × FieldType)} {a : Nat} {ad : Nat → Nat} {cI cZ cO cJ : ClassId} {n : Nat} {w : MW} {v1 : Int32} {r : Int32} {w1 : MW} (hT : tys = jTy cI cZ cO cJ) (h : fX7_strike n w v1 = some (r, w1)) : CC l jG0 D tys yX7_strike wsX7_strike rmX7_strike [.ref a, .int v1] (mW a ad cI cZ w) (fun ov w2 => ov = some (.int r) ∧ w2 = (mW a ad cI cZ w1)) := by
  refine CC_of (cc := cX7_strike) (maxL := 5) (ret := (some .int)) (by decide) rfl (Nat.le_of_ble_eq_true rfl) ?_
  intro X hD hL hT0 hGX hX rI rZ rV rA
  exact sX7_strike (post := fun ov w2 => ov = some (.int r) ∧ w2 = (mW a ad cI cZ w1)) hX (hT0.trans hT) hGX (fun cells slots w9 pc lv v => rI cells slots w9 pc lv v rfl) (o := (r, w1)) (fun v9 w9 e9 => by cases e9; exact ⟨rfl, rfl⟩) h
